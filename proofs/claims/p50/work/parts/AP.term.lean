/-! The law's walk: a term appended (pc 133 on). -/
/-- what is left to show of a state -/
def lG (Ls : Nat) (o : Option j_Z) : Prop := ∃ (E1 : List (Nat × Nat)) (E2 : List (List (Option Nat))) (m : j_M0), o = some (some (jI 1), hH (Ls, E1, E2) m) ∧ E1.length ≤ 100000 ∧ (E1.map (fun q => q.2)).sum ≤ 1900000
theorem gS {Ls : Nat} {a b : Option j_Z} (e : a = b) (h : lG Ls b) : lG Ls a := by
  rw [e]
  exact h
theorem lJ_w {k k' : Nat} {B : j_B} {m : j_M0} (w : lJ k B m) (h : k ≤ k') : lJ k' B m := by
  obtain ⟨⟨a, b, c⟩, d⟩ := w
  exact ⟨⟨a, by omega, by omega⟩, d⟩
theorem suP_w {n v v' : Nat} {s : List Int} {φ : Nat → Int} (w : suP n s φ v) (h : v' ≤ v) : suP n s φ v' := by
  rcases w with w | ⟨w, u, hu, w2⟩
  · exact Or.inl w
  · exact Or.inr ⟨w, u, by omega, w2⟩
theorem chr_0 : ∀ j : Nat, j < 128 → j_chr (j : Int) = (j : Int) := by decide +kernel
theorem chr_p {p : Nat} (hp : p ≤ 5) : j_chr (w32 (97 + (p : Int))) = 97 + (p : Int) := by
  rw [w32_id (by omega) (by omega), show 97 + (p : Int) = ((97 + p : Nat) : Int) by omega]
  exact chr_0 _ (by omega)
theorem dg_f {f : Int} (hf : 0 ≤ f ∧ f ≤ 9) : dgF f = [48 + f] := by
  rw [dg_a (u := f.natAbs) hf rfl, show ((f.natAbs % 10 : Nat) : Int) = f by omega]
theorem bS_beg {h0 : j_H} (hw : h0.2.1.length = h0.1.length) (h2 : 2 ≤ h0.1.length) (hl : h0.1.length < 700000) : ∃ i0 : j_H, c_call 10 286 [jR h0.1.length] (j_new h0 1 4) = some (none, i0) ∧ bS 2 h0 i0 h0.1.length (h0.1.length + 1) 16 [] := ⟨_, bS_ini hl, bS_new hw h2 hl⟩
theorem lJ_t {k : Nat} {B : j_B} {m : j_M0} (w : lJ k B m) (i : Nat) (hi : i < 10) (u v : Nat) (s : List Int) (hu : u = 1000000 + 2 * i) (hv : v = 1000001 + 2 * i) (hs : txF i = s) : sT (hH B m) u v s := by
  rw [hu, hv, ← hs]
  exact w.2.2 i hi
theorem tx_0 : txF 0 = [] := by decide +kernel
theorem tx_1 : txF 1 = [45] := by decide +kernel
theorem tx_2 : txF 2 = [43] := by decide +kernel
theorem tx_3 : txF 3 = [62] := by decide +kernel
theorem tx_4 : txF 4 = [60] := by decide +kernel
theorem tx_5 : txF 5 = [59, 97] := by decide +kernel
theorem tx_6 : txF 6 = [120] := by decide +kernel
theorem tx_7 : txF 7 = [59, 57, 97, 43, 97, 62, 49] := by decide +kernel
theorem tx_8 : txF 8 = [97, 62, 45, 49, 48, 48] := by decide +kernel
theorem tx_9 : txF 9 = [62, 49] := by decide +kernel
theorem T_350 {Ls : Nat} {B : j_B} {m : j_M0} {A n T F U p k bu : Nat} {Q e f z14 z15 : Int} {h : j_H} {kk a b c u v : Nat} {s1 ds : List Int} (w : lJ bu B m) (hbu : bu ≤ 5000) (wa : bS kk (hH B m) h a b c s1) (hkk : kk ≤ 9) (wt : sT h u v ds) (hv : v ≠ b) (hv2 : 2 ≤ v) (hds : ds.length ≤ 17) (hs : s1.length ≤ 40) (hp : p ≤ 5) (hk : k < 100) (K : ∀ (Bn : j_B) (mn : j_M0) (U1 V1 : Nat), Bn.1 = B.1 → lJ (bu + 13) Bn mn → (∀ a i : Nat, a < 114 → mn a i = m a i) → xF (fun _ => False) 13 5200 (hH B m) (hH Bn mn) → sT (hH Bn mn) U1 V1 (s1 ++ ds ++ [97 + (p : Int)]) → 2 ≤ V1 → lG Ls (j_fin (c_call 10) 271 133 [some (jR 0), some (jR 2), some (jI Q), some (jI (n : Int)), some (jI 1), some (jR A), some (jI (T : Int)), some (jI (T : Int)), some (jI e), some (jR F), some (jR U1), some (jI (((k + 1 : Nat) : Int))), some (jI f), some (jI (p : Int)), some (jI z14), some (jI z15), none, none, none, none, none, none] [] (hH Bn mn))) : lG Ls (j_fin (c_call 10) 271 350 [some (jR 0), some (jR 2), some (jI Q), some (jI (n : Int)), some (jI 1), some (jR A), some (jI (T : Int)), some (jI (T : Int)), some (jI e), some (jR F), some (jR U), some (jI (k : Int)), some (jI f), some (jI (p : Int)), some (jI z14), some (jI z15), none, none, none, none, none, none] [jR u, jR a] h) := by
  have hw0 := lJ_hw w
  have hl := lJ_hl w
  obtain ⟨h1, b1, c1, e1, w1⟩ := bS_app wa hw0 wt hv hv2 hds (by omega) (by omega) (by omega)
  have l1 : (s1 ++ ds).length ≤ 57 := by
    rw [List.length_append]
    omega
  obtain ⟨h2, b2, c2, e2, w2⟩ := bS_let (x := 97 + (p : Int)) w1 hw0 (by omega) (by omega) (by omega) (by omega)
  have l2 := bS_l w2
  obtain ⟨h3, e3, t3, x3, y3, z3⟩ := bS_str w2 (by
    rw [List.length_append]
    show _ + 1 ≤ 60
    omega) (by omega) (by omega)
  have x4 : xF (fun _ => False) 13 5200 (hH B m) h3 := xF_w x3 hw0 (fun _ h => h.elim) (by omega) (by omega)
  obtain ⟨Bn, mn, hE, b', w', q'⟩ := lJ_x (j := 13) w x4 y3 (by omega)
  subst hE
  have K1 := K Bn mn _ _ b' w' q' x4 t3 (by omega)
  refine gS (S_invv (b := 1) (by decide) kn_283 rfl (bS_k wa) (Nat.le_of_ble_eq_true rfl) at_271_350) ?_
  show lG Ls (((c_call 10) 283 [jR a, jR u] h).bind _)
  rw [e1]
  show lG Ls (j_fin (c_call 10) 271 353 [some (jR 0), some (jR 2), some (jI Q), some (jI (n : Int)), some (jI 1), some (jR A), some (jI (T : Int)), some (jI (T : Int)), some (jI e), some (jR F), some (jR U), some (jI (k : Int)), some (jI f), some (jI (p : Int)), some (jI z14), some (jI z15), none, none, none, none, none, none] [jR a] h1)
  refine gS (S_bipush at_271_353) ?_
  refine gS (S_iload rfl at_271_355) ?_
  refine gS (S_iadd at_271_357) ?_
  refine gS (S_i2c at_271_358) ?_
  rw [show j_chr (w32 (97 + (p : Int))) = 97 + (p : Int) from chr_p hp]
  refine gS (S_invv (b := 1) (by decide) kn_285 rfl (bS_k w1) (Nat.le_of_ble_eq_true rfl) at_271_359) ?_
  show lG Ls (((c_call 10) 285 [jR a, jI (97 + (p : Int))] h1).bind _)
  rw [e2]
  show lG Ls (j_fin (c_call 10) 271 362 [some (jR 0), some (jR 2), some (jI Q), some (jI (n : Int)), some (jI 1), some (jR A), some (jI (T : Int)), some (jI (T : Int)), some (jI e), some (jR F), some (jR U), some (jI (k : Int)), some (jI f), some (jI (p : Int)), some (jI z14), some (jI z15), none, none, none, none, none, none] [jR a] h2)
  refine gS (S_invv (b := 0) (by decide) kn_288 rfl (bS_k w2) (Nat.le_of_ble_eq_true rfl) at_271_362) ?_
  show lG Ls (((c_call 10) 288 [jR a] h2).bind _)
  rw [e3]
  show lG Ls (j_fin (c_call 10) 271 365 [some (jR 0), some (jR 2), some (jI Q), some (jI (n : Int)), some (jI 1), some (jR A), some (jI (T : Int)), some (jI (T : Int)), some (jI e), some (jR F), some (jR U), some (jI (k : Int)), some (jI f), some (jI (p : Int)), some (jI z14), some (jI z15), none, none, none, none, none, none] [jR (h2.1.length)] (hH Bn mn))
  refine gS (S_astore (l1 := [some (jR 0), some (jR 2), some (jI Q), some (jI (n : Int)), some (jI 1), some (jR A), some (jI (T : Int)), some (jI (T : Int)), some (jI e), some (jR F), some (jR (h2.1.length)), some (jI (k : Int)), some (jI f), some (jI (p : Int)), some (jI z14), some (jI z15), none, none, none, none, none, none]) rfl at_271_365) ?_
  refine gS (S_iinc (l1 := [some (jR 0), some (jR 2), some (jI Q), some (jI (n : Int)), some (jI 1), some (jR A), some (jI (T : Int)), some (jI (T : Int)), some (jI e), some (jR F), some (jR (h2.1.length)), some (jI (w32 ((k : Int) + 1))), some (jI f), some (jI (p : Int)), some (jI z14), some (jI z15), none, none, none, none, none, none]) rfl rfl at_271_367) ?_
  rw [show w32 ((k : Int) + 1) = ((k + 1 : Nat) : Int) from nat1 (by omega)]
  refine gS (S_goto at_271_370) ?_
  exact K1
theorem T_330 {Ls : Nat} {B : j_B} {m : j_M0} {A n T F U p k bu : Nat} {Q e f z14 z15 : Int} {h : j_H} {a b c : Nat} {s1 : List Int} (w : lJ bu B m) (hbu : bu ≤ 5000) (wa : bS 4 (hH B m) h a b c s1) (hs : s1.length ≤ 40) (hf : 0 ≤ f ∧ f ≤ 9) (hp : p ≤ 5) (hk : k < 100) (K : ∀ (Bn : j_B) (mn : j_M0) (U1 V1 : Nat), Bn.1 = B.1 → lJ (bu + 13) Bn mn → (∀ a i : Nat, a < 114 → mn a i = m a i) → xF (fun _ => False) 13 5200 (hH B m) (hH Bn mn) → sT (hH Bn mn) U1 V1 (s1 ++ dgF f ++ [97 + (p : Int)]) → 2 ≤ V1 → lG Ls (j_fin (c_call 10) 271 133 [some (jR 0), some (jR 2), some (jI Q), some (jI (n : Int)), some (jI 1), some (jR A), some (jI (T : Int)), some (jI (T : Int)), some (jI e), some (jR F), some (jR U1), some (jI (((k + 1 : Nat) : Int))), some (jI f), some (jI (p : Int)), some (jI z14), some (jI z15), none, none, none, none, none, none] [] (hH Bn mn))) : lG Ls (j_fin (c_call 10) 271 330 [some (jR 0), some (jR 2), some (jI Q), some (jI (n : Int)), some (jI 1), some (jR A), some (jI (T : Int)), some (jI (T : Int)), some (jI e), some (jR F), some (jR U), some (jI (k : Int)), some (jI f), some (jI (p : Int)), some (jI z14), some (jI z15), none, none, none, none, none, none] [jR a] h) := by
  have hw0 := lJ_hw w
  have hl := lJ_hl w
  have la := bS_l wa
  have hwh := wa.2.2.1
  obtain ⟨i0, e0, w0⟩ := bS_beg hwh (by omega) (by omega)
  have t0 : sT h 1000000 1000001 [] := sT_x wa.2.1 hw0 (by omega) (lJ_t w 0 (by omega) _ _ _ rfl rfl tx_0) (fun h => h) (fun h => h)
  have l0 := bS_l w0
  obtain ⟨i1, b1, c1, e1, w1⟩ := bS_app w0 hwh (sT_x w0.2.1 hwh (by omega) t0 (fun h => h) (fun h => h)) (by omega) (by omega) (by decide) (by decide) (by omega) (by omega)
  obtain ⟨i2, e2, w2⟩ := bS_num (x := f) w1 hwh (kmD_x wa.2.1 ⟨fun h => h, fun h => h⟩ w.2.1) (by omega) (by decide) (by omega) (by omega)
  have l2 := bS_l w2
  obtain ⟨i3, e3, t3, x3, y3, z3⟩ := bS_str w2 (by
    show (dgF f).length ≤ 60
    have := dgF_l f
    omega) (by omega) (by omega)
  have t3' : sT i3 i2.1.length (i2.1.length + 1) (dgF f) := t3
  have K1 := T_350 (Q := Q) (e := e) (f := f) (z14 := z14) (z15 := z15) (A := A) (n := n) (T := T) (F := F) (U := U) w hbu (bS_x wa x3 y3) (by omega) t3' (by omega) (by omega) (by have := dgF_l f; omega) hs hp hk K
  refine gS (S_new ⟨by decide, by omega⟩ at_271_330) ?_
  show lG Ls (j_fin (c_call 10) 271 333 [some (jR 0), some (jR 2), some (jI Q), some (jI (n : Int)), some (jI 1), some (jR A), some (jI (T : Int)), some (jI (T : Int)), some (jI e), some (jR F), some (jR U), some (jI (k : Int)), some (jI f), some (jI (p : Int)), some (jI z14), some (jI z15), none, none, none, none, none, none] [jR (h.1.length), jR a] (j_new h 1 4))
  refine gS (S_dup rfl at_271_333) ?_
  refine gS (S_invi (b := 0) (kd := 0) (by decide) kn_286 rfl (Nat.le_of_ble_eq_true rfl) at_271_334) ?_
  show lG Ls (((c_call 10) 286 [jR (h.1.length)] (j_new h 1 4)).bind _)
  rw [e0]
  show lG Ls (j_fin (c_call 10) 271 337 [some (jR 0), some (jR 2), some (jI Q), some (jI (n : Int)), some (jI 1), some (jR A), some (jI (T : Int)), some (jI (T : Int)), some (jI e), some (jR F), some (jR U), some (jI (k : Int)), some (jI f), some (jI (p : Int)), some (jI z14), some (jI z15), none, none, none, none, none, none] [jR (h.1.length), jR a] i0)
  refine gS (S_ldcT rfl at_271_337) ?_
  show lG Ls (j_fin (c_call 10) 271 339 [some (jR 0), some (jR 2), some (jI Q), some (jI (n : Int)), some (jI 1), some (jR A), some (jI (T : Int)), some (jI (T : Int)), some (jI e), some (jR F), some (jR U), some (jI (k : Int)), some (jI f), some (jI (p : Int)), some (jI z14), some (jI z15), none, none, none, none, none, none] [jR 1000000, jR (h.1.length), jR a] i0)
  refine gS (S_invv (b := 1) (by decide) kn_283 rfl (bS_k w0) (Nat.le_of_ble_eq_true rfl) at_271_339) ?_
  show lG Ls (((c_call 10) 283 [jR (h.1.length), jR 1000000] i0).bind _)
  rw [e1]
  show lG Ls (j_fin (c_call 10) 271 342 [some (jR 0), some (jR 2), some (jI Q), some (jI (n : Int)), some (jI 1), some (jR A), some (jI (T : Int)), some (jI (T : Int)), some (jI e), some (jR F), some (jR U), some (jI (k : Int)), some (jI f), some (jI (p : Int)), some (jI z14), some (jI z15), none, none, none, none, none, none] [jR (h.1.length), jR a] i1)
  refine gS (S_iload rfl at_271_342) ?_
  refine gS (S_invv (b := 1) (by decide) kn_284 rfl (bS_k w1) (Nat.le_of_ble_eq_true rfl) at_271_344) ?_
  show lG Ls (((c_call 10) 284 [jR (h.1.length), jI f] i1).bind _)
  rw [e2]
  show lG Ls (j_fin (c_call 10) 271 347 [some (jR 0), some (jR 2), some (jI Q), some (jI (n : Int)), some (jI 1), some (jR A), some (jI (T : Int)), some (jI (T : Int)), some (jI e), some (jR F), some (jR U), some (jI (k : Int)), some (jI f), some (jI (p : Int)), some (jI z14), some (jI z15), none, none, none, none, none, none] [jR (h.1.length), jR a] i2)
  refine gS (S_invv (b := 0) (by decide) kn_288 rfl (bS_k w2) (Nat.le_of_ble_eq_true rfl) at_271_347) ?_
  show lG Ls (((c_call 10) 288 [jR (h.1.length)] i2).bind _)
  rw [e3]
  show lG Ls (j_fin (c_call 10) 271 350 [some (jR 0), some (jR 2), some (jI Q), some (jI (n : Int)), some (jI 1), some (jR A), some (jI (T : Int)), some (jI (T : Int)), some (jI e), some (jR F), some (jR U), some (jI (k : Int)), some (jI f), some (jI (p : Int)), some (jI z14), some (jI z15), none, none, none, none, none, none] [jR (i2.1.length), jR a] i3)
  exact K1
theorem T_306 {Ls : Nat} {B : j_B} {m : j_M0} {A n T F U p k bu : Nat} {Q e f z14 z15 : Int} {h : j_H} {a b c u v : Nat} {s1 sg : List Int} (w : lJ bu B m) (hbu : bu ≤ 5000) (wa : bS 3 (hH B m) h a b c s1) (wt : sT h u v sg) (hv : v ≠ b) (hv2 : 2 ≤ v) (hsg : sg.length ≤ 1) (hs : s1.length ≤ 30) (hf : 0 ≤ f ∧ f ≤ 9) (hp : p ≤ 5) (hk : k < 100) (K : ∀ (Bn : j_B) (mn : j_M0) (U1 V1 : Nat) (om : Bool), (om = true → f = 1) → Bn.1 = B.1 → lJ (bu + 13) Bn mn → (∀ a i : Nat, a < 114 → mn a i = m a i) → xF (fun _ => False) 13 5200 (hH B m) (hH Bn mn) → sT (hH Bn mn) U1 V1 (s1 ++ sg ++ dlF om f p) → 2 ≤ V1 → lG Ls (j_fin (c_call 10) 271 133 [some (jR 0), some (jR 2), some (jI Q), some (jI (n : Int)), some (jI 1), some (jR A), some (jI (T : Int)), some (jI (T : Int)), some (jI e), some (jR F), some (jR U1), some (jI (((k + 1 : Nat) : Int))), some (jI f), some (jI (p : Int)), some (jI z14), some (jI z15), none, none, none, none, none, none] [] (hH Bn mn))) : lG Ls (j_fin (c_call 10) 271 306 [some (jR 0), some (jR 2), some (jI Q), some (jI (n : Int)), some (jI 1), some (jR A), some (jI (T : Int)), some (jI (T : Int)), some (jI e), some (jR F), some (jR U), some (jI (k : Int)), some (jI f), some (jI (p : Int)), some (jI z14), some (jI z15), none, none, none, none, none, none] [jR u, jR a] h) := by
  have hw0 := lJ_hw w
  have hl := lJ_hl w
  obtain ⟨h1, b1, c1, e1, w1⟩ := bS_app wa hw0 wt hv hv2 (by omega) (by omega) (by omega) (by omega)
  have l1 : (s1 ++ sg).length ≤ 40 := by
    rw [List.length_append]
    omega
  have lb := bS_l w1
  have K0 := T_330 (Q := Q) (e := e) (f := f) (z14 := z14) (z15 := z15) (A := A) (n := n) (T := T) (F := F) (U := U) w hbu w1 l1 hf hp hk (fun Bn mn U1 V1 a1 a2 a3 a4 a5 a6 => K Bn mn U1 V1 false (fun h => absurd h (by decide)) a1 a2 a3 a4 (by
    rw [dg_f hf, List.append_assoc] at a5
    exact a5) a6)
  by_cases h1f : f = 1
  · by_cases hz : j_and (j_shr e 27) 1 = 0
    · have t0 : sT h1 1000000 1000001 [] := sT_x w1.2.1 hw0 (by omega) (lJ_t w 0 (by omega) _ _ _ rfl rfl tx_0) (fun h => h) (fun h => h)
      have K1 := T_350 (Q := Q) (e := e) (f := f) (z14 := z14) (z15 := z15) (A := A) (n := n) (T := T) (F := F) (U := U) w hbu w1 (by omega) t0 (by omega) (by omega) (by decide) l1 hp hk (fun Bn mn U1 V1 a1 a2 a3 a4 a5 a6 => K Bn mn U1 V1 true (fun _ => h1f) a1 a2 a3 a4 (by
        rw [List.append_assoc] at a5
        exact a5) a6)
      refine gS (S_invv (b := 1) (by decide) kn_283 rfl (bS_k wa) (Nat.le_of_ble_eq_true rfl) at_271_306) ?_
      show lG Ls (((c_call 10) 283 [jR a, jR u] h).bind _)
      rw [e1]
      show lG Ls (j_fin (c_call 10) 271 309 [some (jR 0), some (jR 2), some (jI Q), some (jI (n : Int)), some (jI 1), some (jR A), some (jI (T : Int)), some (jI (T : Int)), some (jI e), some (jR F), some (jR U), some (jI (k : Int)), some (jI f), some (jI (p : Int)), some (jI z14), some (jI z15), none, none, none, none, none, none] [jR a] h1)
      refine gS (S_iload rfl at_271_309) ?_
      refine gS (S_iconst at_271_311) ?_
      refine gS (S_icmp_ne at_271_312) ?_
      refine gS (if_pos h1f) ?_
      refine gS (S_iload rfl at_271_315) ?_
      refine gS (S_bipush at_271_317) ?_
      refine gS (S_ishr at_271_319) ?_
      refine gS (S_iconst at_271_320) ?_
      refine gS (S_iand at_271_321) ?_
      refine gS (S_if_ne at_271_322) ?_
      refine gS (if_pos hz) ?_
      refine gS (S_ldcT rfl at_271_325) ?_
      show lG Ls (j_fin (c_call 10) 271 327 [some (jR 0), some (jR 2), some (jI Q), some (jI (n : Int)), some (jI 1), some (jR A), some (jI (T : Int)), some (jI (T : Int)), some (jI e), some (jR F), some (jR U), some (jI (k : Int)), some (jI f), some (jI (p : Int)), some (jI z14), some (jI z15), none, none, none, none, none, none] [jR 1000000, jR a] h1)
      refine gS (S_goto at_271_327) ?_
      exact K1
    · skip
      refine gS (S_invv (b := 1) (by decide) kn_283 rfl (bS_k wa) (Nat.le_of_ble_eq_true rfl) at_271_306) ?_
      show lG Ls (((c_call 10) 283 [jR a, jR u] h).bind _)
      rw [e1]
      show lG Ls (j_fin (c_call 10) 271 309 [some (jR 0), some (jR 2), some (jI Q), some (jI (n : Int)), some (jI 1), some (jR A), some (jI (T : Int)), some (jI (T : Int)), some (jI e), some (jR F), some (jR U), some (jI (k : Int)), some (jI f), some (jI (p : Int)), some (jI z14), some (jI z15), none, none, none, none, none, none] [jR a] h1)
      refine gS (S_iload rfl at_271_309) ?_
      refine gS (S_iconst at_271_311) ?_
      refine gS (S_icmp_ne at_271_312) ?_
      refine gS (if_pos h1f) ?_
      refine gS (S_iload rfl at_271_315) ?_
      refine gS (S_bipush at_271_317) ?_
      refine gS (S_ishr at_271_319) ?_
      refine gS (S_iconst at_271_320) ?_
      refine gS (S_iand at_271_321) ?_
      refine gS (S_if_ne at_271_322) ?_
      refine gS (if_neg hz) ?_
      exact K0
  · skip
    refine gS (S_invv (b := 1) (by decide) kn_283 rfl (bS_k wa) (Nat.le_of_ble_eq_true rfl) at_271_306) ?_
    show lG Ls (((c_call 10) 283 [jR a, jR u] h).bind _)
    rw [e1]
    show lG Ls (j_fin (c_call 10) 271 309 [some (jR 0), some (jR 2), some (jI Q), some (jI (n : Int)), some (jI 1), some (jR A), some (jI (T : Int)), some (jI (T : Int)), some (jI e), some (jR F), some (jR U), some (jI (k : Int)), some (jI f), some (jI (p : Int)), some (jI z14), some (jI z15), none, none, none, none, none, none] [jR a] h1)
    refine gS (S_iload rfl at_271_309) ?_
    refine gS (S_iconst at_271_311) ?_
    refine gS (S_icmp_ne at_271_312) ?_
    refine gS (if_neg h1f) ?_
    exact K0
theorem T_2691 {Ls : Nat} {B : j_B} {m : j_M0} {A n T F U p k bu : Nat} {Q e f : Int} {V : Nat} {s : List Int} (w : lJ bu B m) (hbu : bu ≤ 5000) (ht : sT (hH B m) U V s) (hV : 2 ≤ V) (hs : s.length ≤ 17) (hf : 0 ≤ f ∧ f ≤ 9) (hp : p ≤ 5) (hk : k < 100) (K : ∀ (Bn : j_B) (mn : j_M0) (U1 V1 : Nat) (om : Bool), (om = true → f = 1) → Bn.1 = B.1 → lJ (bu + 13) Bn mn → (∀ a i : Nat, a < 114 → mn a i = m a i) → xF (fun _ => False) 13 5200 (hH B m) (hH Bn mn) → sT (hH Bn mn) U1 V1 (s ++ sgF true s ++ dlF om f p) → 2 ≤ V1 → lG Ls (j_fin (c_call 10) 271 133 [some (jR 0), some (jR 2), some (jI Q), some (jI (n : Int)), some (jI 1), some (jR A), some (jI (T : Int)), some (jI (T : Int)), some (jI e), some (jR F), some (jR U1), some (jI (((k + 1 : Nat) : Int))), some (jI f), some (jI (p : Int)), some (jI 1), some (jI 1), none, none, none, none, none, none] [] (hH Bn mn))) : lG Ls (j_fin (c_call 10) 271 269 [some (jR 0), some (jR 2), some (jI Q), some (jI (n : Int)), some (jI 1), some (jR A), some (jI (T : Int)), some (jI (T : Int)), some (jI e), some (jR F), some (jR U), some (jI (k : Int)), some (jI f), some (jI (p : Int)), some (jI 1), some (jI 1), none, none, none, none, none, none] [] (hH B m)) := by
  have hw0 := lJ_hw w
  have hl := lJ_hl w
  obtain ⟨i0, e0, w0⟩ := bS_beg hw0 (by omega) (by omega)
  have l0 := bS_l w0
  have lt := sT_lt ht (by omega)
  have t0 : sT i0 U V s := sT_x w0.2.1 hw0 (by omega) ht (fun h => h) (fun h => h)
  obtain ⟨i1, b1, c1, e1, w1⟩ := bS_app w0 hw0 t0 (by omega) hV hs (by decide) (by omega) (by omega)
  have l1 := bS_l w1
  have t1 : sT i1 U V s := sT_x w1.2.1 hw0 (by omega) ht (fun h => h) (fun h => h)
  have w1' : bS 3 (hH B m) i1 (hH B m).1.length b1 c1 s := w1
  have c1 : sT i1 1000002 1000003 [45] := sT_x w1.2.1 hw0 (by omega) (lJ_t w 1 (by omega) _ _ _ rfl rfl tx_1) (fun h => h) (fun h => h)
  have K1 := T_306 (Q := Q) (e := e) (f := f) (z14 := 1) (z15 := 1) (A := A) (n := n) (T := T) (F := F) (U := U) w hbu w1' c1 (by omega) (by omega) (by decide) (by omega) hf hp hk (fun Bn mn U1 V1 om a0 a1 a2 a3 a4 a5 a6 => K Bn mn U1 V1 om a0 a1 a2 a3 a4 (by
      rw [show sgF true s = [45] from rfl]
      exact a5) a6)
  refine gS (S_new ⟨by decide, by omega⟩ at_271_269) ?_
  show lG Ls (j_fin (c_call 10) 271 272 [some (jR 0), some (jR 2), some (jI Q), some (jI (n : Int)), some (jI 1), some (jR A), some (jI (T : Int)), some (jI (T : Int)), some (jI e), some (jR F), some (jR U), some (jI (k : Int)), some (jI f), some (jI (p : Int)), some (jI 1), some (jI 1), none, none, none, none, none, none] [jR ((hH B m).1.length)] ((j_new (hH B m) 1 4)))
  refine gS (S_dup rfl at_271_272) ?_
  refine gS (S_invi (b := 0) (kd := 0) (by decide) kn_286 rfl (Nat.le_of_ble_eq_true rfl) at_271_273) ?_
  show lG Ls (((c_call 10) 286 [jR ((hH B m).1.length)] ((j_new (hH B m) 1 4))).bind _)
  rw [e0]
  show lG Ls (j_fin (c_call 10) 271 276 [some (jR 0), some (jR 2), some (jI Q), some (jI (n : Int)), some (jI 1), some (jR A), some (jI (T : Int)), some (jI (T : Int)), some (jI e), some (jR F), some (jR U), some (jI (k : Int)), some (jI f), some (jI (p : Int)), some (jI 1), some (jI 1), none, none, none, none, none, none] [jR ((hH B m).1.length)] i0)
  refine gS (S_aload rfl at_271_276) ?_
  refine gS (S_invv (b := 1) (by decide) kn_283 rfl (bS_k w0) (Nat.le_of_ble_eq_true rfl) at_271_278) ?_
  show lG Ls (((c_call 10) 283 [jR ((hH B m).1.length), jR U] i0).bind _)
  rw [e1]
  show lG Ls (j_fin (c_call 10) 271 281 [some (jR 0), some (jR 2), some (jI Q), some (jI (n : Int)), some (jI 1), some (jR A), some (jI (T : Int)), some (jI (T : Int)), some (jI e), some (jR F), some (jR U), some (jI (k : Int)), some (jI f), some (jI (p : Int)), some (jI 1), some (jI 1), none, none, none, none, none, none] [jR ((hH B m).1.length)] i1)
  refine gS (S_iload rfl at_271_281) ?_
  refine gS (S_if_eq at_271_283) ?_
  refine gS (if_neg (by decide)) ?_
  refine gS (S_ldcT rfl at_271_286) ?_
  show lG Ls (j_fin (c_call 10) 271 288 [some (jR 0), some (jR 2), some (jI Q), some (jI (n : Int)), some (jI 1), some (jR A), some (jI (T : Int)), some (jI (T : Int)), some (jI e), some (jR F), some (jR U), some (jI (k : Int)), some (jI f), some (jI (p : Int)), some (jI 1), some (jI 1), none, none, none, none, none, none] [jR 1000002, jR ((hH B m).1.length)] i1)
  refine gS (S_goto at_271_288) ?_
  exact K1
theorem T_2690 {Ls : Nat} {B : j_B} {m : j_M0} {A n T F U p k bu : Nat} {Q e f : Int} {V : Nat} {s : List Int} (w : lJ bu B m) (hbu : bu ≤ 5000) (ht : sT (hH B m) U V s) (hV : 2 ≤ V) (hs : s.length ≤ 17) (hf : 0 ≤ f ∧ f ≤ 9) (hp : p ≤ 5) (hk : k < 100) (K : ∀ (Bn : j_B) (mn : j_M0) (U1 V1 : Nat) (om : Bool), (om = true → f = 1) → Bn.1 = B.1 → lJ (bu + 13) Bn mn → (∀ a i : Nat, a < 114 → mn a i = m a i) → xF (fun _ => False) 13 5200 (hH B m) (hH Bn mn) → sT (hH Bn mn) U1 V1 (s ++ sgF false s ++ dlF om f p) → 2 ≤ V1 → lG Ls (j_fin (c_call 10) 271 133 [some (jR 0), some (jR 2), some (jI Q), some (jI (n : Int)), some (jI 1), some (jR A), some (jI (T : Int)), some (jI (T : Int)), some (jI e), some (jR F), some (jR U1), some (jI (((k + 1 : Nat) : Int))), some (jI f), some (jI (p : Int)), some (jI 0), some (jI 1), none, none, none, none, none, none] [] (hH Bn mn))) : lG Ls (j_fin (c_call 10) 271 269 [some (jR 0), some (jR 2), some (jI Q), some (jI (n : Int)), some (jI 1), some (jR A), some (jI (T : Int)), some (jI (T : Int)), some (jI e), some (jR F), some (jR U), some (jI (k : Int)), some (jI f), some (jI (p : Int)), some (jI 0), some (jI 1), none, none, none, none, none, none] [] (hH B m)) := by
  have hw0 := lJ_hw w
  have hl := lJ_hl w
  obtain ⟨i0, e0, w0⟩ := bS_beg hw0 (by omega) (by omega)
  have l0 := bS_l w0
  have lt := sT_lt ht (by omega)
  have t0 : sT i0 U V s := sT_x w0.2.1 hw0 (by omega) ht (fun h => h) (fun h => h)
  obtain ⟨i1, b1, c1, e1, w1⟩ := bS_app w0 hw0 t0 (by omega) hV hs (by decide) (by omega) (by omega)
  have l1 := bS_l w1
  have t1 : sT i1 U V s := sT_x w1.2.1 hw0 (by omega) ht (fun h => h) (fun h => h)
  have w1' : bS 3 (hH B m) i1 (hH B m).1.length b1 c1 s := w1
  by_cases h0 : 0 < s.length
  · have hs0 : s ≠ [] := fun h => by
      rw [h] at h0
      exact absurd h0 (by decide)
    have c2 : sT i1 1000004 1000005 [43] := sT_x w1.2.1 hw0 (by omega) (lJ_t w 2 (by omega) _ _ _ rfl rfl tx_2) (fun h => h) (fun h => h)
    have K1 := T_306 (Q := Q) (e := e) (f := f) (z14 := 0) (z15 := 1) (A := A) (n := n) (T := T) (F := F) (U := U) w hbu w1' c2 (by omega) (by omega) (by decide) (by omega) hf hp hk (fun Bn mn U1 V1 om a0 a1 a2 a3 a4 a5 a6 => K Bn mn U1 V1 om a0 a1 a2 a3 a4 (by
      rw [show sgF false s = [43] from (if_neg (by decide)).trans (if_neg hs0)]
      exact a5) a6)
    refine gS (S_new ⟨by decide, by omega⟩ at_271_269) ?_
    show lG Ls (j_fin (c_call 10) 271 272 [some (jR 0), some (jR 2), some (jI Q), some (jI (n : Int)), some (jI 1), some (jR A), some (jI (T : Int)), some (jI (T : Int)), some (jI e), some (jR F), some (jR U), some (jI (k : Int)), some (jI f), some (jI (p : Int)), some (jI 0), some (jI 1), none, none, none, none, none, none] [jR ((hH B m).1.length)] ((j_new (hH B m) 1 4)))
    refine gS (S_dup rfl at_271_272) ?_
    refine gS (S_invi (b := 0) (kd := 0) (by decide) kn_286 rfl (Nat.le_of_ble_eq_true rfl) at_271_273) ?_
    show lG Ls (((c_call 10) 286 [jR ((hH B m).1.length)] ((j_new (hH B m) 1 4))).bind _)
    rw [e0]
    show lG Ls (j_fin (c_call 10) 271 276 [some (jR 0), some (jR 2), some (jI Q), some (jI (n : Int)), some (jI 1), some (jR A), some (jI (T : Int)), some (jI (T : Int)), some (jI e), some (jR F), some (jR U), some (jI (k : Int)), some (jI f), some (jI (p : Int)), some (jI 0), some (jI 1), none, none, none, none, none, none] [jR ((hH B m).1.length)] i0)
    refine gS (S_aload rfl at_271_276) ?_
    refine gS (S_invv (b := 1) (by decide) kn_283 rfl (bS_k w0) (Nat.le_of_ble_eq_true rfl) at_271_278) ?_
    show lG Ls (((c_call 10) 283 [jR ((hH B m).1.length), jR U] i0).bind _)
    rw [e1]
    show lG Ls (j_fin (c_call 10) 271 281 [some (jR 0), some (jR 2), some (jI Q), some (jI (n : Int)), some (jI 1), some (jR A), some (jI (T : Int)), some (jI (T : Int)), some (jI e), some (jR F), some (jR U), some (jI (k : Int)), some (jI f), some (jI (p : Int)), some (jI 0), some (jI 1), none, none, none, none, none, none] [jR ((hH B m).1.length)] i1)
    refine gS (S_iload rfl at_271_281) ?_
    refine gS (S_if_eq at_271_283) ?_
    refine gS (if_pos (by decide)) ?_
    refine gS (S_aload rfl at_271_291) ?_
    refine gS (S_invv (b := 0) (by decide) kn_279 rfl t1.1 (Nat.le_of_ble_eq_true rfl) at_271_293) ?_
    show lG Ls (((c_call 10) 279 [jR U] i1).bind _)
    rw [show (c_call 10) 279 [jR U] i1 = _ from (R279 (d := 8) t1)]
    show lG Ls (j_fin (c_call 10) 271 296 [some (jR 0), some (jR 2), some (jI Q), some (jI (n : Int)), some (jI 1), some (jR A), some (jI (T : Int)), some (jI (T : Int)), some (jI e), some (jR F), some (jR U), some (jI (k : Int)), some (jI f), some (jI (p : Int)), some (jI 0), some (jI 1), none, none, none, none, none, none] [jI (s.length : Int), jR ((hH B m).1.length)] i1)
    refine gS (S_if_le at_271_296) ?_
    refine gS (if_pos (by omega)) ?_
    refine gS (S_ldcT rfl at_271_299) ?_
    show lG Ls (j_fin (c_call 10) 271 301 [some (jR 0), some (jR 2), some (jI Q), some (jI (n : Int)), some (jI 1), some (jR A), some (jI (T : Int)), some (jI (T : Int)), some (jI e), some (jR F), some (jR U), some (jI (k : Int)), some (jI f), some (jI (p : Int)), some (jI 0), some (jI 1), none, none, none, none, none, none] [jR 1000004, jR ((hH B m).1.length)] i1)
    refine gS (S_goto at_271_301) ?_
    exact K1
  · have hs0 : s = [] := List.length_eq_zero_iff.mp (by omega)
    have c0 : sT i1 1000000 1000001 ([] : List Int) := sT_x w1.2.1 hw0 (by omega) (lJ_t w 0 (by omega) _ _ _ rfl rfl tx_0) (fun h => h) (fun h => h)
    have K1 := T_306 (Q := Q) (e := e) (f := f) (z14 := 0) (z15 := 1) (A := A) (n := n) (T := T) (F := F) (U := U) w hbu w1' c0 (by omega) (by omega) (by decide) (by omega) hf hp hk (fun Bn mn U1 V1 om a0 a1 a2 a3 a4 a5 a6 => K Bn mn U1 V1 om a0 a1 a2 a3 a4 (by
      rw [show sgF false s = [] from (if_neg (by decide)).trans (if_pos hs0)]
      exact a5) a6)
    refine gS (S_new ⟨by decide, by omega⟩ at_271_269) ?_
    show lG Ls (j_fin (c_call 10) 271 272 [some (jR 0), some (jR 2), some (jI Q), some (jI (n : Int)), some (jI 1), some (jR A), some (jI (T : Int)), some (jI (T : Int)), some (jI e), some (jR F), some (jR U), some (jI (k : Int)), some (jI f), some (jI (p : Int)), some (jI 0), some (jI 1), none, none, none, none, none, none] [jR ((hH B m).1.length)] ((j_new (hH B m) 1 4)))
    refine gS (S_dup rfl at_271_272) ?_
    refine gS (S_invi (b := 0) (kd := 0) (by decide) kn_286 rfl (Nat.le_of_ble_eq_true rfl) at_271_273) ?_
    show lG Ls (((c_call 10) 286 [jR ((hH B m).1.length)] ((j_new (hH B m) 1 4))).bind _)
    rw [e0]
    show lG Ls (j_fin (c_call 10) 271 276 [some (jR 0), some (jR 2), some (jI Q), some (jI (n : Int)), some (jI 1), some (jR A), some (jI (T : Int)), some (jI (T : Int)), some (jI e), some (jR F), some (jR U), some (jI (k : Int)), some (jI f), some (jI (p : Int)), some (jI 0), some (jI 1), none, none, none, none, none, none] [jR ((hH B m).1.length)] i0)
    refine gS (S_aload rfl at_271_276) ?_
    refine gS (S_invv (b := 1) (by decide) kn_283 rfl (bS_k w0) (Nat.le_of_ble_eq_true rfl) at_271_278) ?_
    show lG Ls (((c_call 10) 283 [jR ((hH B m).1.length), jR U] i0).bind _)
    rw [e1]
    show lG Ls (j_fin (c_call 10) 271 281 [some (jR 0), some (jR 2), some (jI Q), some (jI (n : Int)), some (jI 1), some (jR A), some (jI (T : Int)), some (jI (T : Int)), some (jI e), some (jR F), some (jR U), some (jI (k : Int)), some (jI f), some (jI (p : Int)), some (jI 0), some (jI 1), none, none, none, none, none, none] [jR ((hH B m).1.length)] i1)
    refine gS (S_iload rfl at_271_281) ?_
    refine gS (S_if_eq at_271_283) ?_
    refine gS (if_pos (by decide)) ?_
    refine gS (S_aload rfl at_271_291) ?_
    refine gS (S_invv (b := 0) (by decide) kn_279 rfl t1.1 (Nat.le_of_ble_eq_true rfl) at_271_293) ?_
    show lG Ls (((c_call 10) 279 [jR U] i1).bind _)
    rw [show (c_call 10) 279 [jR U] i1 = _ from (R279 (d := 8) t1)]
    show lG Ls (j_fin (c_call 10) 271 296 [some (jR 0), some (jR 2), some (jI Q), some (jI (n : Int)), some (jI 1), some (jR A), some (jI (T : Int)), some (jI (T : Int)), some (jI e), some (jR F), some (jR U), some (jI (k : Int)), some (jI f), some (jI (p : Int)), some (jI 0), some (jI 1), none, none, none, none, none, none] [jI (s.length : Int), jR ((hH B m).1.length)] i1)
    refine gS (S_if_le at_271_296) ?_
    refine gS (if_neg (by omega)) ?_
    refine gS (S_ldcT rfl at_271_304) ?_
    show lG Ls (j_fin (c_call 10) 271 306 [some (jR 0), some (jR 2), some (jI Q), some (jI (n : Int)), some (jI 1), some (jR A), some (jI (T : Int)), some (jI (T : Int)), some (jI e), some (jR F), some (jR U), some (jI (k : Int)), some (jI f), some (jI (p : Int)), some (jI 0), some (jI 1), none, none, none, none, none, none] [jR 1000000, jR ((hH B m).1.length)] i1)
    exact K1
