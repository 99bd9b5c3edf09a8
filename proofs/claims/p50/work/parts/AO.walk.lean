/-! The law's walk: size, costs (pc 8 to 99). -/
/-- how many packs, their costs -/
def lNk (n : Nat) (f : Nat → Int) : Prop := (2 ≤ n ∧ n ≤ 4) ∧ (∀ p : Nat, p < 4 → 0 ≤ f p ∧ f p ≤ 15) ∧ ∀ p : Nat, n ≤ p → p < 4 → f p = 0
/-- the row: n packs, r rules, nothing seen, planned, offered; the costs -/
def lC (n : Nat) (f : Nat → Int) (r : Nat) (g : Nat → Int) : Prop := g 0 = n ∧ g 1 = r ∧ g 4 = 0 ∧ g 5 = 0 ∧ g 6 = 0 ∧ ∀ p : Nat, p < n → g (7 + p) = f p
theorem nn0 (k : Nat) : (k : Int).toNat = k := rfl
theorem W_46 {B : j_B} {xs : Nat → Int32} {A n : Nat} {Q : Int} {t : Nat → Int} {bu : Nat} (hA : 114 ≤ A ∧ A < 200000) (hn : 2 ≤ n ∧ n ≤ 4) : ∀ j k : Nat, k + j = n → ∀ (m : j_M0) (g f : Nat → Int), Rel xs g none t 0 m → lJ bu B m → aI (hH B m) A 4 f → (∀ p : Nat, p < 4 → 0 ≤ f p ∧ f p ≤ 15) → (∀ p : Nat, k ≤ p → p < 4 → f p = 0) → (∀ p : Nat, k ≤ p → p < 5 → g (7 + p) = 1) → (g 0 = n ∧ g 1 = 0 ∧ g 4 = 0 ∧ g 5 = 0 ∧ g 6 = 0 ∧ ∀ p : Nat, p < k → g (7 + p) = f p) → ∃ (m' : j_M0) (g' f' : Nat → Int), j_fin (c_call 10) 271 46 [some (jR 0), some (jR 2), some (jI Q), some (jI (n : Int)), some (jI 1), some (jR A), some (jI (k : Int)), none, none, none, none, none, none, none, none, none, none, none, none, none, none, none] [] (hH B m) = j_fin (c_call 10) 271 99 [some (jR 0), some (jR 2), some (jI Q), some (jI (n : Int)), some (jI 1), some (jR A), some (jI (n : Int)), none, none, none, none, none, none, none, none, none, none, none, none, none, none, none] [] (hH B m') ∧ Rel xs g' none t 0 m' ∧ lJ bu B m' ∧ aI (hH B m') A 4 f' ∧ lNk n f' ∧ lC n f' 0 g' := by
  intro j
  induction j with
  | zero =>
    intro k hk m g f r w wc f1 f2 f3 hg
    obtain rfl : k = n := by omega
    refine ⟨m, g, f, ?_, r, w, wc, ⟨hn, f1, f2⟩, hg⟩
    refine (S_iload rfl at_271_46).trans ?_
    refine (S_iload_n rfl at_271_48).trans ?_
    refine (S_icmp_ge at_271_49).trans ?_
    refine (if_neg (by omega)).trans ?_
    rfl
  | succ j ih =>
    intro k hk m g f r w wc f1 f2 f3 hg
    obtain ⟨V, hV, hv⟩ : ∃ V, j_and (j_shr Q (w32 (4 + (w32 (4 * (k : Int)))))) 15 = V ∧ 0 ≤ V ∧ V ≤ 15 := ⟨_, rfl, and_r _ 15 (by decide)⟩
    have up : ∀ b z, b < 114 → j_up m A k V b z = m b z := fun b z h => up_ne (by omega)
    have r0 : Rel xs g none t 0 (j_up m A k V) := RQ_low r up
    obtain ⟨m1, e1, r1, q1⟩ := PB89 (L := B) r0 (c := k) (v := V) (by omega) (by omega)
    rw [f3 k (Nat.le_refl _) (by omega)] at e1
    obtain ⟨m2, g2, f2', e2, r2⟩ := ih (k + 1) (by omega) m1 _ (fun i => if i = k then V else f i) r1 (lJ_k (lJ_u w (by omega)) q1) (aI_k (aI_up wc) (fun z => q1 _ _ (by omega))) (fun p hp => by
      by_cases e : p = k
      · rw [if_pos e]; exact hv
      · rw [if_neg e]; exact f1 p hp) (fun p h1 h2 => by rw [if_neg (by omega)]; exact f2 p (by omega) h2) (fun p h1 h2 => by rw [gU_ne (by omega), gU_ne (by omega)]; exact f3 p (by omega) h2) ⟨by rw [gU_ne (by omega), gU_ne (by omega)]; exact hg.1, by rw [gU_ne (by omega), gU_ne (by omega)]; exact hg.2.1, by rw [gU_ne (by omega), gU_ne (by omega)]; exact hg.2.2.1, by rw [gU_ne (by omega), gU_ne (by omega)]; exact hg.2.2.2.1, gU_eq rfl, fun p hp => by
      rw [gU_ne (by omega)]
      by_cases e : p = k
      · rw [if_pos e, gU_eq (by omega)]
      · rw [if_neg e, gU_ne (by omega)]; exact hg.2.2.2.2.2 p (by omega)⟩
    refine ⟨m2, g2, f2', ?_, r2⟩
    refine (S_iload rfl at_271_46).trans ?_
    refine (S_iload_n rfl at_271_48).trans ?_
    refine (S_icmp_ge at_271_49).trans ?_
    refine (if_pos (by omega)).trans ?_
    refine (S_aload rfl at_271_52).trans ?_
    refine (S_iload rfl at_271_54).trans ?_
    refine (S_iload_n rfl at_271_56).trans ?_
    refine (S_iconst at_271_57).trans ?_
    refine (S_iconst at_271_58).trans ?_
    refine (S_iload rfl at_271_59).trans ?_
    refine (S_imul at_271_61).trans ?_
    refine (S_iadd at_271_62).trans ?_
    refine (S_ishr at_271_63).trans ?_
    refine (S_bipush at_271_64).trans ?_
    refine (S_iand at_271_66).trans ?_
    rw [show j_and (j_shr Q (w32 (4 + (w32 (4 * (k : Int)))))) 15 = V from hV]
    refine (S_iastore (by omega) (aI_1 wc) at_271_67).trans ?_
    refine (if_pos ⟨by omega, by omega⟩).trans ?_
    show j_fin (c_call 10) 271 68 [some (jR 0), some (jR 2), some (jI Q), some (jI (n : Int)), some (jI 1), some (jR A), some (jI (k : Int)), none, none, none, none, none, none, none, none, none, none, none, none, none, none, none] [] ((hH B (j_up m A k V))) = _
    refine (S_iload rfl at_271_68).trans ?_
    refine (S_aload_n rfl at_271_70).trans ?_
    refine (S_iload rfl at_271_71).trans ?_
    refine (S_aload rfl at_271_73).trans ?_
    refine (S_iload rfl at_271_75).trans ?_
    refine (S_iaload (aI_1 wc) at_271_77).trans ?_
    refine (if_pos ⟨by omega, by omega⟩).trans ?_
    rw [show ((hH B (j_up m A k V))).2.2 A (k : Int).toNat = V from up_self]
    refine (S_invv (b := 2) (by decide) kn_89 rfl (kd_2 B (j_up m A k V)) (Nat.le_of_ble_eq_true rfl) at_271_78).trans ?_
    show (((c_call 10) 89 [jR 2, jI (k : Int), jI V] ((hH B (j_up m A k V)))).bind _) = _
    rw [e1]
    show j_fin (c_call 10) 271 81 [some (jR 0), some (jR 2), some (jI Q), some (jI (n : Int)), some (jI 1), some (jR A), some (jI (k : Int)), none, none, none, none, none, none, none, none, none, none, none, none, none, none, none] [jI 1, jI 1] (hH B m1) = _
    refine (S_iconst at_271_81).trans ?_
    refine (S_icmp_ne at_271_82).trans ?_
    refine (if_pos (by decide)).trans ?_
    refine (S_iconst at_271_85).trans ?_
    refine (S_goto at_271_86).trans ?_
    refine (S_iand at_271_90).trans ?_
    rw [j_and11]
    refine (S_istore (l1 := [some (jR 0), some (jR 2), some (jI Q), some (jI (n : Int)), some (jI 1), some (jR A), some (jI (k : Int)), none, none, none, none, none, none, none, none, none, none, none, none, none, none, none]) rfl at_271_91).trans ?_
    refine (S_iinc (l1 := [some (jR 0), some (jR 2), some (jI Q), some (jI (n : Int)), some (jI 1), some (jR A), some (jI (w32 ((k : Int) + 1))), none, none, none, none, none, none, none, none, none, none, none, none, none, none, none]) rfl rfl at_271_93).trans ?_
    rw [show w32 ((k : Int) + 1) = ((k + 1 : Nat) : Int) from nat1 (by omega)]
    refine (S_goto at_271_96).trans ?_
    exact e2
theorem W_8 (L : Nat) (xs : Nat → Int32) (t : Nat → Int) : ∃ (B : j_B) (m : j_M0) (g f : Nat → Int) (A n : Nat) (Q : Int), j_fin (c_call 10) 271 8 (some (jR 0) :: some (jR 2) :: List.replicate 20 none) [] (hH (L, [], []) (b_m xs)) = j_fin (c_call 10) 271 99 [some (jR 0), some (jR 2), some (jI Q), some (jI (n : Int)), some (jI 1), some (jR A), some (jI (n : Int)), none, none, none, none, none, none, none, none, none, none, none, none, none, none, none] [] (hH B m) ∧ B.1 = L ∧ (114 ≤ A ∧ A < 200000) ∧ Rel xs g none t 0 m ∧ lJ 1 B m ∧ aI (hH B m) A 4 f ∧ lNk n f ∧ lC n f 0 g := by
  obtain ⟨B0, hB0⟩ : ∃ B0 : j_B, B0 = (L, [], []) := ⟨_, rfl⟩
  have w0 : lJ 0 B0 (b_m xs) := by
    rw [hB0]
    exact ⟨⟨rfl, Nat.le_refl _, Nat.le_refl _⟩, b_kmD _ _, b_kmT (Nat.zero_le _) _⟩
  have r0 := Rel_0 xs t
  rw [← hB0]
  obtain ⟨Q, hQ⟩ : ∃ Q, c_call 10 308 [jR 0, jI 0] (hH B0 (b_m xs)) = some (some (jI Q), hH B0 (b_m xs)) := ⟨_, R308 (d := 9) (by decide)⟩
  have a3 := and_r Q 3 (by decide)
  have t3 := tmod_r a3.1 (show (0 : Int) < 3 by decide)
  obtain ⟨n, hn, hn2⟩ : ∃ n : Nat, w32 (2 + (Int.tmod (j_and Q 3) 3)) = (n : Int) ∧ 2 ≤ n ∧ n ≤ 4 := ⟨(2 + (Int.tmod (j_and Q 3) 3)).toNat, by rw [w32_id (by omega) (by omega)]; omega, by omega, by omega⟩
  obtain ⟨m1, e1, r1, q1⟩ := PB88 (L := B0) r0 (v := (n : Int)) (by omega)
  rw [show g_1 0 = 2 from rfl] at e1
  have w1 : lJ 0 B0 m1 := lJ_k w0 q1
  obtain ⟨B, m2, A, n2, hA, hA2, n1, b1, w2, q2, x2, c2⟩ := arr_new (n := 4) w1 (by omega) (by omega)
  have r2 : Rel xs (begG g_1 (n : Int)) none t 0 m2 := RQ_low r1 q2
  have z : ∀ i : Nat, ¬ (i = 0) → ¬ (i = 2) → ¬ (i = 3) → ¬ (7 ≤ i ∧ i < 12) → i < 150 → begG g_1 (n : Int) i = 0 := fun i h1 h2 h3 h4 h5 => begG_z ⟨h1, h2, h3, h4, h5⟩
  obtain ⟨m3, g3, f3, e3, r3, w3, c3, N3, C3⟩ := W_46 (Q := Q) ⟨hA, hA2⟩ hn2 n 0 (by omega) m2 _ _ r2 w2 c2 (fun p hp => ⟨Int.le_refl 0, by show (0 : Int) ≤ 15; decide⟩) (fun p _ _ => rfl) (fun p _ hp => begG_c (by omega)) ⟨begG_0, z 1 (by omega) (by omega) (by omega) (by omega) (by omega), z 4 (by omega) (by omega) (by omega) (by omega) (by omega), z 5 (by omega) (by omega) (by omega) (by omega) (by omega), z 6 (by omega) (by omega) (by omega) (by omega) (by omega), fun p hp => absurd hp (Nat.not_lt_zero p)⟩
  refine ⟨B, m3, g3, f3, A, n, Q, ?_, b1.trans (by rw [hB0]), ⟨hA, hA2⟩, r3, w3, c3, N3, C3⟩
  show j_fin (c_call 10) 271 8 [some (jR 0), some (jR 2), none, none, none, none, none, none, none, none, none, none, none, none, none, none, none, none, none, none, none, none] [] (hH B0 (b_m xs)) = _
  refine (S_aload_n rfl at_271_8).trans ?_
  refine (S_iconst at_271_9).trans ?_
  refine (S_invs (by decide) (Nat.le_of_ble_eq_true rfl) (Nat.le_of_ble_eq_true rfl) at_271_10).trans ?_
  show (((c_call 10) 308 [jR 0, jI 0] ((hH B0 (b_m xs)))).bind _) = _
  rw [hQ]
  show j_fin (c_call 10) 271 13 [some (jR 0), some (jR 2), none, none, none, none, none, none, none, none, none, none, none, none, none, none, none, none, none, none, none, none] [jI Q] ((hH B0 (b_m xs))) = _
  refine (S_istore_n (l1 := [some (jR 0), some (jR 2), some (jI Q), none, none, none, none, none, none, none, none, none, none, none, none, none, none, none, none, none, none, none]) rfl at_271_13).trans ?_
  refine (S_iconst at_271_14).trans ?_
  refine (S_iload_n rfl at_271_15).trans ?_
  refine (S_iconst at_271_16).trans ?_
  refine (S_iand at_271_17).trans ?_
  refine (S_iconst at_271_18).trans ?_
  refine (S_irem at_271_19).trans ?_
  refine (if_neg (by decide)).trans ?_
  refine (S_iadd at_271_20).trans ?_
  rw [show w32 (2 + (Int.tmod (j_and Q 3) 3)) = (n : Int) from hn]
  refine (S_istore_n (l1 := [some (jR 0), some (jR 2), some (jI Q), some (jI (n : Int)), none, none, none, none, none, none, none, none, none, none, none, none, none, none, none, none, none, none]) rfl at_271_21).trans ?_
  refine (S_aload_n rfl at_271_22).trans ?_
  refine (S_iload_n rfl at_271_23).trans ?_
  refine (S_invv (b := 1) (by decide) kn_88 rfl (kd_2 B0 (b_m xs)) (Nat.le_of_ble_eq_true rfl) at_271_24).trans ?_
  show (((c_call 10) 88 [jR 2, jI (n : Int)] ((hH B0 (b_m xs)))).bind _) = _
  rw [e1]
  show j_fin (c_call 10) 271 27 [some (jR 0), some (jR 2), some (jI Q), some (jI (n : Int)), none, none, none, none, none, none, none, none, none, none, none, none, none, none, none, none, none, none] [jI 2] (hH B0 m1) = _
  refine (S_iconst at_271_27).trans ?_
  refine (S_icmp_ne at_271_28).trans ?_
  refine (if_pos (by decide)).trans ?_
  refine (S_iconst at_271_31).trans ?_
  refine (S_goto at_271_32).trans ?_
  refine (S_istore (l1 := [some (jR 0), some (jR 2), some (jI Q), some (jI (n : Int)), some (jI 1), none, none, none, none, none, none, none, none, none, none, none, none, none, none, none, none, none]) rfl at_271_36).trans ?_
  refine (S_iconst at_271_38).trans ?_
  refine (S_newarr (arr_ok w1 (by decide) (by omega)) at_271_39).trans ?_
  show j_fin (c_call 10) 271 41 [some (jR 0), some (jR 2), some (jI Q), some (jI (n : Int)), some (jI 1), none, none, none, none, none, none, none, none, none, none, none, none, none, none, none, none, none] [jR ((hH B0 m1).1.length)] ((j_new (hH B0 m1) 32 4)) = _
  rw [n1, n2]
  refine (S_astore (l1 := [some (jR 0), some (jR 2), some (jI Q), some (jI (n : Int)), some (jI 1), some (jR A), none, none, none, none, none, none, none, none, none, none, none, none, none, none, none, none]) rfl at_271_41).trans ?_
  refine (S_iconst at_271_43).trans ?_
  refine (S_istore (l1 := [some (jR 0), some (jR 2), some (jI Q), some (jI (n : Int)), some (jI 1), some (jR A), some (jI 0), none, none, none, none, none, none, none, none, none, none, none, none, none, none, none]) rfl at_271_44).trans ?_
  exact e3
