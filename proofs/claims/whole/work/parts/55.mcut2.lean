/-! The model makes a cut. -/
theorem vM_j {a : Nat} {T : TB} {m m' : j_M0} (v : vM a T m) (k : ∀ b s, a ≤ b → (b = a ∧ 12 ≤ s ∧ s ≤ 17 ∧ s ≠ 16) ∨ (a + 1 ≤ b ∧ b ≤ a + 3) ∨ b = a + 7 ∨ b = a + 8 → m' b s = m b s) : vM a T m' := by
  unfold vM at v ⊢
  rw [k a 15 (by omega) (by omega), k a 14 (by omega) (by omega), k a 17 (by omega) (by omega), k a 12 (by omega) (by omega), k a 13 (by omega) (by omega)]
  refine ⟨v.1, v.2.1, v.2.2.1, v.2.2.2.1, v.2.2.2.2.1, ?_, ?_, ?_, ?_, ?_⟩
  · intro i h; rw [k _ _ (by omega) (by omega)]; exact v.2.2.2.2.2.1 i h
  · intro i h; rw [k _ _ (by omega) (by omega)]; exact v.2.2.2.2.2.2.1 i h
  · intro i c h h'; rw [k _ _ (by omega) (by omega)]; exact v.2.2.2.2.2.2.2.1 i c h h'
  · intro i h; rw [k _ _ (by omega) (by omega)]; exact v.2.2.2.2.2.2.2.2.1 i h
  · intro i h; rw [k _ _ (by omega) (by omega)]; exact v.2.2.2.2.2.2.2.2.2 i h
theorem Q189_115 {d L : Nat} {K : PK} {U : CU} {T : TB} {m : j_M0} (v : vM 115 T m) (o : tOK T) (w : vG K m) (uu : uM 115 (pN K) U m) (hn : tC T = pN K) (ok : pOK K) (ou : cOK (pN K) U) (hN : cN U < 12) (hR : tR T < 20) (og : gOK K U T) {r : Nat} (hr : r < tR T) : ∃ f m', c_call (d + 5) 189 [jR 109, jR 115, jI r] (hH L m) = some (some (jI f), hH L m') ∧ kpt (fun b z => 115 ≤ b ∧ b ≤ 127 ∧ (b = 115 → z = 15 ∨ z = 16)) m m' ∧ ((f = 1 ∧ (∀ p : Nat, p ≤ pN K → nr (sumF K U T r p (tC T))) ∧ uM 115 (pN K) (mkU K U T r) m' ∧ vM 115 (midC T (20 + (cN U : Int)) r (tC T)) m') ∨ (f = 0 ∧ (∃ p : Nat, p ≤ pN K ∧ ¬ nr (sumF K U T r p (tC T))) ∧ uM 115 (pN K) U m' ∧ vM 115 T m')) := by
  have n5 := ok.2.1
  have o3 := o.1
  have o4 := o.2.2.1
  have d1 := o.2.2.2.2.1
  have d2 := o.2.2.2.2.2.1
  obtain ⟨f, m1, g1, g2, g3, g4, g5⟩ := Q188_115 (d := d) (L := L) v o w uu hn ok ou hN og hr
  have z1 : ∀ b x, b ≠ 124 → b ≠ 125 → m1 b x = m b x := fun b x h h' => by
    rcases g2 b x with e | e
    · omega
    · exact e
  have z1a : ∀ x, x < 5 * cN U → m1 124 x = m 124 x := fun x h => by
    rcases g2 124 x with e | e
    · omega
    · exact e
  have z1b : ∀ x, x < cN U → m1 125 x = m 125 x := fun x h => by
    rcases g2 125 x with e | e
    · omega
    · exact e
  have v1 : vM 115 T m1 := vM_k v (fun b s h h' => z1 _ _ (by omega) (by omega))
  have u1 : uM 115 (pN K) U m1 := uM_k uu n5 (fun b s => ⟨fun h h' => z1 _ _ (by omega) (by omega), fun h h' => z1 _ _ (by omega) (by omega), fun h h' => by subst h; exact z1a _ h', fun h h' => by subst h; exact z1b _ h', fun h h' => z1 _ _ (by omega) (by omega)⟩)
  rw [E189, T189_0_109_115, g1]
  simp only [Option.bind_some, Option.toList_some, List.cons_append, List.nil_append]
  rw [T189_6_109_115]
  rcases g3 with ⟨rfl, hnr⟩ | ⟨rfl, hnr⟩
  · rw [if_neg (by omega), u1.1]
    obtain ⟨m2, p1, p2, p3⟩ := L189a_115 (C := c_call (d + 4)) (L := L) (r := r) (U := U) hN 20 0 (by omega) m1 (fun q h => absurd h (Nat.not_lt_zero q))
    rw [show (some (jI 0) : Option j_V) = some (jI ((0 : Nat) : Int)) from rfl, p2, T189_19_109_115, if_neg (by omega)]
    have z2 : ∀ b x, b ≠ 126 → m2 b x = m1 b x := fun b x h => by
      rcases p1 b x with e | e
      · omega
      · exact e
    have z2a : ∀ x, x < 20 * cN U → m2 126 x = m1 126 x := fun x h => by
      rcases p1 126 x with e | e
      · omega
      · exact e
    have v2 : vM 115 T m2 := vM_k v1 (fun b s h h' => z2 _ _ (by omega))
    have k9 : m2 115 13 = tD T := v2.2.2.2.2.1
    have k2 : m2 117 r = tri T r := v2.2.2.2.2.2.2.2.2.1 r hr
    have r1 := o.2.2.2.2.2.2.2.2.2.1 r hr
    have a1 := Int.emod_nonneg (tri T r) (b := tD T) (by omega)
    have a2 := Int.emod_lt_of_pos (tri T r) (b := tD T) (by omega)
    have v3 : vM 115 T (j_up m2 127 (cN U) (tD T)) := vM_k v2 (fun b s h h' => up_ne (by omega))
    rw [if_pos (by omega), if_pos (by omega)]
    simp (disch := omega) only [Int.toNat_natCast, up_ne, k9, k2]
    rw [Q266 (by omega) (by omega) (by omega) (by omega)]
    simp only [Option.bind_some, Option.toList_some, List.cons_append, List.nil_append]
    obtain ⟨m4, q1, q2, q3⟩ := Q177_115 (d := d + 3) (L := L) v3 (x := 20 + (cN U : Int)) (y := -(tri T r % tD T)) hR o4
    rw [T189_74_109_115, w32_id (by omega) (by omega), w64_id (by omega) (by omega), q1]
    simp only [Option.bind_some, Option.toList_some, List.cons_append, List.nil_append, Option.toList_none]
    rw [T189_78_109_115]
    have z4 : ∀ b x, (124 ≤ b ∨ b = 115 ∧ x ≠ 15) → m4 b x = j_up m2 127 (cN U) (tD T) b x := fun b x h => by
      rcases q2 b x with e | e
      · omega
      · exact e
    obtain ⟨m5, t1, t2, t3, t4⟩ := L189c_115 (d := d) (L := L) (K := K) (U := U) ok o og hN hR hr (tC T) 0 (by omega) m4 none (vM_e q3 (midC_0 T (20 + (cN U : Int)) r)) (by rw [z4 _ _ (by omega), up_ne (by omega), z2 _ _ (by omega)]; exact u1.1) (fun q hq => by
      rw [z4 _ _ (by omega), up_ne (by omega), wtF_0]
      exact p3 q hq)
    have t2' : j_fin (c_call (d + 4)) 189 81 [some (jR 109), some (jR 115), some (jI r), some (jI (cN U)), some (jI 0), none, none] [] (hH L m4) = _ := t2
    rw [t2']
    have z5 : ∀ b x, b ≠ 116 → b ≠ 126 → m5 b x = m4 b x := fun b x h h' => by
      rcases t1 b x with e | e
      · omega
      · exact e
    have z5a : ∀ x, x < 20 * cN U → m5 126 x = m4 126 x := fun x h => by
      rcases t1 126 x with e | e
      · omega
      · exact e
    refine ⟨1, _, rfl, ?_, Or.inl ⟨rfl, hnr, ?_, vM_j t3 (fun b s h h' => ?_)⟩⟩
    · intro b x
      by_cases e : 115 ≤ b ∧ b ≤ 127 ∧ (b = 115 → x = 15 ∨ x = 16)
      · exact Or.inl e
      · right
        have y5 : j_up m5 115 16 ((cN U + 1 : Nat) : Int) b x = m5 b x := by
          by_cases e2 : b = 115
          · subst e2; exact up_nj (by omega)
          · exact up_ne e2
        rw [y5, z5 _ _ (by omega) (by omega)]
        have y4 : m4 b x = j_up m2 127 (cN U) (tD T) b x := by
          rcases q2 b x with e3 | e3
          · omega
          · exact e3
        rw [y4, up_ne (by omega), z2 _ _ (by omega), z1 _ _ (by omega) (by omega)]
    · obtain ⟨w1, w2, w3, w4, w5⟩ := uu
      unfold uM
      simp (disch := omega) only [Nat.reduceAdd, up_ne, up_eq]
      refine ⟨rfl, ?_, ?_, ?_, ?_⟩
      · intro k hk
        replace hk : k < cN U + 1 := hk
        show _ = (if k = cN U then tD T else cD U k)
        rw [z5 _ _ (by omega) (by omega), z4 _ _ (by omega), up_at]
        by_cases e : k = cN U
        · rw [if_pos e, if_pos e]
        · rw [if_neg e, if_neg e, z2 _ _ (by omega), z1 _ _ (by omega) (by omega)]
          exact w2 k (by omega)
      · intro k p hk hp
        replace hk : k < cN U + 1 := hk
        show _ = (if k = cN U then sumF K U T r p (tC T) else cF U k p)
        rw [z5 _ _ (by omega) (by omega), z4 _ _ (by omega), up_ne (by omega), z2 _ _ (by omega)]
        by_cases e : k = cN U
        · rw [if_pos e, e]
          exact g4 p hp
        · rw [if_neg e, z1a _ (by omega)]
          exact w3 k p (by omega) hp
      · intro k hk
        replace hk : k < cN U + 1 := hk
        show _ = (if k = cN U then sumF K U T r (pN K) (tC T) else cF U k (pN K))
        rw [z5 _ _ (by omega) (by omega), z4 _ _ (by omega), up_ne (by omega), z2 _ _ (by omega)]
        by_cases e : k = cN U
        · rw [if_pos e, e]
          exact g5
        · rw [if_neg e, z1b _ (by omega)]
          exact w4 k (by omega)
      · intro k q hk hq
        replace hk : k < cN U + 1 := hk
        show _ = (if k = cN U then wtF T r (tC T) q else cW U k q)
        by_cases e : k = cN U
        · rw [if_pos e, e]
          exact t4 q hq
        · rw [if_neg e, z5a _ (by omega), z4 _ _ (by omega), up_ne (by omega), z2a _ (by omega), z1 _ _ (by omega) (by omega)]
          exact w5 k q (by omega) hq
    · by_cases e2 : b = 115
      · subst e2
        exact up_nj (by omega)
      · exact up_ne e2
  · rw [if_pos rfl]
    refine ⟨0, m1, rfl, ?_, Or.inr ⟨rfl, ?_, u1, v1⟩⟩
    · exact kpt_w g2 (fun b s h => by omega)
    · exact Classical.byContradiction (fun h => hnr (fun p hp => Classical.byContradiction (fun h' => h ⟨p, hp, h'⟩)))
theorem Q189_128 {d L : Nat} {K : PK} {U : CU} {T : TB} {m : j_M0} (v : vM 128 T m) (o : tOK T) (w : vG K m) (uu : uM 128 (pN K) U m) (hn : tC T = pN K) (ok : pOK K) (ou : cOK (pN K) U) (hN : cN U < 12) (hR : tR T < 20) (og : gOK K U T) {r : Nat} (hr : r < tR T) : ∃ f m', c_call (d + 5) 189 [jR 109, jR 128, jI r] (hH L m) = some (some (jI f), hH L m') ∧ kpt (fun b z => 128 ≤ b ∧ b ≤ 140 ∧ (b = 128 → z = 15 ∨ z = 16)) m m' ∧ ((f = 1 ∧ (∀ p : Nat, p ≤ pN K → nr (sumF K U T r p (tC T))) ∧ uM 128 (pN K) (mkU K U T r) m' ∧ vM 128 (midC T (20 + (cN U : Int)) r (tC T)) m') ∨ (f = 0 ∧ (∃ p : Nat, p ≤ pN K ∧ ¬ nr (sumF K U T r p (tC T))) ∧ uM 128 (pN K) U m' ∧ vM 128 T m')) := by
  have n5 := ok.2.1
  have o3 := o.1
  have o4 := o.2.2.1
  have d1 := o.2.2.2.2.1
  have d2 := o.2.2.2.2.2.1
  obtain ⟨f, m1, g1, g2, g3, g4, g5⟩ := Q188_128 (d := d) (L := L) v o w uu hn ok ou hN og hr
  have z1 : ∀ b x, b ≠ 137 → b ≠ 138 → m1 b x = m b x := fun b x h h' => by
    rcases g2 b x with e | e
    · omega
    · exact e
  have z1a : ∀ x, x < 5 * cN U → m1 137 x = m 137 x := fun x h => by
    rcases g2 137 x with e | e
    · omega
    · exact e
  have z1b : ∀ x, x < cN U → m1 138 x = m 138 x := fun x h => by
    rcases g2 138 x with e | e
    · omega
    · exact e
  have v1 : vM 128 T m1 := vM_k v (fun b s h h' => z1 _ _ (by omega) (by omega))
  have u1 : uM 128 (pN K) U m1 := uM_k uu n5 (fun b s => ⟨fun h h' => z1 _ _ (by omega) (by omega), fun h h' => z1 _ _ (by omega) (by omega), fun h h' => by subst h; exact z1a _ h', fun h h' => by subst h; exact z1b _ h', fun h h' => z1 _ _ (by omega) (by omega)⟩)
  rw [E189, T189_0_109_128, g1]
  simp only [Option.bind_some, Option.toList_some, List.cons_append, List.nil_append]
  rw [T189_6_109_128]
  rcases g3 with ⟨rfl, hnr⟩ | ⟨rfl, hnr⟩
  · rw [if_neg (by omega), u1.1]
    obtain ⟨m2, p1, p2, p3⟩ := L189a_128 (C := c_call (d + 4)) (L := L) (r := r) (U := U) hN 20 0 (by omega) m1 (fun q h => absurd h (Nat.not_lt_zero q))
    rw [show (some (jI 0) : Option j_V) = some (jI ((0 : Nat) : Int)) from rfl, p2, T189_19_109_128, if_neg (by omega)]
    have z2 : ∀ b x, b ≠ 139 → m2 b x = m1 b x := fun b x h => by
      rcases p1 b x with e | e
      · omega
      · exact e
    have z2a : ∀ x, x < 20 * cN U → m2 139 x = m1 139 x := fun x h => by
      rcases p1 139 x with e | e
      · omega
      · exact e
    have v2 : vM 128 T m2 := vM_k v1 (fun b s h h' => z2 _ _ (by omega))
    have k9 : m2 128 13 = tD T := v2.2.2.2.2.1
    have k2 : m2 130 r = tri T r := v2.2.2.2.2.2.2.2.2.1 r hr
    have r1 := o.2.2.2.2.2.2.2.2.2.1 r hr
    have a1 := Int.emod_nonneg (tri T r) (b := tD T) (by omega)
    have a2 := Int.emod_lt_of_pos (tri T r) (b := tD T) (by omega)
    have v3 : vM 128 T (j_up m2 140 (cN U) (tD T)) := vM_k v2 (fun b s h h' => up_ne (by omega))
    rw [if_pos (by omega), if_pos (by omega)]
    simp (disch := omega) only [Int.toNat_natCast, up_ne, k9, k2]
    rw [Q266 (by omega) (by omega) (by omega) (by omega)]
    simp only [Option.bind_some, Option.toList_some, List.cons_append, List.nil_append]
    obtain ⟨m4, q1, q2, q3⟩ := Q177_128 (d := d + 3) (L := L) v3 (x := 20 + (cN U : Int)) (y := -(tri T r % tD T)) hR o4
    rw [T189_74_109_128, w32_id (by omega) (by omega), w64_id (by omega) (by omega), q1]
    simp only [Option.bind_some, Option.toList_some, List.cons_append, List.nil_append, Option.toList_none]
    rw [T189_78_109_128]
    have z4 : ∀ b x, (137 ≤ b ∨ b = 128 ∧ x ≠ 15) → m4 b x = j_up m2 140 (cN U) (tD T) b x := fun b x h => by
      rcases q2 b x with e | e
      · omega
      · exact e
    obtain ⟨m5, t1, t2, t3, t4⟩ := L189c_128 (d := d) (L := L) (K := K) (U := U) ok o og hN hR hr (tC T) 0 (by omega) m4 none (vM_e q3 (midC_0 T (20 + (cN U : Int)) r)) (by rw [z4 _ _ (by omega), up_ne (by omega), z2 _ _ (by omega)]; exact u1.1) (fun q hq => by
      rw [z4 _ _ (by omega), up_ne (by omega), wtF_0]
      exact p3 q hq)
    have t2' : j_fin (c_call (d + 4)) 189 81 [some (jR 109), some (jR 128), some (jI r), some (jI (cN U)), some (jI 0), none, none] [] (hH L m4) = _ := t2
    rw [t2']
    have z5 : ∀ b x, b ≠ 129 → b ≠ 139 → m5 b x = m4 b x := fun b x h h' => by
      rcases t1 b x with e | e
      · omega
      · exact e
    have z5a : ∀ x, x < 20 * cN U → m5 139 x = m4 139 x := fun x h => by
      rcases t1 139 x with e | e
      · omega
      · exact e
    refine ⟨1, _, rfl, ?_, Or.inl ⟨rfl, hnr, ?_, vM_j t3 (fun b s h h' => ?_)⟩⟩
    · intro b x
      by_cases e : 128 ≤ b ∧ b ≤ 140 ∧ (b = 128 → x = 15 ∨ x = 16)
      · exact Or.inl e
      · right
        have y5 : j_up m5 128 16 ((cN U + 1 : Nat) : Int) b x = m5 b x := by
          by_cases e2 : b = 128
          · subst e2; exact up_nj (by omega)
          · exact up_ne e2
        rw [y5, z5 _ _ (by omega) (by omega)]
        have y4 : m4 b x = j_up m2 140 (cN U) (tD T) b x := by
          rcases q2 b x with e3 | e3
          · omega
          · exact e3
        rw [y4, up_ne (by omega), z2 _ _ (by omega), z1 _ _ (by omega) (by omega)]
    · obtain ⟨w1, w2, w3, w4, w5⟩ := uu
      unfold uM
      simp (disch := omega) only [Nat.reduceAdd, up_ne, up_eq]
      refine ⟨rfl, ?_, ?_, ?_, ?_⟩
      · intro k hk
        replace hk : k < cN U + 1 := hk
        show _ = (if k = cN U then tD T else cD U k)
        rw [z5 _ _ (by omega) (by omega), z4 _ _ (by omega), up_at]
        by_cases e : k = cN U
        · rw [if_pos e, if_pos e]
        · rw [if_neg e, if_neg e, z2 _ _ (by omega), z1 _ _ (by omega) (by omega)]
          exact w2 k (by omega)
      · intro k p hk hp
        replace hk : k < cN U + 1 := hk
        show _ = (if k = cN U then sumF K U T r p (tC T) else cF U k p)
        rw [z5 _ _ (by omega) (by omega), z4 _ _ (by omega), up_ne (by omega), z2 _ _ (by omega)]
        by_cases e : k = cN U
        · rw [if_pos e, e]
          exact g4 p hp
        · rw [if_neg e, z1a _ (by omega)]
          exact w3 k p (by omega) hp
      · intro k hk
        replace hk : k < cN U + 1 := hk
        show _ = (if k = cN U then sumF K U T r (pN K) (tC T) else cF U k (pN K))
        rw [z5 _ _ (by omega) (by omega), z4 _ _ (by omega), up_ne (by omega), z2 _ _ (by omega)]
        by_cases e : k = cN U
        · rw [if_pos e, e]
          exact g5
        · rw [if_neg e, z1b _ (by omega)]
          exact w4 k (by omega)
      · intro k q hk hq
        replace hk : k < cN U + 1 := hk
        show _ = (if k = cN U then wtF T r (tC T) q else cW U k q)
        by_cases e : k = cN U
        · rw [if_pos e, e]
          exact t4 q hq
        · rw [if_neg e, z5a _ (by omega), z4 _ _ (by omega), up_ne (by omega), z2a _ (by omega), z1 _ _ (by omega) (by omega)]
          exact w5 k q (by omega) hq
    · by_cases e2 : b = 128
      · subst e2
        exact up_nj (by omega)
      · exact up_ne e2
  · rw [if_pos rfl]
    refine ⟨0, m1, rfl, ?_, Or.inr ⟨rfl, ?_, u1, v1⟩⟩
    · exact kpt_w g2 (fun b s h => by omega)
    · exact Classical.byContradiction (fun h => hnr (fun p hp => Classical.byContradiction (fun h' => h ⟨p, hp, h'⟩)))
