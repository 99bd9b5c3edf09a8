/-! would, odds. -/
def gU (g : Nat → Int) (i : Nat) (v : Int) : Nat → Int := fun j => if j = i then v else g j
theorem gU_ne {g : Nat → Int} {i j : Nat} {v : Int} (h : j ≠ i) : gU g i v j = g j := if_neg h
theorem gU_eq {g : Nat → Int} {i j : Nat} {v : Int} (h : j = i) : gU g i v j = v := if_pos h
theorem up_g {m : j_M0} {a i : Nat} {v : Int} : (j_up m a i v) a = gU (m a) i v := by
  funext j
  unfold j_up gU
  rw [if_pos rfl]
theorem gU_b {g : Nat → Int} {i : Nat} {v : Int} : gU (gU g i v) i (g i) = g := by
  funext j
  unfold gU
  by_cases e : j = i
  · rw [if_pos e, e]
  · rw [if_neg e, if_neg e]
/-- a bound is another -/
theorem gR_bound {g : Nat → Int} (h : gR g) {r : Nat} {v : Int} (hr : r < 8) (hv : -99 ≤ v ∧ v ≤ 999) : gR (gU g (13 + 7 * r) v) := by
  obtain ⟨h1, h2, h3, h4, h5, h6, h7⟩ := h
  unfold gR
  rw [gU_ne (by omega), gU_ne (by omega)]
  refine ⟨h1, h2, h3, h4, fun p hp => ?_, fun q hq => ?_, fun q p hq hp => ?_⟩
  · rw [gU_ne (by omega)]; exact h5 p hp
  · rw [gU_ne (show 12 + 7 * q ≠ 13 + 7 * r by omega)]
    by_cases e : q = r
    · subst e
      rw [gU_eq rfl]
      exact ⟨(h6 q hq).1, hv⟩
    · rw [gU_ne (by omega)]
      exact h6 q hq
  · rw [gU_ne (by omega)]; exact h7 q p hq hp
theorem pkR_bound {a : Nat} {g : Nat → Int} {m : j_M0} (w : pkR a g m) {r : Nat} {v : Int} (hr : (r : Int) < g 1) (hv : -99 ≤ v ∧ v ≤ 999) : pkR a (gU g (13 + 7 * r) v) (j_up m (a + 3) r v) := by
  obtain ⟨w1, w2, w3, w4, w5, w6⟩ := w
  obtain ⟨a1, a2, a3, a4, a5, a6, a7⟩ := w1
  have hr8 : r < 8 := by omega
  refine ⟨⟨?_, ?_, ?_, ?_, fun p hp => ?_, fun q hq => ?_, fun i hi => ?_⟩, ?_, ?_, fun p hp => ?_, fun q hq => ⟨?_, ?_⟩, fun q p hq hp => ?_⟩
  · rw [up_ne (by omega)]; exact a1
  · rw [up_ne (by omega)]; exact a2
  · rw [up_ne (by omega)]; exact a3
  · rw [up_ne (by omega)]; exact a4
  · rw [up_ne (by omega)]; exact a5 p hp
  · rw [up_ne (by omega), up_at]
    refine ⟨(a6 q hq).1, ?_⟩
    split
    · exact hv
    · exact (a6 q hq).2
  · rw [up_ne (by omega)]; exact a7 i hi
  · rw [up_ne (by omega), gU_ne (by omega)]; exact w2
  · rw [up_ne (by omega), gU_ne (by omega)]; exact w3
  · rw [up_ne (by omega), gU_ne (by omega)]; exact w4 p hp
  · rw [gU_ne (by omega)] at hq
    rw [up_ne (by omega), gU_ne (by omega)]
    exact (w5 q hq).1
  · rw [gU_ne (by omega)] at hq
    rw [up_at]
    by_cases e : q = r
    · subst e; rw [if_pos rfl, gU_eq rfl]
    · rw [if_neg e, gU_ne (by omega)]; exact (w5 q hq).2
  · rw [gU_ne (by omega)] at hq hp
    rw [up_ne (by omega), gU_ne (by omega)]
    exact w6 q p hq hp
theorem Q8_35 {d L : Nat} {g : Nat → Int} {m : j_M0} (w : pkR 4 g m) : ∃ m', c_call (d + 1) 8 [jR 35, jR 4] (hH L m) = some (none, hH L m') ∧ kpt (fun c z => 35 ≤ c ∧ c ≤ 39 ∧ (c = 35 → z < 2)) m m' ∧ pkR 35 g m' := by
  obtain ⟨w1, w2, w3, w4, w5, w6⟩ := w
  obtain ⟨a1, a2, a3, a4, a5, a6, a7⟩ := w1
  simp only [Nat.reduceAdd] at a5 a6 a7 w4 w5 w6
  rw [E8, T8_0_35_4]
  refine ⟨_, rfl, fun c z => ?_, ?_⟩
  · by_cases e : 35 ≤ c ∧ c ≤ 39 ∧ (c = 35 → z < 2)
    · exact Or.inl e
    · right
      rw [cpy_ne (by omega), cpy_ne (by omega), cpy_ne (by omega), cpy_ne (by omega)]
      by_cases e2 : c = 35
      · subst e2
        rw [up_nj (by omega), up_nj (by omega)]
      · rw [up_ne e2, up_ne e2]
  · unfold pkR kP
    simp (disch := omega) only [Nat.reduceAdd, cpy_ne, cpy_at, up_ne, up_nj, up_eq]
    refine ⟨⟨a1, a2, a3, a4, fun p hp => ?_, fun r hr => ?_, fun i hi => ?_⟩, w2, w3, fun p hp => ?_, fun r hr => ?_, fun r p hr hp => ?_⟩
    · rw [if_pos hp]; exact a5 p hp
    · rw [if_pos hr, if_pos hr]; exact a6 r hr
    · rw [if_pos hi]; exact a7 i hi
    · rw [if_pos hp]; exact w4 p hp
    · rw [if_pos (by omega), if_pos (by omega)]; exact w5 r hr
    · rw [if_pos (by omega)]; exact w6 r p hr hp
theorem Q8_20 {d L : Nat} {g : Nat → Int} {m : j_M0} (w : pkR 4 g m) : ∃ m', c_call (d + 1) 8 [jR 20, jR 4] (hH L m) = some (none, hH L m') ∧ kpt (fun c z => 20 ≤ c ∧ c ≤ 24 ∧ (c = 20 → z < 2)) m m' ∧ pkR 20 g m' := by
  obtain ⟨w1, w2, w3, w4, w5, w6⟩ := w
  obtain ⟨a1, a2, a3, a4, a5, a6, a7⟩ := w1
  simp only [Nat.reduceAdd] at a5 a6 a7 w4 w5 w6
  rw [E8, T8_0_20_4]
  refine ⟨_, rfl, fun c z => ?_, ?_⟩
  · by_cases e : 20 ≤ c ∧ c ≤ 24 ∧ (c = 20 → z < 2)
    · exact Or.inl e
    · right
      rw [cpy_ne (by omega), cpy_ne (by omega), cpy_ne (by omega), cpy_ne (by omega)]
      by_cases e2 : c = 20
      · subst e2
        rw [up_nj (by omega), up_nj (by omega)]
      · rw [up_ne e2, up_ne e2]
  · unfold pkR kP
    simp (disch := omega) only [Nat.reduceAdd, cpy_ne, cpy_at, up_ne, up_nj, up_eq]
    refine ⟨⟨a1, a2, a3, a4, fun p hp => ?_, fun r hr => ?_, fun i hi => ?_⟩, w2, w3, fun p hp => ?_, fun r hr => ?_, fun r p hr hp => ?_⟩
    · rw [if_pos hp]; exact a5 p hp
    · rw [if_pos hr, if_pos hr]; exact a6 r hr
    · rw [if_pos hi]; exact a7 i hi
    · rw [if_pos hp]; exact w4 p hp
    · rw [if_pos (by omega), if_pos (by omega)]; exact w5 r hr
    · rw [if_pos (by omega)]; exact w6 r p hr hp
theorem Q8_4 {d L : Nat} {g : Nat → Int} {m : j_M0} (w : pkR 20 g m) : ∃ m', c_call (d + 1) 8 [jR 4, jR 20] (hH L m) = some (none, hH L m') ∧ kpt (fun c z => 4 ≤ c ∧ c ≤ 8 ∧ (c = 4 → z < 2)) m m' ∧ pkR 4 g m' := by
  obtain ⟨w1, w2, w3, w4, w5, w6⟩ := w
  obtain ⟨a1, a2, a3, a4, a5, a6, a7⟩ := w1
  simp only [Nat.reduceAdd] at a5 a6 a7 w4 w5 w6
  rw [E8, T8_0_4_20]
  refine ⟨_, rfl, fun c z => ?_, ?_⟩
  · by_cases e : 4 ≤ c ∧ c ≤ 8 ∧ (c = 4 → z < 2)
    · exact Or.inl e
    · right
      rw [cpy_ne (by omega), cpy_ne (by omega), cpy_ne (by omega), cpy_ne (by omega)]
      by_cases e2 : c = 4
      · subst e2
        rw [up_nj (by omega), up_nj (by omega)]
      · rw [up_ne e2, up_ne e2]
  · unfold pkR kP
    simp (disch := omega) only [Nat.reduceAdd, cpy_ne, cpy_at, up_ne, up_nj, up_eq]
    refine ⟨⟨a1, a2, a3, a4, fun p hp => ?_, fun r hr => ?_, fun i hi => ?_⟩, w2, w3, fun p hp => ?_, fun r hr => ?_, fun r p hr hp => ?_⟩
    · rw [if_pos hp]; exact a5 p hp
    · rw [if_pos hr, if_pos hr]; exact a6 r hr
    · rw [if_pos hi]; exact a7 i hi
    · rw [if_pos hp]; exact w4 p hp
    · rw [if_pos (by omega), if_pos (by omega)]; exact w5 r hr
    · rw [if_pos (by omega)]; exact w6 r p hr hp
/-- the worth, with a bound for the time -/
theorem Q230 {d L : Nat} {m : j_M0} (h : gR (m 110)) {r : Nat} {v : Int} (hr : r < 8) (hv : -99 ≤ v ∧ v ≤ 999) : ∃ m', c_call (d + 8) 230 [jR 109, jI r, jI v] (hH L m) = some (some (jI (worF (pkG (gU (m 110) (13 + 7 * r) v)))), hH L m') ∧ kpt (fun b _ => 128 ≤ b ∧ b ≤ 140) m m' ∧ vM 128 (solF (pkG (gU (m 110) (13 + 7 * r) v)) 12).2.1 m' ∧ m' 128 19 = (if (solF (pkG (gU (m 110) (13 + 7 * r) v)) 12).1 = 1 then 1 else 0) := by
  have h1 := gR_bound h hr hv
  have e : (j_up m 110 (13 + 7 * r) v) 110 = gU (m 110) (13 + 7 * r) v := up_g
  have wG : vG (pkG (gU (m 110) (13 + 7 * r) v)) (j_up m 110 (13 + 7 * r) v) := by
    rw [← e]
    exact vG_of (by rw [e]; exact h1)
  have ok : pOK (pkG (gU (m 110) (13 + 7 * r) v)) := by
    obtain ⟨z1, z2, z3, z4, z5, z6, z7⟩ := h1
    refine ⟨?_, ?_, ?_, fun p hp => z5 p ?_, fun q p hq hp => ?_, fun q hq => ?_⟩
    · show 1 ≤ (gU (m 110) (13 + 7 * r) v 0).toNat
      omega
    · show (gU (m 110) (13 + 7 * r) v 0).toNat ≤ 5
      omega
    · show (gU (m 110) (13 + 7 * r) v 1).toNat ≤ 8
      omega
    · replace hp : p < (gU (m 110) (13 + 7 * r) v 0).toNat := hp
      omega
    · replace hp : p < (gU (m 110) (13 + 7 * r) v 0).toNat := hp
      replace hq : q < (gU (m 110) (13 + 7 * r) v 1).toNat := hq
      have := z7 q p (by omega) (by omega)
      show -9 ≤ (if gU (m 110) (13 + 7 * r) v (12 + 7 * q) = 0 then -(gU (m 110) (13 + 7 * r) v (14 + 7 * q + p)) else gU (m 110) (13 + 7 * r) v (14 + 7 * q + p)) ∧ (if gU (m 110) (13 + 7 * r) v (12 + 7 * q) = 0 then -(gU (m 110) (13 + 7 * r) v (14 + 7 * q + p)) else gU (m 110) (13 + 7 * r) v (14 + 7 * q + p)) ≤ 9
      split <;> omega
    · replace hq : q < (gU (m 110) (13 + 7 * r) v 1).toNat := hq
      have := z6 q (by omega)
      show -999 ≤ (if gU (m 110) (13 + 7 * r) v (12 + 7 * q) = 0 then -(gU (m 110) (13 + 7 * r) v (13 + 7 * q)) else gU (m 110) (13 + 7 * r) v (13 + 7 * q)) ∧ (if gU (m 110) (13 + 7 * r) v (12 + 7 * q) = 0 then -(gU (m 110) (13 + 7 * r) v (13 + 7 * q)) else gU (m 110) (13 + 7 * r) v (13 + 7 * q)) ≤ 999
      split <;> omega
  obtain ⟨m1, q1, q2, q3, q4⟩ := Q192 (d := d) (L := L) wG ok
  have i1 : w32 (w32 (12 + w32 (7 * (r : Int))) + 1) = 13 + 7 * (r : Int) := by
    rw [w32_id (x := 7 * (r : Int)) (by omega) (by omega), w32_id (x := 12 + 7 * (r : Int)) (by omega) (by omega), w32_id (by omega) (by omega)]
    omega
  have i2 : (13 + 7 * (r : Int)).toNat = 13 + 7 * r := by omega
  rw [E230, T230_0, i1, if_pos (by omega), if_pos (by omega), i2, q1]
  simp only [Option.bind_some, Option.toList_some, List.cons_append, List.nil_append]
  rw [T230_29, if_pos (by omega), i2]
  refine ⟨_, rfl, fun b z => ?_, vM_k q3 (fun b z h h' => up_ne (by omega)), (up_ne (by omega)).trans q4⟩
  by_cases e2 : 128 ≤ b ∧ b ≤ 140
  · exact Or.inl e2
  · right
    by_cases e3 : b = 110
    · subst e3
      rw [up_at]
      by_cases e4 : z = 13 + 7 * r
      · rw [if_pos e4, e4]
      · rw [if_neg e4, kpt_at q2 (by omega), up_nj e4]
    · rw [up_ne e3, kpt_at q2 (by omega), up_ne e3]
/-- the class's thought, a bound told -/
theorem Q30b {d L : Nat} {g : Nat → Int} {m : j_M0} (h : gR g) (w : pkR 35 g m) : ∃ m', c_call (d + 6) 30 [jR 54, jR 35] (hH L m) = some (some (jI (worF (pkG g))), hH L m') ∧ kpt (fun b _ => 54 ≤ b ∧ b ≤ 67) m m' := by
  obtain ⟨m1, q1, q2, q3, q4⟩ := Q30 (d := d) (L := L) (vP_of h w)
  exact ⟨m1, q1, kpt_w q2 (fun b z h => by omega)⟩
theorem PA115 {L : Nat} {xs : Nat → Int32} {m : j_M0} (w : Rel xs m) (x v : Int) : PA L xs 115 231 [jI x, jI v] m := by
  have n := Rel_n w
  have q1 : c_call 9 136 [jR 2, jI x] (hH L m) = some (some (jI (bI (0 ≤ x ∧ x < m 110 1))), hH L m) := by
    rw [← n.2.2.2.2.2]
    exact Q136 (d := 8)
  have q2 : c_call 9 153 [jR 109, jI x] (hH L m) = some (some (jI (bI (0 ≤ x ∧ x < m 110 1))), hH L m) := Q153 (d := 7) (by omega)
  by_cases g1 : 0 ≤ x ∧ x < m 110 1
  · by_cases g2 : -99 ≤ v ∧ v ≤ 999
    · obtain ⟨r, rfl⟩ : ∃ r : Nat, x = r := ⟨_, (Int.toNat_of_nonneg (by omega)).symm⟩
      obtain ⟨m1, p1, p2, p3⟩ := Q8_35 (d := 8) (L := L) w.2.2.2.1.1
      have p4 := pkR_bound p3 (r := r) (v := v) (by omega) g2
      have hg := gR_bound w.2.1 (r := r) (by omega) g2
      obtain ⟨m2, s1, s2⟩ := Q30b (d := 3) (L := L) hg p4
      have k1 : kpt sc m m2 := kpt_tr (kpt_w p2 (fun c z h => by unfold sc; omega)) (kpt_tr (kpt_up (by unfold sc; omega)) (kpt_w s2 (fun c z h => by unfold sc; omega)))
      have w2 : Rel xs m2 := Rel_k w k1
      obtain ⟨m3, t1, t2, -, -⟩ := Q230 (d := 1) (L := L) (m := m2) w2.2.1 (r := r) (v := v) (by omega) g2
      rw [kpt_110 k1] at t1
      refine ⟨jI (worF (pkG (gU (m 110) (13 + 7 * r) v))), m2, m3, ?_, ?_, Rel_k w2 (kpt_w t2 (fun c z h => by unfold sc; omega))⟩
      · refine (E115 (d := 9)).trans ?_
        rw [T115_0, q1]
        simp only [Option.bind_some, Option.toList_some, List.cons_append, List.nil_append]
        rw [bI_t g1, T115_5, if_neg (by decide), show c_call 9 139 _ (hH L m) = _ from Q139 (d := 8)]
        simp only [Option.bind_some, Option.toList_some, List.cons_append, List.nil_append]
        rw [bI_t g2, T115_14, if_neg (by decide), p1]
        simp only [Option.bind_some, Option.toList_some, List.cons_append, List.nil_append, Option.toList_none]
        rw [T115_34, if_pos (by omega), Int.toNat_natCast, s1]
        simp only [Option.bind_some, Option.toList_some, List.cons_append, List.nil_append]
        rw [T115_55]
      · refine (E231 (d := 9)).trans ?_
        have q3 : c_call 9 153 [jR 109, jI (r : Int)] (hH L m2) = some (some (jI (bI (0 ≤ (r : Int) ∧ (r : Int) < m2 110 1))), hH L m2) := Q153 (d := 7) (by rw [kpt_110 k1]; omega)
        rw [T231_0, q3, kpt_110 k1]
        simp only [Option.bind_some, Option.toList_some, List.cons_append, List.nil_append]
        rw [bI_t g1, T231_5, if_neg (by decide), Q150]
        simp only [Option.bind_some, Option.toList_some, List.cons_append, List.nil_append]
        rw [bI_t g2, T231_23, if_neg (by decide), t1]
        simp only [Option.bind_some, Option.toList_some, List.cons_append, List.nil_append]
        rw [T231_32]
    · refine PA_r w (v := jI (-2)) ((E115 (d := 9)).trans ?_) ((E231 (d := 9)).trans ?_)
      · rw [T115_0, q1]
        simp only [Option.bind_some, Option.toList_some, List.cons_append, List.nil_append]
        rw [bI_t g1, T115_5, if_neg (by decide), show c_call 9 139 _ (hH L m) = _ from Q139 (d := 8)]
        simp only [Option.bind_some, Option.toList_some, List.cons_append, List.nil_append]
        rw [bI_f g2, T115_14, if_pos rfl]
      · rw [T231_0, q2]
        simp only [Option.bind_some, Option.toList_some, List.cons_append, List.nil_append]
        rw [bI_t g1, T231_5, if_neg (by decide), Q150]
        simp only [Option.bind_some, Option.toList_some, List.cons_append, List.nil_append]
        rw [bI_f g2, T231_23, if_pos rfl]
  · refine PA_r w (v := jI (-1)) ((E115 (d := 9)).trans ?_) ((E231 (d := 9)).trans ?_)
    · rw [T115_0, q1]
      simp only [Option.bind_some, Option.toList_some, List.cons_append, List.nil_append]
      rw [bI_f g1, T115_5, if_pos rfl]
    · rw [T231_0, q2]
      simp only [Option.bind_some, Option.toList_some, List.cons_append, List.nil_append]
      rw [bI_f g1, T231_5, if_pos rfl]
/-! odds -/
noncomputable def odF (g : Nat → Int) (r : Nat) (v c : Int) : Nat → Int
  | 0 => 0
  | k + 1 => odF g r v c k + bI (0 ≤ worF (pkG (gU g (13 + 7 * r) (v + (k : Int)))) ∧ worF (pkG (gU g (13 + 7 * r) (v + (k : Int)))) ≤ c)
theorem bI_r (p : Prop) [Decidable p] : 0 ≤ bI p ∧ bI p ≤ 1 := by unfold bI; split <;> omega
theorem odF_r (g : Nat → Int) (r : Nat) (v c : Int) : ∀ k : Nat, 0 ≤ odF g r v c k ∧ odF g r v c k ≤ (k : Int) := by
  intro k
  induction k with
  | zero => exact ⟨Int.le_refl _, Int.le_refl _⟩
  | succ k ih =>
    have := bI_r (0 ≤ worF (pkG (gU g (13 + 7 * r) (v + (k : Int)))) ∧ worF (pkG (gU g (13 + 7 * r) (v + (k : Int)))) ≤ c)
    unfold odF
    omega
theorem gU_2 {g : Nat → Int} {i : Nat} {u v : Int} : gU (gU g i u) i v = gU g i v := by
  funext j
  unfold gU
  by_cases e : j = i
  · rw [if_pos e, if_pos e]
  · rw [if_neg e, if_neg e, if_neg e]
theorem L118 {d L : Nat} {g : Nat → Int} {r : Nat} {v c p : Int} {M : Nat} (hg : gR g) (hr : (r : Int) < g 1) (hM : 1 ≤ M ∧ M ≤ 8) (hv : -99 ≤ v ∧ v + (M : Int) ≤ 1000) : ∀ j k : Nat, k + j = M → ∀ (m : j_M0) (o8 : Option j_V), (∃ u : Int, pkR 35 (gU g (13 + 7 * r) u) m) → ∃ m', j_fin (c_call (d + 6)) 118 78 [some (jR 2), some (jI r), some (jI v), some (jI M), some (jI c), some (jI p), some (jI (odF g r v c k)), some (jI k), o8] [] (hH L m) = some (some (jL (lwF (odF g r v c M) (M : Int) p)), hH L m') ∧ kpt (fun b _ => 35 ≤ b ∧ b ≤ 39 ∨ 54 ≤ b ∧ b ≤ 67) m m' := by
  have g4 := hg.2.2.2.1
  intro j
  induction j with
  | zero =>
    intro k hk m o8 w
    have e : k = M := by omega
    subst e
    have a := odF_r g r v c k
    rw [T118_78, if_neg (by omega), show c_call (d + 6) 146 _ (hH L m) = _ from Q146 (d := d + 4) (x := odF g r v c k) (y := (k : Int)) (by omega) (by omega) (by omega) (by omega)]
    simp only [Option.bind_some, Option.toList_some, List.cons_append, List.nil_append]
    rw [T118_141]
    exact ⟨m, rfl, kpt_rfl⟩
  | succ j ih =>
    intro k hk m o8 w
    obtain ⟨u, w⟩ := w
    have a := odF_r g r v c k
    have hb : -99 ≤ v + (k : Int) ∧ v + (k : Int) ≤ 999 := by omega
    have w1 : pkR 35 (gU g (13 + 7 * r) (v + (k : Int))) (j_up m 38 r (v + (k : Int))) := by
      have h := pkR_bound w (r := r) (v := v + (k : Int)) (by rw [gU_ne (by omega)]; exact hr) hb
      rw [gU_2] at h
      exact h
    obtain ⟨m1, s1, s2⟩ := Q30b (d := d) (L := L) (gR_bound hg (r := r) (by omega) hb) w1
    have k1 : kpt (fun b _ => 35 ≤ b ∧ b ≤ 39 ∨ 54 ≤ b ∧ b ≤ 67) m m1 := kpt_tr (kpt_up (by omega)) (kpt_w s2 (fun b z h => by omega))
    have w2 : pkR 35 (gU g (13 + 7 * r) (v + (k : Int))) m1 := pkR_k w1 (fun b z h h' => kpt_at s2 (by omega))
    rw [T118_78, if_pos (by omega), if_pos (by omega), Int.toNat_natCast, w32_id (x := v + (k : Int)) (by omega) (by omega), s1]
    simp only [Option.bind_some, Option.toList_some, List.cons_append, List.nil_append]
    rw [T118_108, nat1 (by omega)]
    have go := fun o8' => ih (k + 1) (by omega) m1 o8' ⟨_, w2⟩
    rw [odF] at go
    by_cases e1 : worF (pkG (gU g (13 + 7 * r) (v + (k : Int)))) < 0
    · obtain ⟨m2, t1, t2⟩ := go (some (jI (worF (pkG (gU g (13 + 7 * r) (v + (k : Int)))))))
      rw [bI_f (by omega), Int.add_zero] at t1
      rw [if_pos e1]
      exact ⟨m2, t1, kpt_tr k1 t2⟩
    · rw [if_neg e1]
      by_cases e2 : c < worF (pkG (gU g (13 + 7 * r) (v + (k : Int))))
      · obtain ⟨m2, t1, t2⟩ := go (some (jI (worF (pkG (gU g (13 + 7 * r) (v + (k : Int)))))))
        rw [bI_f (by omega), Int.add_zero] at t1
        rw [if_pos e2]
        exact ⟨m2, t1, kpt_tr k1 t2⟩
      · obtain ⟨m2, t1, t2⟩ := go (some (jI (worF (pkG (gU g (13 + 7 * r) (v + (k : Int)))))))
        rw [bI_t (by omega)] at t1
        rw [if_neg e2, w32_id (x := odF g r v c k + 1) (by omega) (by omega)]
        exact ⟨m2, t1, kpt_tr k1 t2⟩
theorem L235 {d L : Nat} {r : Nat} {v c p : Int} {M : Nat} (hr : r < 8) (hM : 1 ≤ M ∧ M ≤ 8) (hv : -99 ≤ v ∧ v + (M : Int) ≤ 1000) : ∀ j k : Nat, k + j = M → ∀ (m : j_M0), gR (m 110) → ∃ m', j_fin (c_call (d + 8)) 235 66 [some (jR 109), some (jI r), some (jI v), some (jI M), some (jI c), some (jI p), some (jI (odF (m 110) r v c k)), some (jI k)] [] (hH L m) = some (some (jL (lwF (odF (m 110) r v c M) (M : Int) p)), hH L m') ∧ kpt (fun b _ => 128 ≤ b ∧ b ≤ 140) m m' := by
  intro j
  induction j with
  | zero =>
    intro k hk m w
    have e : k = M := by omega
    subst e
    have a := odF_r (m 110) r v c k
    rw [T235_66, if_neg (by omega), show c_call (d + 8) 195 _ (hH L m) = _ from Q195 (d := d + 7) (x := odF (m 110) r v c k) (y := (k : Int)) (by omega) (by omega) (by omega) (by omega)]
    simp only [Option.bind_some, Option.toList_some, List.cons_append, List.nil_append]
    rw [T235_118]
    exact ⟨m, rfl, kpt_rfl⟩
  | succ j ih =>
    intro k hk m w
    have a := odF_r (m 110) r v c k
    have hb : -99 ≤ v + (k : Int) ∧ v + (k : Int) ≤ 999 := by omega
    obtain ⟨m1, s1, s2, -, -⟩ := Q230 (d := d) (L := L) (m := m) w (r := r) (v := v + (k : Int)) hr hb
    have e110 : m1 110 = m 110 := funext (fun z => kpt_at s2 (by omega))
    have go := ih (k + 1) (by omega) m1 (by rw [e110]; exact w)
    rw [e110, odF] at go
    obtain ⟨m2, t1, t2⟩ := go
    rw [T235_66, if_pos (by omega), w32_id (x := v + (k : Int)) (by omega) (by omega), s1]
    simp only [Option.bind_some, Option.toList_some, List.cons_append, List.nil_append]
    rw [T235_83, Q150]
    simp only [Option.bind_some, Option.toList_some, List.cons_append, List.nil_append]
    rw [T235_91, nat1 (by omega)]
    by_cases e1 : 0 ≤ worF (pkG (gU (m 110) (13 + 7 * r) (v + (k : Int)))) ∧ worF (pkG (gU (m 110) (13 + 7 * r) (v + (k : Int)))) ≤ c
    · rw [bI_t e1] at t1 ⊢
      rw [if_neg (by decide), w32_id (x := odF (m 110) r v c k + 1) (by omega) (by omega)]
      exact ⟨m2, t1, kpt_tr s2 t2⟩
    · rw [bI_f e1] at t1 ⊢
      rw [if_pos rfl, w32_id (x := odF (m 110) r v c k + 0) (by omega) (by omega)]
      exact ⟨m2, t1, kpt_tr s2 t2⟩
theorem gU_s {g : Nat → Int} {i : Nat} : gU g i (g i) = g := by
  funext j
  unfold gU
  by_cases e : j = i
  · rw [if_pos e, e]
  · rw [if_neg e]
theorem PA118 {L : Nat} {xs : Nat → Int32} {m : j_M0} (w : Rel xs m) (x v M c p : Int) (hvr : iR v) (hMr : iR M) : PA L xs 118 235 [jI x, jI v, jI M, jI c, jI p] m := by
  have n := Rel_n w
  have q1 : c_call 9 136 [jR 2, jI x] (hH L m) = some (some (jI (bI (0 ≤ x ∧ x < m 110 1))), hH L m) := by
    rw [← n.2.2.2.2.2]
    exact Q136 (d := 8)
  have q2 : ∀ m', m' 110 = m 110 → c_call 9 153 [jR 109, jI x] (hH L m') = some (some (jI (bI (0 ≤ x ∧ x < m 110 1))), hH L m') := fun m' h => by
    rw [← h]
    exact Q153 (d := 7) (by rw [h]; omega)
  have q3 : c_call 9 139 [jI v] (hH L m) = some (some (jI (bI (-99 ≤ v ∧ v ≤ 999))), hH L m) := Q139 (d := 8)
  have q4 : c_call 9 141 [jI p] (hH L m) = some (some (jI (bI (p = 0 ∨ p = 1))), hH L m) := Q141 (d := 8)
  have q5 : ∀ m', c_call 9 196 [jI p] (hH L m') = some (some (jI (bI (p = 0 ∨ p = 1))), hH L m') := fun m' => Q196 (d := 7)
  by_cases g1 : 0 ≤ x ∧ x < m 110 1
  · by_cases g2 : -99 ≤ v ∧ v ≤ 999
    · by_cases g3 : 1 ≤ M ∧ M ≤ 8
      · have i1 : w32 (v + M) = v + M := w32_id (by omega) (by omega)
        have i2 : w32 (v + M - 1) = v + M - 1 := w32_id (by omega) (by omega)
        by_cases g4 : v + M ≤ 1000 ∧ 0 ≤ c
        · by_cases g5 : p = 0 ∨ p = 1
          · obtain ⟨r, rfl⟩ : ∃ r : Nat, x = r := ⟨_, (Int.toNat_of_nonneg (by omega)).symm⟩
            obtain ⟨M, rfl⟩ : ∃ r : Nat, M = r := ⟨_, (Int.toNat_of_nonneg (by omega)).symm⟩
            obtain ⟨m1, p1, p2, p3⟩ := Q8_35 (d := 8) (L := L) w.2.2.2.1.1
            obtain ⟨m2, s1, s2⟩ := L118 (d := 3) (L := L) (g := m 110) (r := r) (v := v) (c := c) (p := p) (M := M) w.2.1 (by omega) (by omega) (by omega) M 0 (by omega) m1 none ⟨_, by rw [gU_s]; exact p3⟩
            have k1 : kpt sc m m2 := kpt_tr (kpt_w p2 (fun c z h => by unfold sc; omega)) (kpt_w s2 (fun c z h => by unfold sc; omega))
            have w2 : Rel xs m2 := Rel_k w k1
            obtain ⟨m3, t1, t2⟩ := L235 (d := 1) (L := L) (r := r) (v := v) (c := c) (p := p) (M := M) (by omega) (by omega) (by omega) M 0 (by omega) m2 w2.2.1
            rw [kpt_110 k1] at t1
            refine ⟨jL (lwF (odF (m 110) r v c M) (M : Int) p), m2, m3, (E118 (d := 9)).trans ?_, (E235 (d := 9)).trans ?_, Rel_k w2 (kpt_w t2 (fun c z h => by unfold sc; omega))⟩
            · rw [T118_0, q1]
              simp only [Option.bind_some, Option.toList_some, List.cons_append, List.nil_append]
              rw [bI_t g1, T118_5, if_neg (by decide), q3]
              simp only [Option.bind_some, Option.toList_some, List.cons_append, List.nil_append]
              rw [bI_t g2, T118_12, if_neg (by decide), if_neg (by omega), if_neg (by omega), i1, i2, if_neg (by omega), if_neg (by omega), q4]
              simp only [Option.bind_some, Option.toList_some, List.cons_append, List.nil_append]
              rw [bI_t g5, T118_51, if_neg (by decide), p1]
              simp only [Option.bind_some, Option.toList_some, List.cons_append, List.nil_append, Option.toList_none]
              rw [T118_75]
              exact s1
            · rw [T235_0, q2 m2 (kpt_110 k1)]
              simp only [Option.bind_some, Option.toList_some, List.cons_append, List.nil_append]
              rw [bI_t g1, T235_5, if_neg (by decide), Q150]
              simp only [Option.bind_some, Option.toList_some, List.cons_append, List.nil_append]
              rw [bI_t g2, T235_19, if_neg (by decide), Q150]
              simp only [Option.bind_some, Option.toList_some, List.cons_append, List.nil_append]
              rw [bI_t g3, T235_31, if_neg (by decide), i1, if_neg (by omega), if_neg (by omega), q5]
              simp only [Option.bind_some, Option.toList_some, List.cons_append, List.nil_append]
              rw [bI_t g5, T235_53, if_neg (by decide)]
              exact t1
          · refine PA_r w (v := jL (-9223372036854775808)) ((E118 (d := 9)).trans ?_) ((E235 (d := 9)).trans ?_)
            · rw [T118_0, q1]
              simp only [Option.bind_some, Option.toList_some, List.cons_append, List.nil_append]
              rw [bI_t g1, T118_5, if_neg (by decide), q3]
              simp only [Option.bind_some, Option.toList_some, List.cons_append, List.nil_append]
              rw [bI_t g2, T118_12, if_neg (by decide), if_neg (by omega), if_neg (by omega), i1, i2, if_neg (by omega), if_neg (by omega), q4]
              simp only [Option.bind_some, Option.toList_some, List.cons_append, List.nil_append]
              rw [bI_f g5, T118_51, if_pos rfl]
            · rw [T235_0, q2 m rfl]
              simp only [Option.bind_some, Option.toList_some, List.cons_append, List.nil_append]
              rw [bI_t g1, T235_5, if_neg (by decide), Q150]
              simp only [Option.bind_some, Option.toList_some, List.cons_append, List.nil_append]
              rw [bI_t g2, T235_19, if_neg (by decide), Q150]
              simp only [Option.bind_some, Option.toList_some, List.cons_append, List.nil_append]
              rw [bI_t g3, T235_31, if_neg (by decide), i1, if_neg (by omega), if_neg (by omega), q5]
              simp only [Option.bind_some, Option.toList_some, List.cons_append, List.nil_append]
              rw [bI_f g5, T235_53, if_pos rfl]
        · refine PA_r w (v := jL (-9223372036854775808)) ((E118 (d := 9)).trans ?_) ((E235 (d := 9)).trans ?_)
          · rw [T118_0, q1]
            simp only [Option.bind_some, Option.toList_some, List.cons_append, List.nil_append]
            rw [bI_t g1, T118_5, if_neg (by decide), q3]
            simp only [Option.bind_some, Option.toList_some, List.cons_append, List.nil_append]
            rw [bI_t g2, T118_12, if_neg (by decide), if_neg (by omega), if_neg (by omega), i1, i2]
            by_cases g6 : 999 < v + M - 1
            · rw [if_pos g6]
            · rw [if_neg g6, if_pos (by omega)]
          · rw [T235_0, q2 m rfl]
            simp only [Option.bind_some, Option.toList_some, List.cons_append, List.nil_append]
            rw [bI_t g1, T235_5, if_neg (by decide), Q150]
            simp only [Option.bind_some, Option.toList_some, List.cons_append, List.nil_append]
            rw [bI_t g2, T235_19, if_neg (by decide), Q150]
            simp only [Option.bind_some, Option.toList_some, List.cons_append, List.nil_append]
            rw [bI_t g3, T235_31, if_neg (by decide), i1]
            by_cases g6 : 1000 < v + M
            · rw [if_pos g6]
            · rw [if_neg g6, if_pos (by omega)]
      · refine PA_r w (v := jL (-9223372036854775808)) ((E118 (d := 9)).trans ?_) ((E235 (d := 9)).trans ?_)
        · rw [T118_0, q1]
          simp only [Option.bind_some, Option.toList_some, List.cons_append, List.nil_append]
          rw [bI_t g1, T118_5, if_neg (by decide), q3]
          simp only [Option.bind_some, Option.toList_some, List.cons_append, List.nil_append]
          rw [bI_t g2, T118_12, if_neg (by decide)]
          by_cases g6 : M < 1
          · rw [if_pos g6]
          · rw [if_neg g6, if_pos (by omega)]
        · rw [T235_0, q2 m rfl]
          simp only [Option.bind_some, Option.toList_some, List.cons_append, List.nil_append]
          rw [bI_t g1, T235_5, if_neg (by decide), Q150]
          simp only [Option.bind_some, Option.toList_some, List.cons_append, List.nil_append]
          rw [bI_t g2, T235_19, if_neg (by decide), Q150]
          simp only [Option.bind_some, Option.toList_some, List.cons_append, List.nil_append]
          rw [bI_f g3, T235_31, if_pos rfl]
    · refine PA_r w (v := jL (-9223372036854775808)) ((E118 (d := 9)).trans ?_) ((E235 (d := 9)).trans ?_)
      · rw [T118_0, q1]
        simp only [Option.bind_some, Option.toList_some, List.cons_append, List.nil_append]
        rw [bI_t g1, T118_5, if_neg (by decide), q3]
        simp only [Option.bind_some, Option.toList_some, List.cons_append, List.nil_append]
        rw [bI_f g2, T118_12, if_pos rfl]
      · rw [T235_0, q2 m rfl]
        simp only [Option.bind_some, Option.toList_some, List.cons_append, List.nil_append]
        rw [bI_t g1, T235_5, if_neg (by decide), Q150]
        simp only [Option.bind_some, Option.toList_some, List.cons_append, List.nil_append]
        rw [bI_f g2, T235_19, if_pos rfl]
  · refine PA_r w (v := jL (-9223372036854775808)) ((E118 (d := 9)).trans ?_) ((E235 (d := 9)).trans ?_)
    · rw [T118_0, q1]
      simp only [Option.bind_some, Option.toList_some, List.cons_append, List.nil_append]
      rw [bI_f g1, T118_5, if_pos rfl]
    · rw [T235_0, q2 m rfl]
      simp only [Option.bind_some, Option.toList_some, List.cons_append, List.nil_append]
      rw [bI_f g1, T235_5, if_pos rfl]
