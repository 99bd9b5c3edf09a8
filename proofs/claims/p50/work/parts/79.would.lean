/-! would, odds. -/
def gU (g : Nat → Int) (i : Nat) (v : Int) : Nat → Int := fun j => if j = i then v else g j
theorem gU_ne {g : Nat → Int} {i j : Nat} {v : Int} (h : j ≠ i) : gU g i v j = g j := if_neg h
theorem gU_eq {g : Nat → Int} {i j : Nat} {v : Int} (h : j = i) : gU g i v j = v := if_pos h
theorem up_g {m : j_M0} {a i : Nat} {v : Int} : (j_up m a i v) a = gU (m a) i v := by
  funext j
  unfold j_up gU
  rw [if_pos rfl]
theorem gU_b {g : Nat → Int} {i : Nat} {v : Int} : gU (gU g i v) i (g i) = g := by
  funext j
  unfold gU
  by_cases e : j = i
  · rw [if_pos e, e]
  · rw [if_neg e, if_neg e]
/-- a bound is another -/
theorem gR_bound {g : Nat → Int} (h : gR g) {r : Nat} {v : Int} (hr : r < 8) (hv : -99 ≤ v ∧ v ≤ 999) : gR (gU g (13 + 7 * r) v) := by
  obtain ⟨h1, h2, h3, h4, h5, h6, h7⟩ := h
  unfold gR
  rw [gU_ne (by omega), gU_ne (by omega)]
  refine ⟨h1, h2, h3, h4, fun p hp => ?_, fun q hq => ?_, fun q p hq hp => ?_⟩
  · rw [gU_ne (by omega)]; exact h5 p hp
  · rw [gU_ne (show 12 + 7 * q ≠ 13 + 7 * r by omega)]
    by_cases e : q = r
    · subst e
      rw [gU_eq rfl]
      exact ⟨(h6 q hq).1, hv⟩
    · rw [gU_ne (by omega)]
      exact h6 q hq
  · rw [gU_ne (by omega)]; exact h7 q p hq hp
theorem pkR_bound {a : Nat} {g : Nat → Int} {m : j_M0} (w : pkR a g m) {r : Nat} {v : Int} (hr : (r : Int) < g 1) (hv : -99 ≤ v ∧ v ≤ 999) : pkR a (gU g (13 + 7 * r) v) (j_up m (a + 3) r v) := by
  obtain ⟨w1, w2, w3, w4, w5, w6⟩ := w
  obtain ⟨a1, a2, a3, a4, a5, a6, a7⟩ := w1
  have hr8 : r < 8 := by omega
  refine ⟨⟨?_, ?_, ?_, ?_, fun p hp => ?_, fun q hq => ?_, fun i hi => ?_⟩, ?_, ?_, fun p hp => ?_, fun q hq => ⟨?_, ?_⟩, fun q p hq hp => ?_⟩
  · rw [up_ne (by omega)]; exact a1
  · rw [up_ne (by omega)]; exact a2
  · rw [up_ne (by omega)]; exact a3
  · rw [up_ne (by omega)]; exact a4
  · rw [up_ne (by omega)]; exact a5 p hp
  · rw [up_ne (by omega), up_at]
    refine ⟨(a6 q hq).1, ?_⟩
    split
    · exact hv
    · exact (a6 q hq).2
  · rw [up_ne (by omega)]; exact a7 i hi
  · rw [up_ne (by omega), gU_ne (by omega)]; exact w2
  · rw [up_ne (by omega), gU_ne (by omega)]; exact w3
  · rw [up_ne (by omega), gU_ne (by omega)]; exact w4 p hp
  · rw [gU_ne (by omega)] at hq
    rw [up_ne (by omega), gU_ne (by omega)]
    exact (w5 q hq).1
  · rw [gU_ne (by omega)] at hq
    rw [up_at]
    by_cases e : q = r
    · subst e; rw [if_pos rfl, gU_eq rfl]
    · rw [if_neg e, gU_ne (by omega)]; exact (w5 q hq).2
  · rw [gU_ne (by omega)] at hq hp
    rw [up_ne (by omega), gU_ne (by omega)]
    exact w6 q p hq hp
theorem Q8_35 {d : Nat} {L : j_B} {g : Nat → Int} {m : j_M0} (w : pkR 4 g m) : ∃ m', c_call (d + 1) 8 [jR 35, jR 4] (hH L m) = some (none, hH L m') ∧ kpt (fun c z => 35 ≤ c ∧ c ≤ 39 ∧ (c = 35 → z < 2)) m m' ∧ pkR 35 g m' := by
  obtain ⟨w1, w2, w3, w4, w5, w6⟩ := w
  obtain ⟨a1, a2, a3, a4, a5, a6, a7⟩ := w1
  simp only [Nat.reduceAdd] at a5 a6 a7 w4 w5 w6
  rw [E8, T8_0_35_4]
  refine ⟨_, rfl, fun c z => ?_, ?_⟩
  · by_cases e : 35 ≤ c ∧ c ≤ 39 ∧ (c = 35 → z < 2)
    · exact Or.inl e
    · right
      rw [cpy_ne (by omega), cpy_ne (by omega), cpy_ne (by omega), cpy_ne (by omega)]
      by_cases e2 : c = 35
      · subst e2
        rw [up_nj (by omega), up_nj (by omega)]
      · rw [up_ne e2, up_ne e2]
  · unfold pkR kP
    simp (disch := omega) only [Nat.reduceAdd, cpy_ne, cpy_at, up_ne, up_nj, up_eq]
    refine ⟨⟨a1, a2, a3, a4, fun p hp => ?_, fun r hr => ?_, fun i hi => ?_⟩, w2, w3, fun p hp => ?_, fun r hr => ?_, fun r p hr hp => ?_⟩
    · rw [if_pos hp]; exact a5 p hp
    · rw [if_pos hr, if_pos hr]; exact a6 r hr
    · rw [if_pos hi]; exact a7 i hi
    · rw [if_pos hp]; exact w4 p hp
    · rw [if_pos (by omega), if_pos (by omega)]; exact w5 r hr
    · rw [if_pos (by omega)]; exact w6 r p hr hp
theorem Q8_20 {d : Nat} {L : j_B} {g : Nat → Int} {m : j_M0} (w : pkR 4 g m) : ∃ m', c_call (d + 1) 8 [jR 20, jR 4] (hH L m) = some (none, hH L m') ∧ kpt (fun c z => 20 ≤ c ∧ c ≤ 24 ∧ (c = 20 → z < 2)) m m' ∧ pkR 20 g m' := by
  obtain ⟨w1, w2, w3, w4, w5, w6⟩ := w
  obtain ⟨a1, a2, a3, a4, a5, a6, a7⟩ := w1
  simp only [Nat.reduceAdd] at a5 a6 a7 w4 w5 w6
  rw [E8, T8_0_20_4]
  refine ⟨_, rfl, fun c z => ?_, ?_⟩
  · by_cases e : 20 ≤ c ∧ c ≤ 24 ∧ (c = 20 → z < 2)
    · exact Or.inl e
    · right
      rw [cpy_ne (by omega), cpy_ne (by omega), cpy_ne (by omega), cpy_ne (by omega)]
      by_cases e2 : c = 20
      · subst e2
        rw [up_nj (by omega), up_nj (by omega)]
      · rw [up_ne e2, up_ne e2]
  · unfold pkR kP
    simp (disch := omega) only [Nat.reduceAdd, cpy_ne, cpy_at, up_ne, up_nj, up_eq]
    refine ⟨⟨a1, a2, a3, a4, fun p hp => ?_, fun r hr => ?_, fun i hi => ?_⟩, w2, w3, fun p hp => ?_, fun r hr => ?_, fun r p hr hp => ?_⟩
    · rw [if_pos hp]; exact a5 p hp
    · rw [if_pos hr, if_pos hr]; exact a6 r hr
    · rw [if_pos hi]; exact a7 i hi
    · rw [if_pos hp]; exact w4 p hp
    · rw [if_pos (by omega), if_pos (by omega)]; exact w5 r hr
    · rw [if_pos (by omega)]; exact w6 r p hr hp
theorem Q8_4 {d : Nat} {L : j_B} {g : Nat → Int} {m : j_M0} (w : pkR 20 g m) : ∃ m', c_call (d + 1) 8 [jR 4, jR 20] (hH L m) = some (none, hH L m') ∧ kpt (fun c z => 4 ≤ c ∧ c ≤ 8 ∧ (c = 4 → z < 2)) m m' ∧ pkR 4 g m' := by
  obtain ⟨w1, w2, w3, w4, w5, w6⟩ := w
  obtain ⟨a1, a2, a3, a4, a5, a6, a7⟩ := w1
  simp only [Nat.reduceAdd] at a5 a6 a7 w4 w5 w6
  rw [E8, T8_0_4_20]
  refine ⟨_, rfl, fun c z => ?_, ?_⟩
  · by_cases e : 4 ≤ c ∧ c ≤ 8 ∧ (c = 4 → z < 2)
    · exact Or.inl e
    · right
      rw [cpy_ne (by omega), cpy_ne (by omega), cpy_ne (by omega), cpy_ne (by omega)]
      by_cases e2 : c = 4
      · subst e2
        rw [up_nj (by omega), up_nj (by omega)]
      · rw [up_ne e2, up_ne e2]
  · unfold pkR kP
    simp (disch := omega) only [Nat.reduceAdd, cpy_ne, cpy_at, up_ne, up_nj, up_eq]
    refine ⟨⟨a1, a2, a3, a4, fun p hp => ?_, fun r hr => ?_, fun i hi => ?_⟩, w2, w3, fun p hp => ?_, fun r hr => ?_, fun r p hr hp => ?_⟩
    · rw [if_pos hp]; exact a5 p hp
    · rw [if_pos hr, if_pos hr]; exact a6 r hr
    · rw [if_pos hi]; exact a7 i hi
    · rw [if_pos hp]; exact w4 p hp
    · rw [if_pos (by omega), if_pos (by omega)]; exact w5 r hr
    · rw [if_pos (by omega)]; exact w6 r p hr hp
/-- the class's thought, a bound told -/
theorem Q30b {d : Nat} {L : j_B} {g : Nat → Int} {m : j_M0} (h : gR g) (w : pkR 35 g m) : ∃ m', c_call (d + 6) 30 [jR 54, jR 35] (hH L m) = some (some (jI (worF (pkG g))), hH L m') ∧ kpt (fun b _ => 54 ≤ b ∧ b ≤ 67) m m' := by
  obtain ⟨m1, q1, q2, q3, q4⟩ := Q30 (d := d) (L := L) (vP_of h w)
  exact ⟨m1, q1, kpt_w q2 (fun b z h => by omega)⟩
/-! odds -/
noncomputable def odF (g : Nat → Int) (r : Nat) (v c : Int) : Nat → Int
  | 0 => 0
  | k + 1 => odF g r v c k + bI (0 ≤ worF (pkG (gU g (13 + 7 * r) (v + (k : Int)))) ∧ worF (pkG (gU g (13 + 7 * r) (v + (k : Int)))) ≤ c)
theorem bI_r (p : Prop) [Decidable p] : 0 ≤ bI p ∧ bI p ≤ 1 := by unfold bI; split <;> omega
theorem odF_r (g : Nat → Int) (r : Nat) (v c : Int) : ∀ k : Nat, 0 ≤ odF g r v c k ∧ odF g r v c k ≤ (k : Int) := by
  intro k
  induction k with
  | zero => exact ⟨Int.le_refl _, Int.le_refl _⟩
  | succ k ih =>
    have := bI_r (0 ≤ worF (pkG (gU g (13 + 7 * r) (v + (k : Int)))) ∧ worF (pkG (gU g (13 + 7 * r) (v + (k : Int)))) ≤ c)
    unfold odF
    omega
theorem gU_2 {g : Nat → Int} {i : Nat} {u v : Int} : gU (gU g i u) i v = gU g i v := by
  funext j
  unfold gU
  by_cases e : j = i
  · rw [if_pos e, if_pos e]
  · rw [if_neg e, if_neg e, if_neg e]
theorem gU_s {g : Nat → Int} {i : Nat} : gU g i (g i) = g := by
  funext j
  unfold gU
  by_cases e : j = i
  · rw [if_pos e, e]
  · rw [if_neg e]
