/-! Packs, read and written. -/
/-- packs at a: what they are, in range -/
def kP (a : Nat) (m : j_M0) : Prop := 1 ≤ m a 0 ∧ m a 0 ≤ 5 ∧ 0 ≤ m a 1 ∧ m a 1 ≤ 8 ∧ (∀ p : Nat, p < 5 → 0 ≤ m (a + 1) p ∧ m (a + 1) p ≤ 99) ∧ (∀ r : Nat, r < 8 → (m (a + 2) r = 0 ∨ m (a + 2) r = 1) ∧ -99 ≤ m (a + 3) r ∧ m (a + 3) r ≤ 999) ∧ (∀ i : Nat, i < 40 → -9 ≤ m (a + 4) i ∧ m (a + 4) i ≤ 9)
/-- a rule as told: points and limit -/
def ptC (a : Nat) (m : j_M0) (r p : Nat) : Int := if m (a + 2) r = 0 then -(m (a + 4) (5 * r + p)) else m (a + 4) (5 * r + p)
def liC (a : Nat) (m : j_M0) (r : Nat) : Int := if m (a + 2) r = 0 then -(m (a + 3) r) else m (a + 3) r
theorem up_ne {m : j_M0} {a i b j : Nat} {v : Int} (h : b ≠ a) : j_up m a i v b j = m b j := by unfold j_up; rw [if_neg h]
theorem up_eq {m : j_M0} {a i j : Nat} {v : Int} (h : j = i) : j_up m a i v a j = v := by unfold j_up; rw [if_pos rfl, if_pos h]
theorem up_nj {m : j_M0} {a i j : Nat} {v : Int} (h : j ≠ i) : j_up m a i v a j = m a j := by unfold j_up; rw [if_pos rfl, if_neg h]
theorem ptC_r {a : Nat} {m : j_M0} {r p : Nat} (h : kP a m) (hr : r < 8) (hp : p < 5) : -9 ≤ ptC a m r p ∧ ptC a m r p ≤ 9 := by
  have h1 := h.2.2.2.2.2.2 (5 * r + p) (by omega)
  unfold ptC
  grind
theorem liC_r {a : Nat} {m : j_M0} {r : Nat} (h : kP a m) (hr : r < 8) : -999 ≤ liC a m r ∧ liC a m r ≤ 999 := by
  have h1 := h.2.2.2.2.2.1 r hr
  unfold liC
  grind
theorem Q11_4 {d : Nat} {L : j_B} {m : j_M0} {x p : Int} (h1 : 0 ≤ x) (h2 : x < 8) (h3 : 0 ≤ p) (h4 : p < 5) : c_call (d + 1) 11 [jR 4, jI x, jI p] (hH L m) = some (some (jI (m 8 (5 * x.toNat + p.toNat))), hH L m) := by
  rw [E11]
  simp (disch := omega) only [T11_0_4, w32_id]
  rw [if_pos (by omega), show (x * 5 + p).toNat = 5 * x.toNat + p.toNat by omega]
theorem Q11_35 {d : Nat} {L : j_B} {m : j_M0} {x p : Int} (h1 : 0 ≤ x) (h2 : x < 8) (h3 : 0 ≤ p) (h4 : p < 5) : c_call (d + 1) 11 [jR 35, jI x, jI p] (hH L m) = some (some (jI (m 39 (5 * x.toNat + p.toNat))), hH L m) := by
  rw [E11]
  simp (disch := omega) only [T11_0_35, w32_id]
  rw [if_pos (by omega), show (x * 5 + p).toNat = 5 * x.toNat + p.toNat by omega]
theorem Q12_4 {d : Nat} {L : j_B} {m : j_M0} {x p v : Int} (h1 : 0 ≤ x) (h2 : x < 8) (h3 : 0 ≤ p) (h4 : p < 5) : c_call (d + 1) 12 [jR 4, jI x, jI p, jI v] (hH L m) = some (none, hH L (j_up m 8 (5 * x.toNat + p.toNat) v)) := by
  rw [E12]
  simp (disch := omega) only [T12_0_4, w32_id]
  rw [if_pos (by omega), show (x * 5 + p).toNat = 5 * x.toNat + p.toNat by omega]
theorem Q12_35 {d : Nat} {L : j_B} {m : j_M0} {x p v : Int} (h1 : 0 ≤ x) (h2 : x < 8) (h3 : 0 ≤ p) (h4 : p < 5) : c_call (d + 1) 12 [jR 35, jI x, jI p, jI v] (hH L m) = some (none, hH L (j_up m 39 (5 * x.toNat + p.toNat) v)) := by
  rw [E12]
  simp (disch := omega) only [T12_0_35, w32_id]
  rw [if_pos (by omega), show (x * 5 + p).toNat = 5 * x.toNat + p.toNat by omega]
theorem Q13_4 {d : Nat} {L : j_B} {m : j_M0} {x p : Int} (h : kP 4 m) (h1 : 0 ≤ x) (h2 : x < 8) (h3 : 0 ≤ p) (h4 : p < m 4 0) : c_call (d + 2) 13 [jR 4, jI x, jI p] (hH L m) = some (some (jI (ptC 4 m x.toNat p.toNat)), hH L m) := by
  have e := h.2.1
  have e1 := h.2.2.2.2.2.2 (5 * x.toNat + p.toNat) (by omega)
  simp only [Nat.reduceAdd] at e1
  rw [E13]
  simp (disch := omega) only [T13_0_4, T13_23_4, Q11_4, Option.bind_some, Option.toList_some, List.cons_append, List.nil_append, bI_0, bI_1, bI_01, if_true, cmp_lt, cmp_gt, cmp_le, cmp_ge, cmp_eq, w32_id]
  unfold ptC
  grind
theorem Q13n_4 {d : Nat} {L : j_B} {m : j_M0} {x p : Int} (h : kP 4 m) (h1 : 0 ≤ x) (h2 : x < 8) (h4 : p = m 4 0) : c_call (d + 2) 13 [jR 4, jI x, jI p] (hH L m) = some (some (jI (liC 4 m x.toNat)), hH L m) := by
  have e1 := h.2.2.2.2.2.1 x.toNat (by omega)
  simp only [Nat.reduceAdd] at e1
  rw [E13]
  simp (disch := omega) only [T13_0_4, T13_23_4, Option.bind_some, Option.toList_some, List.cons_append, List.nil_append, bI_0, bI_1, bI_01, if_true, cmp_lt, cmp_gt, cmp_le, cmp_ge, cmp_eq, w32_id]
  unfold liC
  grind
theorem Q13_35 {d : Nat} {L : j_B} {m : j_M0} {x p : Int} (h : kP 35 m) (h1 : 0 ≤ x) (h2 : x < 8) (h3 : 0 ≤ p) (h4 : p < m 35 0) : c_call (d + 2) 13 [jR 35, jI x, jI p] (hH L m) = some (some (jI (ptC 35 m x.toNat p.toNat)), hH L m) := by
  have e := h.2.1
  have e1 := h.2.2.2.2.2.2 (5 * x.toNat + p.toNat) (by omega)
  simp only [Nat.reduceAdd] at e1
  rw [E13]
  simp (disch := omega) only [T13_0_35, T13_23_35, Q11_35, Option.bind_some, Option.toList_some, List.cons_append, List.nil_append, bI_0, bI_1, bI_01, if_true, cmp_lt, cmp_gt, cmp_le, cmp_ge, cmp_eq, w32_id]
  unfold ptC
  grind
theorem Q13n_35 {d : Nat} {L : j_B} {m : j_M0} {x p : Int} (h : kP 35 m) (h1 : 0 ≤ x) (h2 : x < 8) (h4 : p = m 35 0) : c_call (d + 2) 13 [jR 35, jI x, jI p] (hH L m) = some (some (jI (liC 35 m x.toNat)), hH L m) := by
  have e1 := h.2.2.2.2.2.1 x.toNat (by omega)
  simp only [Nat.reduceAdd] at e1
  rw [E13]
  simp (disch := omega) only [T13_0_35, T13_23_35, Option.bind_some, Option.toList_some, List.cons_append, List.nil_append, bI_0, bI_1, bI_01, if_true, cmp_lt, cmp_gt, cmp_le, cmp_ge, cmp_eq, w32_id]
  unfold liC
  grind
