/-! The class alone, told by a row: g (packs, rules, what is seen, planned, offered), q (the image's row), t (the text's N letters). -/
def imQ (q : Option (Nat → Int)) (m : j_M0) : Prop := match q with
  | none => m 2 12 = 0
  | some g1 => m 2 12 = 1 ∧ gR g1 ∧ gX g1 ∧ stR 19 g1 m
theorem imQ_k {q : Option (Nat → Int)} {m m' : j_M0} (w : imQ q m) (k : ∀ b z, (b = 2 ∧ z = 12) ∨ (19 ≤ b ∧ b ≤ 34) → m' b z = m b z) : imQ q m' := by
  cases q with
  | none => exact (k _ _ (by omega)).trans w
  | some g1 => exact ⟨(k _ _ (by omega)).trans w.1, w.2.1, w.2.2.1, stR_k w.2.2.2 (fun b z h h' => k _ _ (by omega))⟩
def Rel (xs : Nat → Int32) (g : Nat → Int) (q : Option (Nat → Int)) (t : Nat → Int) (N : Nat) (m : j_M0) : Prop := baR xs m ∧ gR g ∧ gX g ∧ stR 3 g m ∧ imQ q m ∧ tC' t N m ∧ m 99 0 = -1
/-- what is thought only -/
def scQ (b z : Nat) : Prop := (35 ≤ b ∧ b ≤ 92) ∨ (b = 93 ∧ z ≠ 0) ∨ (95 ≤ b ∧ b ≤ 97) ∨ (108 ≤ b ∧ b ≤ 113) ∨ (b = 2 ∧ z = 11)
/-- what a call may change -/
def uPQ (b z : Nat) : Prop := (3 ≤ b ∧ b ≤ 18) ∨ scQ b z
section RQ
variable {xs : Nat → Int32} {g : Nat → Int} {q : Option (Nat → Int)} {t : Nat → Int} {N : Nat} {m m' : j_M0}
theorem RQ_n (w : Rel xs g q t N m) : 1 ≤ g 0 ∧ g 0 ≤ 5 ∧ 0 ≤ g 1 ∧ g 1 ≤ 8 ∧ m 4 0 = g 0 ∧ m 4 1 = g 1 := ⟨w.2.1.1, w.2.1.2.1, w.2.1.2.2.1, w.2.1.2.2.2.1, w.2.2.2.1.1.2.1, w.2.2.2.1.1.2.2.1⟩
theorem RQ_up {g' : Nat → Int} (w : Rel xs g q t N m) (k : kpt uPQ m m') (g1 : gR g') (g2 : gX g') (st : stR 3 g' m') : Rel xs g' q t N m' := by
  have e : ∀ b z, ¬ uPQ b z → m' b z = m b z := fun b z h => kpt_at k h
  unfold uPQ scQ at e
  obtain ⟨w1, w2, w3, w4, w5, w6, w7⟩ := w
  exact ⟨baR_k w1 (fun b z h => e _ _ (by omega)), g1, g2, st, imQ_k w5 (fun b z h => e _ _ (by omega)), tC_k w6 (fun b z h => e _ _ (by omega)), (e _ _ (by omega)).trans w7⟩
theorem RQ_sc (w : Rel xs g q t N m) (k : kpt scQ m m') : Rel xs g q t N m' := by
  refine RQ_up w (kpt_w k (fun b z h => Or.inr h)) w.2.1 w.2.2.1 (stR_k w.2.2.2.1 (fun b z h h' => kpt_at k (by unfold scQ; omega)))
theorem RQ_fr (k : kpt uPQ m m') : ∀ b z, 114 ≤ b → m' b z = m b z := fun b z h => kpt_at k (by unfold uPQ scQ; omega)
theorem RQ_135 {L : j_B} {d : Nat} (w : Rel xs g q t N m) (x : Int) (h : m' 4 0 = m 4 0) : c_call (d + 1) 135 [jR 2, jI x] (hH L m') = some (some (jI (bI (0 ≤ x ∧ x < g 0))), hH L m') := by
  rw [← (RQ_n w).2.2.2.2.1, ← h]
  exact Q135
theorem RQ_136 {L : j_B} {d : Nat} (w : Rel xs g q t N m) (x : Int) (h : m' 4 1 = m 4 1) : c_call (d + 1) 136 [jR 2, jI x] (hH L m') = some (some (jI (bI (0 ≤ x ∧ x < g 1))), hH L m') := by
  rw [← (RQ_n w).2.2.2.2.2, ← h]
  exact Q136
end RQ
/-- a call of y answers v; then the row is g', the image q' -/
def PB (L : j_B) (xs : Nat → Int32) (q : Option (Nat → Int)) (t : Nat → Int) (N : Nat) (m : j_M0) (y : Nat) (as : List j_V) (v : j_V) (g' : Nat → Int) : Prop := ∃ m', c_call 10 y (jR 2 :: as) (hH L m) = some (some v, hH L m') ∧ Rel xs g' q t N m' ∧ ∀ b z, 114 ≤ b → m' b z = m b z
section RB
variable {L : j_B} {xs : Nat → Int32} {g : Nat → Int} {q : Option (Nat → Int)} {t : Nat → Int} {N : Nat} {m : j_M0}
theorem PB_r {y : Nat} {as : List j_V} {v : j_V} (w : Rel xs g q t N m) (h : c_call 10 y (jR 2 :: as) (hH L m) = some (some v, hH L m)) : PB L xs q t N m y as v g := ⟨m, h, w, fun _ _ _ => rfl⟩
theorem PB_u {y : Nat} {as : List j_V} {v : j_V} {g' : Nat → Int} {m' : j_M0} (w : Rel xs g q t N m) (h : c_call 10 y (jR 2 :: as) (hH L m) = some (some v, hH L m')) (k : kpt uPQ m m') (g1 : gR g') (g2 : gX g') (st : stR 3 g' m') : PB L xs q t N m y as v g' := ⟨m', h, RQ_up w k g1 g2 st, RQ_fr k⟩
theorem PB_s {y : Nat} {as : List j_V} {v : j_V} {m' : j_M0} (w : Rel xs g q t N m) (h : c_call 10 y (jR 2 :: as) (hH L m) = some (some v, hH L m')) (k : kpt scQ m m') : PB L xs q t N m y as v g := ⟨m', h, RQ_sc w k, RQ_fr (kpt_w k (fun b z h => Or.inr h))⟩
end RB
