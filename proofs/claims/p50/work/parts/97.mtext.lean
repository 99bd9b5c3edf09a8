/-! Faults; the model reads a term. -/
/-- the class's clauses, c of them -/
def cC (c : Nat) (S : Nat → Int) (m : j_M0) : Prop := ∀ q : Nat, q < c → m 95 q = S (7 * q) ∧ m 96 q = S (7 * q + 1) ∧ fC q S m
def WF (b z : Nat) : Prop := (b = 93 ∧ (z = 1 ∨ z = 3)) ∨ b = 95 ∨ b = 96 ∨ b = 97
theorem tC_F {t : Nat → Int} {N : Nat} {m m' : j_M0} (h : tC' t N m) (k : kpt WF m m') : tC' t N m' := tC_k h (fun b z g => kpt_at k (by unfold WF; omega))
/-! the model's -/
def WT (b z : Nat) : Prop := (b = 109 ∧ z = 7) ∨ b = 114
