/-- a flag of a condition -/
def fl (s : Int) (p : Prop) : Prop := (s = 1 ∧ p) ∨ (s = 0 ∧ ¬ p)
theorem fl_w {s : Int} {p q : Prop} (h : fl s p) (w : p ↔ q) : fl s q := by
  unfold fl at *
  rw [← w]; exact h
