/-! The model reads a text. -/
theorem miS_r (t : Nat → Int) (N k : Nat) : miS t N k = 1 ∨ miS t N k = -1 := by
  unfold miS
  split
  · exact Or.inr rfl
  · exact Or.inl rfl
