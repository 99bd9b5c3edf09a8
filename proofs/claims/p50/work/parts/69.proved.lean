/-! proved. -/
/-! proved -/
def wsA (K : PK) (U : CU) (x p : Nat) : Nat → Int
  | 0 => 0
  | r + 1 => w64 (wsA K U x p r + w64 (cW U x r * pF K r p))
def wsB (K : PK) (U : CU) (x p : Nat) : Nat → Int
  | 0 => wsA K U x p (pR K)
  | e + 1 => w64 (wsB K U x p e + w64 (cW U x (8 + e) * cF U e p))
def prF (K : PK) (U : CU) (x p : Nat) : Prop := wsB K U x p x / cD U x = cF U x p
theorem wsA_r (K : PK) (U : CU) (x p k : Nat) : -9223372036854775808 ≤ wsA K U x p k ∧ wsA K U x p k ≤ 9223372036854775807 := by
  cases k with
  | zero => unfold wsA; omega
  | succ k => unfold wsA; exact w64_r _
theorem wsB_r (K : PK) (U : CU) (x p k : Nat) : -9223372036854775808 ≤ wsB K U x p k ∧ wsB K U x p k ≤ 9223372036854775807 := by
  cases k with
  | zero => unfold wsB; exact wsA_r K U x p _
  | succ k => unfold wsB; exact w64_r _
theorem fl_u {a b : Int} {p q : Prop} (h : fl a p) (h' : fl b q) (e : p ↔ q) : a = b ∧ (a = 0 ∨ a = 1) := by
  rcases h with ⟨rfl, h⟩ | ⟨rfl, h⟩
  · rcases h' with ⟨rfl, h'⟩ | ⟨rfl, h'⟩
    · exact ⟨rfl, Or.inr rfl⟩
    · exact absurd (e.mp h) h'
  · rcases h' with ⟨rfl, h'⟩ | ⟨rfl, h'⟩
    · exact absurd (e.mpr h') h
    · exact ⟨rfl, Or.inl rfl⟩
