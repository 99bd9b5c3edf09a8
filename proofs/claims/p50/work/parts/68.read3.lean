/-! cut, weight. -/
theorem bI_t {p : Prop} [Decidable p] (h : p) : bI p = 1 := if_pos h
theorem bI_f {p : Prop} [Decidable p] (h : ¬ p) : bI p = 0 := if_neg h
/-- a weight, by its left -/
def weiF (R : Int) (U : CU) (x l : Int) : Int := if 10 ≤ l ∧ l < 10 + R then cW U x.toNat (l - 10).toNat else cW U x.toNat (8 + (l - 20).toNat)
theorem weiF_r {n : Nat} {R : Int} {U : CU} (ou : cOK n U) {x l : Int} (hx : 0 ≤ x ∧ x < (cN U : Int)) (hR : R ≤ 8) (hl : (10 ≤ l ∧ l < 10 + R) ∨ (20 ≤ l ∧ l < 20 + x)) : 0 ≤ weiF R U x l ∧ weiF R U x l ≤ 1000000000 := by
  have hN := ou.1
  unfold weiF
  split
  · exact ou.2.2.2 _ _ (by omega) (by omega)
  · exact ou.2.2.2 _ _ (by omega) (by omega)
