/-! The callees' contracts: what a call answers, and the memory that it leaves. -/
def bI (p : Prop) [Decidable p] : Int := if p then 1 else 0
theorem bI_0 {p : Prop} [Decidable p] : (bI p = 0) = ¬ p := by unfold bI; split <;> simp_all
theorem bI_1 {p : Prop} [Decidable p] : (bI p = 1) = p := by unfold bI; split <;> simp_all
theorem bI_01 {p : Prop} [Decidable p] : (bI p = 0 ∨ bI p = 1) = True := by unfold bI; split <;> simp_all
theorem w32_id {x : Int} (h1 : -2147483648 ≤ x) (h2 : x ≤ 2147483647) : w32 x = x := by
  unfold w32 Int.bmod
  simp only
  omega
theorem w64_id {x : Int} (h1 : -9223372036854775808 ≤ x) (h2 : x ≤ 9223372036854775807) : w64 x = x := by
  unfold w64 Int.bmod
  simp only
  omega
theorem cmp_lt {x y : Int} : (j_cmp x y < 0) = (x < y) := by unfold j_cmp; grind
theorem cmp_gt {x y : Int} : (0 < j_cmp x y) = (y < x) := by unfold j_cmp; grind
theorem cmp_le {x y : Int} : (j_cmp x y ≤ 0) = (x ≤ y) := by unfold j_cmp; grind
theorem cmp_ge {x y : Int} : (0 ≤ j_cmp x y) = (y ≤ x) := by unfold j_cmp; grind
theorem cmp_eq {x y : Int} : (j_cmp x y = 0) = (x = y) := by unfold j_cmp; grind
theorem Q135 {d : Nat} {L : j_B} {m : j_M0} {x1 : Int} : c_call (d + 1) 135 [jR 2, jI x1] (hH L m) = some (some (jI (bI (0 ≤ x1 ∧ x1 < m 4 0))), hH L m) := by
  rw [E135, T135_0]
  unfold bI
  grind
