/-! The callees' contracts: what a call answers, and the memory that it leaves. -/
def bI (p : Prop) [Decidable p] : Int := if p then 1 else 0
theorem bI_0 {p : Prop} [Decidable p] : (bI p = 0) = ¬ p := by unfold bI; split <;> simp_all
theorem bI_1 {p : Prop} [Decidable p] : (bI p = 1) = p := by unfold bI; split <;> simp_all
theorem bI_01 {p : Prop} [Decidable p] : (bI p = 0 ∨ bI p = 1) = True := by unfold bI; split <;> simp_all
theorem w32_id {x : Int} (h1 : -2147483648 ≤ x) (h2 : x ≤ 2147483647) : w32 x = x := by
  unfold w32 Int.bmod
  simp only
  omega
theorem w64_id {x : Int} (h1 : -9223372036854775808 ≤ x) (h2 : x ≤ 9223372036854775807) : w64 x = x := by
  unfold w64 Int.bmod
  simp only
  omega
theorem cmp_lt {x y : Int} : (j_cmp x y < 0) = (x < y) := by unfold j_cmp; grind
theorem cmp_gt {x y : Int} : (0 < j_cmp x y) = (y < x) := by unfold j_cmp; grind
theorem cmp_le {x y : Int} : (j_cmp x y ≤ 0) = (x ≤ y) := by unfold j_cmp; grind
theorem cmp_ge {x y : Int} : (0 ≤ j_cmp x y) = (y ≤ x) := by unfold j_cmp; grind
theorem cmp_eq {x y : Int} : (j_cmp x y = 0) = (x = y) := by unfold j_cmp; grind
theorem Q135 {d L : Nat} {m : j_M0} {x1 : Int} : c_call (d + 1) 135 [jR 2, jI x1] (hH L m) = some (some (jI (bI (0 ≤ x1 ∧ x1 < m 4 0))), hH L m) := by
  rw [E135, T135_0]
  unfold bI
  grind
theorem Q150 {d L : Nat} {m : j_M0} {x y z : Int} : c_call (d + 1) 150 [jL x, jL y, jL z] (hH L m) = some (some (jI (bI (y ≤ x ∧ x ≤ z))), hH L m) := by
  rw [E150, T150_0]
  simp only [cmp_lt, cmp_gt]
  unfold bI
  grind
theorem Q151 {d L : Nat} {m : j_M0} : c_call (d + 1) 151 [jR 109] (hH L m) = some (some (jI (m 110 0)), hH L m) := by
  rw [E151, T151_0]
theorem Q152 {d L : Nat} {m : j_M0} {x1 : Int} (h1 : 1 ≤ m 110 0) (h2 : m 110 0 ≤ 5) : c_call (d + 2) 152 [jR 109, jI x1] (hH L m) = some (some (jI (bI (0 ≤ x1 ∧ x1 < m 110 0))), hH L m) := by
  rw [E152]
  simp only [T152_0, T152_7, T152_13, Q150, Q151, Option.bind_some, Option.toList_some, List.cons_append, List.nil_append, bI_01, if_true]
  rw [w32_id (by omega) (by omega)]
  unfold bI
  grind
