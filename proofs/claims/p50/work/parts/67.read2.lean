/-! value, price, entry. -/
theorem lwF_0 {y p : Int} (hy : 0 < y) (hp : p = 0 ∨ p = 1) : lwF 0 y p = p := by
  have e : gcF 0 y = y.toNat := by
    unfold gcF
    rw [Int.natAbs_zero, Nat.gcd_zero_right]
  unfold lwF
  rw [e, show ((y.toNat : Nat) : Int) = y by omega, Int.zero_tdiv, Int.tdiv_self (by omega)]
  rcases hp with rfl | rfl
  · rfl
  · rfl
def entF (T : TB) (x y : Int) : Int := if x = -2 then (if y < (tC T : Int) then tos T y.toNat else -9223372036854775808) else if x = -1 then (if y = (tC T : Int) then tB T else if (tC T : Int) < y then tD T else trs T y.toNat) else if y = (tC T : Int) then tri T x.toNat else if (tC T : Int) < y then tow T x.toNat else te T x.toNat y.toNat
theorem w32_p {k : Nat} (h : k < 1000000) : w32 ((k : Int) + 1) = (k : Int) + 1 := w32_id (by omega) (by omega)
theorem w32_m {k : Nat} (h : k < 1000000) : w32 ((k : Int) - 1) = (k : Int) - 1 := w32_id (by omega) (by omega)
