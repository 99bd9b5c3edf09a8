/-! by, box, hand, see. -/
theorem Q34 {d : Nat} {L : j_B} {m : j_M0} {k : Nat} {x v : Int} (h : m 3 5 = k) (hk : k < 5) : c_call (d + 1) 34 [jR 3, jI x, jI v] (hH L m) = some (none, hH L (j_up (j_up (j_up m 14 k x) 15 k v) 3 5 ((k + 1 : Nat) : Int))) := by
  rw [E34, T34_0]
  simp (disch := omega) only [up_ne, h, Int.toNat_natCast]
  rw [if_pos (by omega), if_pos (by omega), nat1 (by omega)]
theorem Q35 {d : Nat} {L : j_B} {m : j_M0} {k : Nat} {w x v : Int} (h : m 3 8 = k) (hk : k < 8) : c_call (d + 1) 35 [jR 3, jI w, jI x, jI v] (hH L m) = some (none, hH L (j_up (j_up (j_up (j_up m 16 k w) 17 k x) 18 k v) 3 8 ((k + 1 : Nat) : Int))) := by
  rw [E35, T35_0]
  simp (disch := omega) only [up_ne, h, Int.toNat_natCast]
  rw [if_pos (by omega), if_pos (by omega), if_pos (by omega), nat1 (by omega)]
