/-! What is called of Math; near. -/
theorem lxor_neg {x y : Int} (h1 : -9223372036854775808 ≤ x) (h2 : x ≤ 9223372036854775807) (h3 : -9223372036854775808 ≤ y) (h4 : y ≤ 9223372036854775807) : (j_lxor x y < 0) = (¬(x < 0 ↔ y < 0)) := by
  have e : ∀ z : Int, -9223372036854775808 ≤ z → z ≤ 9223372036854775807 → (BitVec.ofInt 64 z).msb = decide (z < 0) := by
    intro z a b
    rw [BitVec.msb_eq_toInt, BitVec.toInt_ofInt]
    have : z.bmod (2 ^ 64) = z := by
      have := w64_id (x := z) (by omega) (by omega)
      unfold w64 at this
      simpa using this
    rw [this]
  have e2 : (j_lxor x y < 0) = ((BitVec.ofInt 64 x ^^^ BitVec.ofInt 64 y).msb = true) := by
    rw [BitVec.msb_eq_toInt]
    unfold j_lxor
    simp [Int64.toInt, Int64.toBitVec_xor]
  rw [e2, BitVec.msb_xor, e x h1 h2, e y h3 h4]
  by_cases a : x < 0 <;> by_cases b : y < 0 <;> simp [a, b]
theorem xor_neg {x y : Int} (h1 : -2147483648 ≤ x) (h2 : x ≤ 2147483647) (h3 : -2147483648 ≤ y) (h4 : y ≤ 2147483647) : (j_xor x y < 0) = (¬(x < 0 ↔ y < 0)) := by
  have e : ∀ z : Int, -2147483648 ≤ z → z ≤ 2147483647 → (BitVec.ofInt 32 z).msb = decide (z < 0) := by
    intro z a b
    rw [BitVec.msb_eq_toInt, BitVec.toInt_ofInt]
    have : z.bmod (2 ^ 32) = z := by
      have := w32_id (x := z) (by omega) (by omega)
      unfold w32 at this
      simpa using this
    rw [this]
  have e2 : (j_xor x y < 0) = ((BitVec.ofInt 32 x ^^^ BitVec.ofInt 32 y).msb = true) := by
    rw [BitVec.msb_eq_toInt]
    unfold j_xor
    simp [Int32.toInt, Int32.toBitVec_xor]
  rw [e2, BitVec.msb_xor, e x h1 h2, e y h3 h4]
  by_cases a : x < 0 <;> by_cases b : y < 0 <;> simp [a, b]
/-- dividing, rounded to 0, by what is above 0 -/
theorem td_eq {x y : Int} (hy : 0 < y) : x.tdiv y = x / y + if 0 ≤ x ∨ y ∣ x then 0 else 1 := by
  rw [Int.tdiv_eq_ediv, Int.sign_eq_one_of_pos hy]
theorem ed_r {x y : Int} (hy : 0 < y) : (0 ≤ x → 0 ≤ x / y ∧ x / y ≤ x) ∧ (x < 0 → x ≤ x / y ∧ x / y < 0) := by
  constructor
  · intro h
    exact ⟨Int.ediv_nonneg h (by omega), Int.ediv_le_self _ h⟩
  · intro h
    have e := Int.mul_nonneg (a := -x) (b := y - 1) (by omega) (by omega)
    refine ⟨(Int.le_ediv_iff_mul_le hy).2 (by grind), (Int.ediv_lt_iff_lt_mul hy).2 (by omega)⟩
theorem td_r {x y : Int} (hy : 0 < y) : (0 ≤ x → 0 ≤ x.tdiv y ∧ x.tdiv y ≤ x) ∧ (x < 0 → x ≤ x.tdiv y ∧ x.tdiv y ≤ 0) := by
  have e := ed_r (x := x) hy
  rw [td_eq hy]
  constructor
  · intro h
    rw [if_pos (Or.inl h)]
    have := e.1 h
    omega
  · intro h
    have := e.2 h
    split <;> omega
theorem fd_1 {x y : Int} (hy : 0 < y) (h : x.tdiv y * y = x) : x / y = x.tdiv y := by
  have : y ∣ x := ⟨x.tdiv y, by rw [Int.mul_comm]; exact h.symm⟩
  rw [td_eq hy, if_pos (Or.inr this)]
  omega
theorem fd_2 {x y : Int} (hy : 0 < y) (hx : x < 0) (h : ¬ x.tdiv y * y = x) : x / y = x.tdiv y - 1 := by
  have : ¬ y ∣ x := fun ⟨k, e⟩ => by
    apply h
    rw [td_eq hy, if_pos (Or.inr ⟨k, e⟩), Int.add_zero]
    exact Int.ediv_mul_cancel ⟨k, e⟩
  rw [td_eq hy, if_neg (by omega)]
  omega
theorem fd_0 {x y : Int} (hy : 0 < y) (hx : 0 ≤ x) : x / y = x.tdiv y := by
  rw [td_eq hy, if_pos (Or.inl hx)]
  omega
theorem Q265 {d : Nat} {L : j_B} {m : j_M0} {x y : Int} (h1 : -9223372036854775807 ≤ x) (h2 : x ≤ 9223372036854775807) (hy : 0 < y) (h4 : y ≤ 9223372036854775807) : c_call (d + 1) 265 [jL x, jL y] (hH L m) = some (some (jL (x / y)), hH L m) := by
  have r := td_r (x := x) hy
  have r2 := ed_r (x := x) hy
  rw [E265, T265_0, if_neg (by omega)]
  simp only [cmp_lt, cmp_eq]
  rw [w64_id (x := x.tdiv y) (by omega) (by omega)]
  by_cases hx : x < 0
  · rw [if_pos (by rw [lxor_neg] <;> omega)]
    by_cases e : x.tdiv y * y = x
    · rw [e, w64_id (by omega) (by omega), if_pos rfl, fd_1 hy e]
    · have e3 := fd_2 hy hx e
      have e4 := Int.mul_tdiv_add_tmod x y
      have e5 : x ≤ x.tdiv y * y ∧ x.tdiv y * y ≤ 0 := by
        have e7 := Int.mul_ediv_add_emod x y
        have e8 := Int.emod_lt_of_pos x hy
        have e6 := Int.mul_nonneg (a := -(x.tdiv y)) (b := y) (by omega) (by omega)
        grind
      rw [w64_id (x := x.tdiv y * y) (by omega) (by omega), if_neg e, w64_id (by omega) (by omega), e3]
  · rw [if_neg (by rw [lxor_neg] <;> omega), fd_0 hy (by omega)]
theorem Q266 {d : Nat} {L : j_B} {m : j_M0} {x y : Int} (h1 : -9223372036854775807 ≤ x) (h2 : x ≤ 9223372036854775807) (hy : 0 < y) (h4 : y ≤ 9223372036854775807) : c_call (d + 1) 266 [jL x, jL y] (hH L m) = some (some (jL (x % y)), hH L m) := by
  have e4 := Int.mul_tdiv_add_tmod x y
  have e5 := Int.mul_ediv_add_emod x y
  rw [E266, T266_0, if_neg (by omega)]
  simp only [cmp_lt, cmp_eq]
  by_cases hx : x < 0
  · rw [if_pos (by rw [lxor_neg] <;> omega)]
    by_cases e : x.tmod y = 0
    · have e3 := fd_1 (x := x) hy (by grind)
      rw [if_pos e, e]
      rw [e3] at e5
      congr 4
      omega
    · have e3 := fd_2 (x := x) hy hx (by grind)
      have e6 := Int.emod_nonneg x (b := y) (by omega)
      have e7 := Int.emod_lt_of_pos x hy
      rw [if_neg e]
      have e8 : x.tmod y + y = x % y := by grind
      rw [e8, w64_id (by omega) (by omega)]
  · rw [if_neg (by rw [lxor_neg] <;> omega)]
    have e3 := fd_0 (x := x) hy (by omega)
    rw [e3] at e5
    congr 4
    omega
theorem Q267 {d : Nat} {L : j_B} {m : j_M0} {x : Int} (h1 : -9223372036854775807 ≤ x) (h2 : x ≤ 9223372036854775807) : c_call (d + 1) 267 [jL x] (hH L m) = some (some (jL (x.natAbs : Int)), hH L m) := by
  rw [E267, T267_0]
  simp only [cmp_lt]
  rw [w64_id (x := -x) (by omega) (by omega)]
  split
  · rw [show -x = (x.natAbs : Int) by omega]
  · rw [show x = (x.natAbs : Int) by omega]; rfl
theorem Q144 {d : Nat} {L : j_B} {m : j_M0} {x : Int} : c_call (d + 1) 144 [jL x] (hH L m) = some (some (jI (bI (-1000000000 ≤ x ∧ x ≤ 1000000000))), hH L m) := by
  rw [E144, T144_0]
  simp only [cmp_lt, cmp_gt]
  unfold bI
  grind
