/-! What the calls ask first; lowest terms. -/
theorem bI_c {p q : Prop} [Decidable p] [Decidable q] (h : p ↔ q) : bI p = bI q := by unfold bI; simp only [h]
theorem w64_r (x : Int) : -9223372036854775808 ≤ w64 x ∧ w64 x ≤ 9223372036854775807 := by
  unfold w64 Int.bmod
  simp only
  omega
theorem w32_r (x : Int) : -2147483648 ≤ w32 x ∧ w32 x ≤ 2147483647 := by
  unfold w32 Int.bmod
  simp only
  omega
theorem Q136 {d : Nat} {L : j_B} {m : j_M0} {x : Int}  : c_call (d + 1) 136 [jR 2, jI x] (hH L m) = some (some (jI (bI (0 ≤ x ∧ x < m 4 1))), hH L m) := by
  rw [E136]
  rw [T136_0]
  unfold bI
  grind
theorem Q138 {d : Nat} {L : j_B} {m : j_M0} {x : Int} (h : 0 ≤ m 4 0 ∧ m 4 0 < 6) : c_call (d + 1) 138 [jR 2, jI x] (hH L m) = some (some (jI (bI (0 ≤ x ∧ x < m 1 (m 4 0).toNat))), hH L m) := by
  rw [E138]
  rw [T138_0, if_pos h]
  unfold bI
  grind
theorem Q139 {d : Nat} {L : j_B} {m : j_M0} {x : Int}  : c_call (d + 1) 139 [jI x] (hH L m) = some (some (jI (bI (-99 ≤ x ∧ x ≤ 999))), hH L m) := by
  rw [E139]
  rw [T139_0]
  unfold bI
  grind
theorem Q140 {d : Nat} {L : j_B} {m : j_M0} {x : Int}  : c_call (d + 1) 140 [jI x] (hH L m) = some (some (jI (bI (-9 ≤ x ∧ x ≤ 9))), hH L m) := by
  rw [E140]
  rw [T140_0]
  unfold bI
  grind
theorem Q141 {d : Nat} {L : j_B} {m : j_M0} {x : Int}  : c_call (d + 1) 141 [jI x] (hH L m) = some (some (jI (bI (x = 0 ∨ x = 1))), hH L m) := by
  rw [E141]
  rw [T141_0]
  unfold bI
  grind
theorem Q142 {d : Nat} {L : j_B} {m : j_M0} {x : Int}  : c_call (d + 1) 142 [jI x] (hH L m) = some (some (jI (bI (0 ≤ x ∧ x < 6))), hH L m) := by
  rw [E142]
  rw [T142_0]
  unfold bI
  grind
def plN (w v : Int) : Int := if w = 0 then bI (-99 ≤ v ∧ v ≤ 999) else if w = 1 then bI (0 ≤ v ∧ v ≤ 99) else bI (-9 ≤ v ∧ v ≤ 9)
theorem Q143 {d : Nat} {L : j_B} {m : j_M0} {w v : Int} : c_call (d + 2) 143 [jI w, jI v] (hH L m) = some (some (jI (plN w v)), hH L m) := by
  rw [E143]
  simp only [T143_0, T143_8, T143_36, Q139, Q140, Option.bind_some, Option.toList_some, List.cons_append, List.nil_append, bI_01, if_true]
  unfold plN bI
  grind
/-! lowest terms -/
def gcF (x y : Int) : Nat := Nat.gcd y.toNat x.natAbs
def lwF (x y p : Int) : Int := if p = 0 then x.tdiv (gcF x y : Int) else y.tdiv (gcF x y : Int)
theorem L146e {C : Nat → List j_V → j_H → Option j_Z} {L : j_B} {m : j_M0} {x y p : Int} {c t : Nat} (hc : 0 < c) (ht : t < 200) {o10 : Option j_V} : j_fin C 146 12 [some (jL x), none, some (jL y), none, some (jI p), some (jL c), none, some (jL (0 : Nat)), none, some (jI t), o10, none] [] (hH L m) = some (some (jL (w64 (if p = 0 then x.tdiv (c : Int) else y.tdiv (c : Int)))), hH L m) := by
  rw [T146_12]
  simp only [cmp_eq, cmp_gt]
  rw [if_pos (by omega), if_pos (by omega), if_pos (by omega)]
  by_cases e : p = 0
  · rw [if_pos e, if_neg (by omega), if_pos e]
  · rw [if_neg e, if_neg (by omega), if_neg e]
theorem L146s {C : Nat → List j_V → j_H → Option j_Z} {L : j_B} {m : j_M0} {x y p : Int} {c r t : Nat} (hr : 0 < r) (ht : t < 200) {o10 : Option j_V} : ∃ o10', j_fin C 146 12 [some (jL x), none, some (jL y), none, some (jI p), some (jL c), none, some (jL r), none, some (jI t), o10, none] [] (hH L m) = j_fin C 146 12 [some (jL x), none, some (jL y), none, some (jI p), some (jL r), none, some (jL (c % r : Nat)), none, some (jI (t + 1 : Nat)), o10', none] [] (hH L m) := by
  rw [T146_12]
  simp only [cmp_eq, cmp_gt]
  rw [if_pos (by omega), if_neg (by omega), if_neg (by omega), nat1 (by omega)]
  exact ⟨_, rfl⟩
theorem L146 {C : Nat → List j_V → j_H → Option j_Z} {L : j_B} {m : j_M0} {x y p : Int} : ∀ k c r t : Nat, r < 2 ^ k → t + 2 * k + 1 ≤ 200 → 0 < Nat.gcd c r → ∀ o10 : Option j_V, j_fin C 146 12 [some (jL x), none, some (jL y), none, some (jI p), some (jL c), none, some (jL r), none, some (jI t), o10, none] [] (hH L m) = some (some (jL (w64 (if p = 0 then x.tdiv (Nat.gcd c r : Int) else y.tdiv (Nat.gcd c r : Int)))), hH L m) := by
  intro k
  induction k with
  | zero =>
    intro c r t hr ht hg o10
    have e : r = 0 := by
      have : (2 : Nat) ^ 0 = 1 := rfl
      omega
    subst e
    rw [Nat.gcd_zero_right] at hg ⊢
    exact L146e hg (by omega)
  | succ k ih =>
    intro c r t hr ht hg o10
    rcases Nat.eq_zero_or_pos r with e | e
    · subst e
      rw [Nat.gcd_zero_right] at hg ⊢
      exact L146e hg (by omega)
    · obtain ⟨o1, h1⟩ := L146s (C := C) (L := L) (m := m) (x := x) (y := y) (p := p) (c := c) (r := r) (t := t) e (by omega) (o10 := o10)
      have g1 : Nat.gcd c r = Nat.gcd r (c % r) := by rw [Nat.gcd_comm c r, Nat.gcd_rec r c, Nat.gcd_comm]
      rw [h1, g1]
      rw [g1] at hg
      have hlt := Nat.mod_lt c e
      rcases Nat.eq_zero_or_pos (c % r) with e2 | e2
      · rw [e2, Nat.gcd_zero_right]
        exact L146e e (by omega)
      · obtain ⟨o2, h2⟩ := L146s (C := C) (L := L) (m := m) (x := x) (y := y) (p := p) (c := r) (r := c % r) (t := t + 1) e2 (by omega) (o10 := o1)
        have g2 : Nat.gcd r (c % r) = Nat.gcd (c % r) (r % (c % r)) := by rw [Nat.gcd_comm r (c % r), Nat.gcd_rec (c % r) r, Nat.gcd_comm]
        rw [h2, g2]
        rw [g2] at hg
        have h3 := Nat.mod_lt r e2
        have h4 := Nat.mod_add_div r (c % r)
        have h5 : 1 ≤ r / (c % r) := (Nat.le_div_iff_mul_le e2).mpr (by omega)
        have h6 : c % r ≤ c % r * (r / (c % r)) := Nat.le_mul_of_pos_right _ h5
        have h7 : (2 : Nat) ^ (k + 1) = 2 ^ k * 2 := Nat.pow_succ 2 k
        exact ih (c % r) (r % (c % r)) (t + 1 + 1) (by omega) (by omega) hg o2
theorem gcF_p {x y : Int} (hy : 0 < y) : 0 < gcF x y := Nat.gcd_pos_of_pos_left _ (by omega)
theorem lwF_r {x y p : Int} (hx : -9223372036854775807 ≤ x) (hx2 : x ≤ 9223372036854775807) (hy : 0 < y) (hy2 : y ≤ 9223372036854775807) : w64 (lwF x y p) = lwF x y p := by
  have hg := gcF_p (x := x) hy
  have h1 := td_r (x := x) (y := (gcF x y : Int)) (by omega)
  have h2 := td_r (x := y) (y := (gcF x y : Int)) (by omega)
  unfold lwF
  split
  · exact w64_id (by omega) (by omega)
  · exact w64_id (by omega) (by omega)
theorem Q146 {d : Nat} {L : j_B} {m : j_M0} {x y p : Int} (hx : -1000000001 ≤ x) (hx2 : x ≤ 1000000001) (hy : 0 < y) (hy2 : y ≤ 1000000001) : c_call (d + 2) 146 [jL x, jL y, jI p] (hH L m) = some (some (jL (lwF x y p)), hH L m) := by
  obtain ⟨c, rfl⟩ : ∃ c : Nat, y = c := ⟨_, (Int.toNat_of_nonneg (by omega)).symm⟩
  rw [E146, T146_0, Q267 (by omega) (by omega)]
  simp only [Option.bind_some, Option.toList_some, List.cons_append, List.nil_append]
  have h := L146 (C := c_call (d + 1)) (L := L) (m := m) (x := x) (y := (c : Int)) (p := p) 31 c x.natAbs 0 (by
    have : (2 : Nat) ^ 31 = 2147483648 := rfl
    omega) (by omega) (Nat.gcd_pos_of_pos_left _ (by omega)) none
  have e : w64 (lwF x (c : Int) p) = lwF x (c : Int) p := lwF_r (by omega) (by omega) hy (by omega)
  rw [T146_7]
  refine Eq.trans h ?_
  rw [← e]
  rfl
theorem Q265w {d : Nat} {L : j_B} {m : j_M0} {x y : Int} (h1 : -9223372036854775808 ≤ x) (h2 : x ≤ 9223372036854775807) (hy : 0 < y) (h4 : y ≤ 9223372036854775807) : c_call (d + 1) 265 [jL x, jL y] (hH L m) = some (some (jL (x / y)), hH L m) := by
  have r := td_r (x := x) hy
  have r2 := ed_r (x := x) hy
  rw [E265, T265_0, if_neg (by omega)]
  simp only [cmp_lt, cmp_eq]
  rw [w64_id (x := x.tdiv y) (by omega) (by omega)]
  by_cases hx : x < 0
  · rw [if_pos (by rw [lxor_neg] <;> omega)]
    by_cases e : x.tdiv y * y = x
    · rw [e, w64_id (by omega) (by omega), if_pos rfl, fd_1 hy e]
    · have e3 := fd_2 hy hx e
      have e4 := Int.mul_tdiv_add_tmod x y
      have e5 : x ≤ x.tdiv y * y ∧ x.tdiv y * y ≤ 0 := by
        have e7 := Int.mul_ediv_add_emod x y
        have e8 := Int.emod_lt_of_pos x hy
        have e6 := Int.mul_nonneg (a := -(x.tdiv y)) (b := y) (by omega) (by omega)
        grind
      rw [w64_id (x := x.tdiv y * y) (by omega) (by omega), if_neg e, w64_id (by omega) (by omega), e3]
  · rw [if_neg (by rw [lxor_neg] <;> omega), fd_0 hy (by omega)]
/-! the class's table, read -/
