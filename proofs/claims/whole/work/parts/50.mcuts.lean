/-! The model's lefts. -/
theorem Q190 {d L : Nat} {m : j_M0} {x : Int} (h1 : 10 ≤ x) (h2 : x < 60) : c_call (d + 1) 190 [jI x] (hH L m) = some (some (jI (slotF x)), hH L m) := by
  rw [E190, T190_0]
  unfold slotF
  by_cases e : x < 20
  · rw [if_pos e, if_pos e, w32_id (by omega) (by omega)]
  · rw [if_neg e, if_neg e, w32_id (x := 8 + x) (by omega) (by omega), w32_id (by omega) (by omega), show 8 + x - 20 = x - 12 by omega]
/-- what a left counts for at a place -/
def leftF (K : PK) (U : CU) (x : Int) (p : Nat) : Int := if 20 ≤ x then cF U (x - 20).toNat p else pF K (x - 10).toNat p
theorem Q186_115 {d L : Nat} {K : PK} {U : CU} {m : j_M0} (w : vG K m) (v : uM 115 (pN K) U m) (hN : cN U ≤ 12) {x : Int} {p : Nat} (g : good K U x) (hx : 10 ≤ x) (hp : p < pN K) : c_call (d + 3) 186 [jR 109, jR 115, jI x, jI p] (hH L m) = some (some (jL (leftF K U x p)), hH L m) := by
  have n := vG_n w
  unfold good at g
  rw [E186, T186_0_109_115]
  unfold leftF
  by_cases e : x < 20
  · obtain ⟨k, hk⟩ : ∃ k : Nat, x = 10 + (k : Int) := ⟨(x - 10).toNat, by omega⟩
    subst hk
    rw [if_pos e, if_neg (by omega), w32_id (by omega) (by omega), show (10 + (k : Int)) - 10 = (k : Int) by omega, Q157 w.1 (by omega) (by omega)]
    simp only [Option.bind_some, Option.toList_some, List.cons_append, List.nil_append, T186_15_109_115]
    rw [Int.toNat_natCast, w.2.2.2.2.1 k p (by omega) hp]
    unfold pF
    rw [if_neg (by omega)]
  · obtain ⟨k, hk⟩ : ∃ k : Nat, x = 20 + (k : Int) := ⟨(x - 20).toNat, by omega⟩
    subst hk
    have k1 := v.2.2.1 k p (by omega) hp
    simp only [Nat.reduceAdd] at k1
    rw [if_neg e]
    simp (disch := omega) only [w32_id, show (5 * (20 + (k : Int) - 20) + (p : Int)).toNat = 5 * k + p by omega, show (20 + (k : Int) - 20).toNat = k by omega, k1]
    rw [if_pos (by omega), if_pos (by omega)]
theorem Q187_115 {d L : Nat} {K : PK} {U : CU} {m : j_M0} (w : vG K m) (v : uM 115 (pN K) U m) (hN : cN U ≤ 12) {x : Int} (g : good K U x) (hx : 10 ≤ x) : c_call (d + 3) 187 [jR 109, jR 115, jI x] (hH L m) = some (some (jL (leftF K U x (pN K))), hH L m) := by
  have n := vG_n w
  unfold good at g
  rw [E187, T187_0_109_115]
  unfold leftF
  by_cases e : x < 20
  · obtain ⟨k, hk⟩ : ∃ k : Nat, x = 10 + (k : Int) := ⟨(x - 10).toNat, by omega⟩
    subst hk
    rw [if_pos e, if_neg (by omega), w32_id (by omega) (by omega), show (10 + (k : Int)) - 10 = (k : Int) by omega, Q158 w.1 (by omega)]
    simp only [Option.bind_some, Option.toList_some, List.cons_append, List.nil_append, T187_14_109_115]
    rw [Int.toNat_natCast, w.2.2.2.2.2 k (by omega)]
    unfold pF
    rw [if_pos rfl]
  · obtain ⟨k, hk⟩ : ∃ k : Nat, x = 20 + (k : Int) := ⟨(x - 20).toNat, by omega⟩
    subst hk
    have k1 := v.2.2.2.1 k (by omega)
    simp only [Nat.reduceAdd] at k1
    rw [if_neg e]
    simp (disch := omega) only [w32_id, show (20 + (k : Int) - 20).toNat = k by omega, k1]
    rw [if_pos (by omega), if_pos (by omega)]
theorem Q186_128 {d L : Nat} {K : PK} {U : CU} {m : j_M0} (w : vG K m) (v : uM 128 (pN K) U m) (hN : cN U ≤ 12) {x : Int} {p : Nat} (g : good K U x) (hx : 10 ≤ x) (hp : p < pN K) : c_call (d + 3) 186 [jR 109, jR 128, jI x, jI p] (hH L m) = some (some (jL (leftF K U x p)), hH L m) := by
  have n := vG_n w
  unfold good at g
  rw [E186, T186_0_109_128]
  unfold leftF
  by_cases e : x < 20
  · obtain ⟨k, hk⟩ : ∃ k : Nat, x = 10 + (k : Int) := ⟨(x - 10).toNat, by omega⟩
    subst hk
    rw [if_pos e, if_neg (by omega), w32_id (by omega) (by omega), show (10 + (k : Int)) - 10 = (k : Int) by omega, Q157 w.1 (by omega) (by omega)]
    simp only [Option.bind_some, Option.toList_some, List.cons_append, List.nil_append, T186_15_109_128]
    rw [Int.toNat_natCast, w.2.2.2.2.1 k p (by omega) hp]
    unfold pF
    rw [if_neg (by omega)]
  · obtain ⟨k, hk⟩ : ∃ k : Nat, x = 20 + (k : Int) := ⟨(x - 20).toNat, by omega⟩
    subst hk
    have k1 := v.2.2.1 k p (by omega) hp
    simp only [Nat.reduceAdd] at k1
    rw [if_neg e]
    simp (disch := omega) only [w32_id, show (5 * (20 + (k : Int) - 20) + (p : Int)).toNat = 5 * k + p by omega, show (20 + (k : Int) - 20).toNat = k by omega, k1]
    rw [if_pos (by omega), if_pos (by omega)]
theorem Q187_128 {d L : Nat} {K : PK} {U : CU} {m : j_M0} (w : vG K m) (v : uM 128 (pN K) U m) (hN : cN U ≤ 12) {x : Int} (g : good K U x) (hx : 10 ≤ x) : c_call (d + 3) 187 [jR 109, jR 128, jI x] (hH L m) = some (some (jL (leftF K U x (pN K))), hH L m) := by
  have n := vG_n w
  unfold good at g
  rw [E187, T187_0_109_128]
  unfold leftF
  by_cases e : x < 20
  · obtain ⟨k, hk⟩ : ∃ k : Nat, x = 10 + (k : Int) := ⟨(x - 10).toNat, by omega⟩
    subst hk
    rw [if_pos e, if_neg (by omega), w32_id (by omega) (by omega), show (10 + (k : Int)) - 10 = (k : Int) by omega, Q158 w.1 (by omega)]
    simp only [Option.bind_some, Option.toList_some, List.cons_append, List.nil_append, T187_14_109_128]
    rw [Int.toNat_natCast, w.2.2.2.2.2 k (by omega)]
    unfold pF
    rw [if_pos rfl]
  · obtain ⟨k, hk⟩ : ∃ k : Nat, x = 20 + (k : Int) := ⟨(x - 20).toNat, by omega⟩
    subst hk
    have k1 := v.2.2.2.1 k (by omega)
    simp only [Nat.reduceAdd] at k1
    rw [if_neg e]
    simp (disch := omega) only [w32_id, show (20 + (k : Int) - 20).toNat = k by omega, k1]
    rw [if_pos (by omega), if_pos (by omega)]
