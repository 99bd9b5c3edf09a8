theorem L16 {C : Nat → List j_V → j_H → Option j_Z} {p : Nat} {L : j_B} {m : j_M0} {x : Int} (hp : p ≤ 5) : ∀ (j : Nat) (y : Int), 0 ≤ y ∧ y ≤ 1000000 → p + j ≤ 5 → j_fin C 16 10 [some (jR 4), some (jI x), some (jI p), some (jI y), some (jI ((p + j : Nat) : Int))] [] (hH L m) = some (some (jI (y / tenF j % 10)), hH L m) := by
  intro j
  induction j with
  | zero =>
    intro y hy hj
    rw [T16_10, if_neg (by omega), Int.tmod_eq_emod_of_nonneg (by omega), tenF, Int.ediv_one]
  | succ j ih =>
    intro y hy hj
    have e1 : y.tdiv 10 = y / 10 := Int.tdiv_eq_ediv_of_nonneg hy.1
    have t := tenF_r j (by omega)
    rw [T16_10, if_pos (by omega), e1, w32_id (x := y / 10) (by omega) (by omega), w32_id (by omega) (by omega), show ((p + (j + 1) : Nat) : Int) + (-1) = ((p + j : Nat) : Int) by omega, ih (y / 10) (by omega) (by omega), tenF, Int.ediv_ediv_of_nonneg (by omega), Int.mul_comm]
theorem Q16 {d n : Nat} {L : j_B} {m : j_M0} {x : Int} {p : Nat} (k0 : m 4 0 = n) (hn : n ≤ 5) (ht : ∀ i : Nat, i < 6 → m 1 i = tenF i) (hx : 0 ≤ x ∧ x ≤ 1000000) (hp : p < n) : c_call (d + 1) 16 [jR 4, jI x, jI p] (hH L m) = some (some (jI (digF n p x)), hH L m) := by
  rw [E16, T16_0, k0, w32_id (x := (n : Int) - 1) (by omega) (by omega), show (n : Int) - 1 = ((p + (n - 1 - p) : Nat) : Int) by omega, L16 (by omega) (n - 1 - p) x hx (by omega)]
  rfl
theorem L14 {d : Nat} {L : j_B} {K : PK} {m : j_M0} {x : Int} (w : vP 4 K m) (ht : ∀ i : Nat, i < 6 → m 1 i = tenF i) (hx : 0 ≤ x ∧ x ≤ 1000000) : ∀ j k : Nat, k + j = pN K → j_fin (c_call (d + 1)) 14 4 [some (jR 4), some (jI x), some (jI (cstF (pC K) (fun q => digF (pN K) q x) k)), some (jI k)] [] (hH L m) = some (some (jI (cstF (pC K) (fun q => digF (pN K) q x) (pN K))), hH L m) := by
  have ok := vP_ok w
  have n5 := ok.2.1
  have k0 := w.2.1
  intro j
  induction j with
  | zero =>
    intro k hk
    rw [T14_4, if_neg (by omega), show k = pN K by omega]
  | succ j ih =>
    intro k hk
    have kc := w.2.2.2.1 k (by omega)
    simp only [Nat.reduceAdd] at kc
    have rc := ok.2.2.2.1 k (by omega)
    have h9 := digF_r (pN K) k x
    have g := mul_r (x := digF (pN K) k x) (y := pC K k) (a := 9) (b := 99) (by omega) (by omega) (by omega) (by omega)
    have c := cstF_r (c := pC K) (δ := fun q => digF (pN K) q x) (M := 99) k (fun q hq => ⟨digF_r (pN K) q x, by have := ok.2.2.2.1 q (by omega); omega⟩)
    have this := ih (k + 1) (by omega)
    rw [cstF] at this
    rw [T14_4, if_pos (by omega), Q16 k0 n5 ht hx (show k < pN K by omega)]
    simp only [Option.bind_some, Option.toList_some, List.cons_append, List.nil_append]
    rw [T14_19, if_pos (by omega), Int.toNat_natCast, kc, nat1 (by omega), w32_id (x := digF (pN K) k x * pC K k) (by omega) (by omega), w32_id (by omega) (by omega)]
    exact this
theorem Q14 {d : Nat} {L : j_B} {K : PK} {m : j_M0} {x : Int} (w : vP 4 K m) (ht : ∀ i : Nat, i < 6 → m 1 i = tenF i) (hx : 0 ≤ x ∧ x ≤ 1000000) : c_call (d + 2) 14 [jR 4, jI x] (hH L m) = some (some (jI (cstF (pC K) (fun q => digF (pN K) q x) (pN K))), hH L m) := by
  rw [E14, T14_0]
  exact L14 w ht hx (pN K) 0 (by omega)
