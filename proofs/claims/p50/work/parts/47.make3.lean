/-! The class makes a cut: its weights are cleared. -/
theorem L4b_50 {C : Nat → List j_V → j_H → Option j_Z} {L : j_B} {r N : Nat} (hN : N < 12) : ∀ j k : Nat, k + j = 22 → ∀ (m : j_M0) (o5 : Option j_V), m 50 0 = N → (∀ q : Nat, q < k → m 53 (22 * N + q) = 0) → ∃ m', kpt (fun b x => b = 53 ∧ 22 * N ≤ x) m m' ∧ j_fin C 4 59 [some (jR 50), some (jR 41), some (jI r), some (jR 4), some (jI k), o5, none] [] (hH L m) = j_fin C 4 91 [some (jR 50), some (jR 41), some (jI r), some (jR 4), some (jI 0), o5, none] [] (hH L m') ∧ (∀ q : Nat, q < 22 → m' 53 (22 * N + q) = 0) := by
  intro j
  induction j with
  | zero =>
    intro k hk m o5 h hz
    have e : k = 22 := by omega
    subst e
    rw [T4_59_50_41_4, if_neg (by omega)]
    exact ⟨m, kpt_rfl, rfl, hz⟩
  | succ j ih =>
    intro k hk m o5 h hz
    rw [T4_59_50_41_4, if_pos (by omega), h, nat1 (by omega)]
    simp (disch := omega) only [w32_id, show ((N : Int) * 22 + (k : Int)).toNat = 22 * N + k by omega]
    rw [if_pos (by omega)]
    obtain ⟨m', h1, h2, h3⟩ := ih (k + 1) (by omega) (j_up m 53 (22 * N + k) 0) o5 ((up_ne (by omega)).trans h) (by
      intro q hq
      by_cases e : q = k
      · subst e; exact up_eq rfl
      · rw [up_nj (by omega)]; exact hz q (by omega))
    exact ⟨m', kpt_tr (kpt_up ⟨rfl, by omega⟩) h1, h2, h3⟩
theorem L4b_64 {C : Nat → List j_V → j_H → Option j_Z} {L : j_B} {r N : Nat} (hN : N < 12) : ∀ j k : Nat, k + j = 22 → ∀ (m : j_M0) (o5 : Option j_V), m 64 0 = N → (∀ q : Nat, q < k → m 67 (22 * N + q) = 0) → ∃ m', kpt (fun b x => b = 67 ∧ 22 * N ≤ x) m m' ∧ j_fin C 4 59 [some (jR 64), some (jR 55), some (jI r), some (jR 35), some (jI k), o5, none] [] (hH L m) = j_fin C 4 91 [some (jR 64), some (jR 55), some (jI r), some (jR 35), some (jI 0), o5, none] [] (hH L m') ∧ (∀ q : Nat, q < 22 → m' 67 (22 * N + q) = 0) := by
  intro j
  induction j with
  | zero =>
    intro k hk m o5 h hz
    have e : k = 22 := by omega
    subst e
    rw [T4_59_64_55_35, if_neg (by omega)]
    exact ⟨m, kpt_rfl, rfl, hz⟩
  | succ j ih =>
    intro k hk m o5 h hz
    rw [T4_59_64_55_35, if_pos (by omega), h, nat1 (by omega)]
    simp (disch := omega) only [w32_id, show ((N : Int) * 22 + (k : Int)).toNat = 22 * N + k by omega]
    rw [if_pos (by omega)]
    obtain ⟨m', h1, h2, h3⟩ := ih (k + 1) (by omega) (j_up m 67 (22 * N + k) 0) o5 ((up_ne (by omega)).trans h) (by
      intro q hq
      by_cases e : q = k
      · subst e; exact up_eq rfl
      · rw [up_nj (by omega)]; exact hz q (by omega))
    exact ⟨m', kpt_tr (kpt_up ⟨rfl, by omega⟩) h1, h2, h3⟩
