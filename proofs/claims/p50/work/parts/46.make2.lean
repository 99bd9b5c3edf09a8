/-! The class makes a cut: its places. -/
theorem uC_k {a n : Nat} {U : CU} {m m' : j_M0} (v : uC a n U m) (hn : n ≤ 5) (k : ∀ b s, a ≤ b → b ≤ a + 3 → (b = a + 2 → s < 6 * cN U) → (b = a + 3 → s < 22 * cN U) → (b = a + 1 → s < cN U) → m' b s = m b s) : uC a n U m' := by
  obtain ⟨v1, v2, v3, v4, v5⟩ := v
  refine ⟨?_, ?_, ?_, ?_, ?_⟩
  · rw [k _ _ (by omega) (by omega) (by omega) (by omega) (by omega)]; exact v1
  · intro q hq; rw [k _ _ (by omega) (by omega) (by omega) (by omega) (by omega)]; exact v2 q hq
  · intro q p hq hp; rw [k _ _ (by omega) (by omega) (by omega) (by omega) (by omega)]; exact v3 q p hq hp
  · intro q p hq hp; rw [k _ _ (by omega) (by omega) (by omega) (by omega) (by omega)]; exact v4 q p hq hp
  · intro q p hq hp; rw [k _ _ (by omega) (by omega) (by omega) (by omega) (by omega)]; exact v5 q p hq hp
theorem L4a_50 {d : Nat} {L : j_B} {K : PK} {U : CU} {T : TB} (o : tOK T) (ou : cOK (pN K) U) (og : gOK K U T) (hN : cN U < 12) {r : Nat} (hr : r < tR T) : ∀ j p : Nat, p + j = pN K + 1 → ∀ (m : j_M0) (o5 : Option j_V), vC 41 T m → vP 4 K m → uC 50 (pN K) U m → (∀ q : Nat, q < p → nr (sumF K U T r q (tC T)) ∧ m 52 (6 * cN U + q) = sumF K U T r q (tC T)) → ∃ m' o5', kpt (fun b x => b = 52 ∧ 6 * cN U ≤ x) m m' ∧ ((j_fin (c_call (d + 3)) 4 3 [some (jR 50), some (jR 41), some (jI r), some (jR 4), some (jI p), o5, none] [] (hH L m) = j_fin (c_call (d + 3)) 4 59 [some (jR 50), some (jR 41), some (jI r), some (jR 4), some (jI 0), o5', none] [] (hH L m') ∧ (∀ q : Nat, q < pN K + 1 → nr (sumF K U T r q (tC T)) ∧ m' 52 (6 * cN U + q) = sumF K U T r q (tC T))) ∨ (j_fin (c_call (d + 3)) 4 3 [some (jR 50), some (jR 41), some (jI r), some (jR 4), some (jI p), o5, none] [] (hH L m) = some (some (jI 0), hH L m') ∧ ∃ q : Nat, q ≤ pN K ∧ ¬ nr (sumF K U T r q (tC T)))) := by
  intro j
  induction j with
  | zero =>
    intro p hp m o5 v w u hw
    have k3 := w.2.1
    have e : p = pN K + 1 := by omega
    subst e
    refine ⟨m, o5, kpt_rfl, Or.inl ⟨?_, hw⟩⟩
    rw [T4_3_50_41_4, if_pos (by omega)]
  | succ j ih =>
    intro p hp m o5 v w u hw
    have k3 := w.2.1
    have k4 := u.1
    have ok := vP_ok w
    have n5 := ok.2.1
    have e0 : j_fin (c_call (d + 3)) 4 3 [some (jR 50), some (jR 41), some (jI r), some (jR 4), some (jI p), o5, none] [] (hH L m) = if nr (sumF K U T r p (tC T)) then j_fin (c_call (d + 3)) 4 3 [some (jR 50), some (jR 41), some (jI r), some (jR 4), some (jI (p + 1 : Nat)), some (jL (sumF K U T r p (tC T))), none] [] (hH L (j_up m 52 (6 * cN U + p) (sumF K U T r p (tC T)))) else some (some (jI 0), hH L m) := by
      have q := Q5_50 (d := d) (L := L) v o w u ou og hr (show p ≤ pN K by omega)
      rw [T4_3_50_41_4, if_neg (by omega), q]
      simp only [Option.bind_some, Option.toList_some, List.cons_append, List.nil_append]
      rw [T4_21_50_41_4, Q144]
      simp only [Option.bind_some, Option.toList_some, List.cons_append, List.nil_append]
      rw [T4_28_50_41_4, k4, nat1 (by omega)]
      simp (disch := omega) only [w32_id, show ((cN U : Int) * 6 + (p : Int)).toNat = 6 * cN U + p by omega, bI_0]
      by_cases e : nr (sumF K U T r p (tC T))
      · rw [if_neg (not_not_intro e), if_pos (by omega), if_pos e]
      · rw [if_pos e, if_neg e]
    rw [e0]
    by_cases e : nr (sumF K U T r p (tC T))
    · rw [if_pos e]
      obtain ⟨m', o5', h1, h2⟩ := ih (p + 1) (by omega) (j_up m 52 (6 * cN U + p) (sumF K U T r p (tC T))) (some (jL (sumF K U T r p (tC T)))) (vC_k v (fun b s h h' => up_ne (by omega))) (vP_k w (fun b s h h' => up_ne (by omega))) (uC_k u n5 (fun b s h h' h2 h3 h4 => by
        by_cases e2 : b = 52
        · subst e2
          exact up_nj (by have := h2 rfl; omega)
        · exact up_ne e2)) (by
        intro q hq
        by_cases e' : q = p
        · subst e'
          exact ⟨e, up_eq rfl⟩
        · rw [up_nj (by omega)]
          exact hw q (by omega))
      exact ⟨m', o5', kpt_tr (kpt_up ⟨rfl, by omega⟩) h1, h2⟩
    · rw [if_neg e]
      exact ⟨m, o5, kpt_rfl, Or.inr ⟨rfl, p, by omega, e⟩⟩
theorem L4a_64 {d : Nat} {L : j_B} {K : PK} {U : CU} {T : TB} (o : tOK T) (ou : cOK (pN K) U) (og : gOK K U T) (hN : cN U < 12) {r : Nat} (hr : r < tR T) : ∀ j p : Nat, p + j = pN K + 1 → ∀ (m : j_M0) (o5 : Option j_V), vC 55 T m → vP 35 K m → uC 64 (pN K) U m → (∀ q : Nat, q < p → nr (sumF K U T r q (tC T)) ∧ m 66 (6 * cN U + q) = sumF K U T r q (tC T)) → ∃ m' o5', kpt (fun b x => b = 66 ∧ 6 * cN U ≤ x) m m' ∧ ((j_fin (c_call (d + 3)) 4 3 [some (jR 64), some (jR 55), some (jI r), some (jR 35), some (jI p), o5, none] [] (hH L m) = j_fin (c_call (d + 3)) 4 59 [some (jR 64), some (jR 55), some (jI r), some (jR 35), some (jI 0), o5', none] [] (hH L m') ∧ (∀ q : Nat, q < pN K + 1 → nr (sumF K U T r q (tC T)) ∧ m' 66 (6 * cN U + q) = sumF K U T r q (tC T))) ∨ (j_fin (c_call (d + 3)) 4 3 [some (jR 64), some (jR 55), some (jI r), some (jR 35), some (jI p), o5, none] [] (hH L m) = some (some (jI 0), hH L m') ∧ ∃ q : Nat, q ≤ pN K ∧ ¬ nr (sumF K U T r q (tC T)))) := by
  intro j
  induction j with
  | zero =>
    intro p hp m o5 v w u hw
    have k3 := w.2.1
    have e : p = pN K + 1 := by omega
    subst e
    refine ⟨m, o5, kpt_rfl, Or.inl ⟨?_, hw⟩⟩
    rw [T4_3_64_55_35, if_pos (by omega)]
  | succ j ih =>
    intro p hp m o5 v w u hw
    have k3 := w.2.1
    have k4 := u.1
    have ok := vP_ok w
    have n5 := ok.2.1
    have e0 : j_fin (c_call (d + 3)) 4 3 [some (jR 64), some (jR 55), some (jI r), some (jR 35), some (jI p), o5, none] [] (hH L m) = if nr (sumF K U T r p (tC T)) then j_fin (c_call (d + 3)) 4 3 [some (jR 64), some (jR 55), some (jI r), some (jR 35), some (jI (p + 1 : Nat)), some (jL (sumF K U T r p (tC T))), none] [] (hH L (j_up m 66 (6 * cN U + p) (sumF K U T r p (tC T)))) else some (some (jI 0), hH L m) := by
      have q := Q5_64 (d := d) (L := L) v o w u ou og hr (show p ≤ pN K by omega)
      rw [T4_3_64_55_35, if_neg (by omega), q]
      simp only [Option.bind_some, Option.toList_some, List.cons_append, List.nil_append]
      rw [T4_21_64_55_35, Q144]
      simp only [Option.bind_some, Option.toList_some, List.cons_append, List.nil_append]
      rw [T4_28_64_55_35, k4, nat1 (by omega)]
      simp (disch := omega) only [w32_id, show ((cN U : Int) * 6 + (p : Int)).toNat = 6 * cN U + p by omega, bI_0]
      by_cases e : nr (sumF K U T r p (tC T))
      · rw [if_neg (not_not_intro e), if_pos (by omega), if_pos e]
      · rw [if_pos e, if_neg e]
    rw [e0]
    by_cases e : nr (sumF K U T r p (tC T))
    · rw [if_pos e]
      obtain ⟨m', o5', h1, h2⟩ := ih (p + 1) (by omega) (j_up m 66 (6 * cN U + p) (sumF K U T r p (tC T))) (some (jL (sumF K U T r p (tC T)))) (vC_k v (fun b s h h' => up_ne (by omega))) (vP_k w (fun b s h h' => up_ne (by omega))) (uC_k u n5 (fun b s h h' h2 h3 h4 => by
        by_cases e2 : b = 66
        · subst e2
          exact up_nj (by have := h2 rfl; omega)
        · exact up_ne e2)) (by
        intro q hq
        by_cases e' : q = p
        · subst e'
          exact ⟨e, up_eq rfl⟩
        · rw [up_nj (by omega)]
          exact hw q (by omega))
      exact ⟨m', o5', kpt_tr (kpt_up ⟨rfl, by omega⟩) h1, h2⟩
    · rw [if_neg e]
      exact ⟨m, o5, kpt_rfl, Or.inr ⟨rfl, p, by omega, e⟩⟩
