/-! The class makes a cut. -/
theorem wtF_0 (T : TB) (r s : Nat) : wtF T r 0 s = 0 := rfl
theorem Q4_50 {d : Nat} {L : j_B} {K : PK} {U : CU} {T : TB} {m : j_M0} (v : vC 41 T m) (o : tOK T) (w : vP 4 K m) (u : uC 50 (pN K) U m) (ou : cOK (pN K) U) (og : gOK K U T) (hN : cN U < 12) {r : Nat} (hr : r < tR T) : ∃ f m', c_call (d + 4) 4 [jR 50, jR 41, jI r, jR 4] (hH L m) = some (some (jI f), hH L m') ∧ kpt (fun b _ => 50 ≤ b ∧ b ≤ 53) m m' ∧ ((f = 1 ∧ (∀ p : Nat, p ≤ pN K → nr (sumF K U T r p (tC T))) ∧ uC 50 (pN K) (mkU K U T r) m') ∨ (f = 0 ∧ (∃ p : Nat, p ≤ pN K ∧ ¬ nr (sumF K U T r p (tC T))) ∧ uC 50 (pN K) U m')) := by
  have ok := vP_ok w
  have n5 := ok.2.1
  rw [E4, T4_0_50_41_4]
  obtain ⟨m1, o5, g1, g2⟩ := L4a_50 (d := d) (L := L) o ou og hN hr (pN K + 1) 0 (by omega) m none v w u (fun q h => absurd h (Nat.not_lt_zero q))
  rw [show (some (jI ((0 : Nat) : Int)) : Option j_V) = some (jI 0) from rfl] at g2
  have z1 : ∀ a q, a ≠ 52 → m1 a q = m a q := fun a q h => by
    rcases g1 a q with e | e
    · omega
    · exact e
  have z1' : ∀ q, q < 6 * cN U → m1 52 q = m 52 q := fun q h => by
    rcases g1 52 q with e | e
    · omega
    · exact e
  rcases g2 with ⟨g2, g3⟩ | ⟨g2, g3⟩
  · rw [g2]
    have h1 : m1 50 0 = cN U := (z1 _ _ (by omega)).trans u.1
    obtain ⟨m2, q1, q2, q3⟩ := L4b_50 (C := c_call (d + 3)) (L := L) (r := r) hN 22 0 (by omega) m1 o5 h1 (fun q h => absurd h (Nat.not_lt_zero q))
    rw [show (some (jI ((0 : Nat) : Int)) : Option j_V) = some (jI 0) from rfl] at q2
    rw [q2]
    have z2 : ∀ a q, a ≠ 53 → m2 a q = m1 a q := fun a q h => by
      rcases q1 a q with e | e
      · omega
      · exact e
    have z2' : ∀ q, q < 22 * cN U → m2 53 q = m1 53 q := fun q h => by
      rcases q1 53 q with e | e
      · omega
      · exact e
    have v2 : vC 41 T m2 := vC_k v (fun b s h h' => by rw [z2 _ _ (by omega), z1 _ _ (by omega)])
    obtain ⟨m3, p1, p2, p3⟩ := L4c_50 (d := d) (L := L) ok o og hN hr (tC T) 0 (by omega) m2 o5 v2 ((z2 _ _ (by omega)).trans h1) (fun q hq => by
      rw [wtF_0]
      exact q3 _ (by unfold idxF; split <;> omega))
    have p2' : j_fin (c_call (d + 3)) 4 91 [some (jR 50), some (jR 41), some (jI r), some (jR 4), some (jI 0), o5, none] [] (hH L m2) = _ := p2
    rw [p2']
    have z3 : ∀ a q, a ≠ 53 → m3 a q = m2 a q := fun a q h => by
      rcases p1 a q with e | e
      · omega
      · exact e
    have z3' : ∀ q, q < 22 * cN U → m3 53 q = m2 53 q := fun q h => by
      rcases p1 53 q with e | e
      · omega
      · exact e
    refine ⟨1, _, rfl, ?_, Or.inl ⟨rfl, fun p hp => (g3 p (by omega)).1, ?_⟩⟩
    · intro a q
      by_cases e : 50 ≤ a ∧ a ≤ 53
      · exact Or.inl e
      · right
        rw [up_ne (by omega), up_ne (by omega), z3 _ _ (by omega), z2 _ _ (by omega), z1 _ _ (by omega)]
    · obtain ⟨u1, u2, u3, u4, u5⟩ := u
      unfold uC
      simp (disch := omega) only [Nat.reduceAdd, up_ne, up_eq, up_at]
      refine ⟨rfl, ?_, ?_, ?_, ?_⟩
      · intro k hk
        replace hk : k < cN U + 1 := hk
        show _ = (if k = cN U then tD T else cD U k)
        rw [z3 _ _ (by omega), z2 _ _ (by omega), z1 _ _ (by omega)]
        by_cases e : k = cN U
        · rw [if_pos e, if_pos e]
        · rw [if_neg e, if_neg e]
          exact u2 k (by omega)
      · intro k p hk hp
        replace hk : k < cN U + 1 := hk
        show _ = (if k = cN U then sumF K U T r p (tC T) else cF U k p)
        rw [z3 _ _ (by omega), z2 _ _ (by omega)]
        by_cases e : k = cN U
        · rw [if_pos e, e]
          exact (g3 p (by omega)).2
        · rw [if_neg e, z1' _ (by omega)]
          exact u3 k p (by omega) hp
      · intro k q hk hq
        replace hk : k < cN U + 1 := hk
        show _ = (if k = cN U then wtF T r (tC T) q else cW U k q)
        by_cases e : k = cN U
        · rw [if_pos e, e]
          have := p3 q (by omega)
          unfold idxF at this
          rw [if_pos hq] at this
          exact this
        · rw [if_neg e, z3' _ (by omega), z2' _ (by omega), z1 _ _ (by omega)]
          exact u4 k q (by omega) hq
      · intro k q hk hq
        replace hk : k < cN U + 1 := hk
        show _ = (if k = cN U then wtF T r (tC T) (8 + q) else cW U k (8 + q))
        by_cases e : k = cN U
        · rw [if_pos e, e]
          have := p3 (8 + q) (by omega)
          unfold idxF at this
          rw [if_neg (by omega), show 22 * cN U + (8 + q + 2) = 22 * cN U + 10 + q by omega] at this
          exact this
        · rw [if_neg e, z3' _ (by omega), z2' _ (by omega), z1 _ _ (by omega)]
          exact u5 k q (by omega) hq
  · rw [g2]
    refine ⟨0, m1, rfl, kpt_w g1 (fun a q h => by omega), Or.inr ⟨rfl, g3, uC_k u n5 (fun a q h h' h2 h3 h4 => ?_)⟩⟩
    by_cases e : a = 52
    · subst e; exact z1' q (h2 rfl)
    · exact z1 a q e
theorem Q4_64 {d : Nat} {L : j_B} {K : PK} {U : CU} {T : TB} {m : j_M0} (v : vC 55 T m) (o : tOK T) (w : vP 35 K m) (u : uC 64 (pN K) U m) (ou : cOK (pN K) U) (og : gOK K U T) (hN : cN U < 12) {r : Nat} (hr : r < tR T) : ∃ f m', c_call (d + 4) 4 [jR 64, jR 55, jI r, jR 35] (hH L m) = some (some (jI f), hH L m') ∧ kpt (fun b _ => 64 ≤ b ∧ b ≤ 67) m m' ∧ ((f = 1 ∧ (∀ p : Nat, p ≤ pN K → nr (sumF K U T r p (tC T))) ∧ uC 64 (pN K) (mkU K U T r) m') ∨ (f = 0 ∧ (∃ p : Nat, p ≤ pN K ∧ ¬ nr (sumF K U T r p (tC T))) ∧ uC 64 (pN K) U m')) := by
  have ok := vP_ok w
  have n5 := ok.2.1
  rw [E4, T4_0_64_55_35]
  obtain ⟨m1, o5, g1, g2⟩ := L4a_64 (d := d) (L := L) o ou og hN hr (pN K + 1) 0 (by omega) m none v w u (fun q h => absurd h (Nat.not_lt_zero q))
  rw [show (some (jI ((0 : Nat) : Int)) : Option j_V) = some (jI 0) from rfl] at g2
  have z1 : ∀ a q, a ≠ 66 → m1 a q = m a q := fun a q h => by
    rcases g1 a q with e | e
    · omega
    · exact e
  have z1' : ∀ q, q < 6 * cN U → m1 66 q = m 66 q := fun q h => by
    rcases g1 66 q with e | e
    · omega
    · exact e
  rcases g2 with ⟨g2, g3⟩ | ⟨g2, g3⟩
  · rw [g2]
    have h1 : m1 64 0 = cN U := (z1 _ _ (by omega)).trans u.1
    obtain ⟨m2, q1, q2, q3⟩ := L4b_64 (C := c_call (d + 3)) (L := L) (r := r) hN 22 0 (by omega) m1 o5 h1 (fun q h => absurd h (Nat.not_lt_zero q))
    rw [show (some (jI ((0 : Nat) : Int)) : Option j_V) = some (jI 0) from rfl] at q2
    rw [q2]
    have z2 : ∀ a q, a ≠ 67 → m2 a q = m1 a q := fun a q h => by
      rcases q1 a q with e | e
      · omega
      · exact e
    have z2' : ∀ q, q < 22 * cN U → m2 67 q = m1 67 q := fun q h => by
      rcases q1 67 q with e | e
      · omega
      · exact e
    have v2 : vC 55 T m2 := vC_k v (fun b s h h' => by rw [z2 _ _ (by omega), z1 _ _ (by omega)])
    obtain ⟨m3, p1, p2, p3⟩ := L4c_64 (d := d) (L := L) ok o og hN hr (tC T) 0 (by omega) m2 o5 v2 ((z2 _ _ (by omega)).trans h1) (fun q hq => by
      rw [wtF_0]
      exact q3 _ (by unfold idxF; split <;> omega))
    have p2' : j_fin (c_call (d + 3)) 4 91 [some (jR 64), some (jR 55), some (jI r), some (jR 35), some (jI 0), o5, none] [] (hH L m2) = _ := p2
    rw [p2']
    have z3 : ∀ a q, a ≠ 67 → m3 a q = m2 a q := fun a q h => by
      rcases p1 a q with e | e
      · omega
      · exact e
    have z3' : ∀ q, q < 22 * cN U → m3 67 q = m2 67 q := fun q h => by
      rcases p1 67 q with e | e
      · omega
      · exact e
    refine ⟨1, _, rfl, ?_, Or.inl ⟨rfl, fun p hp => (g3 p (by omega)).1, ?_⟩⟩
    · intro a q
      by_cases e : 64 ≤ a ∧ a ≤ 67
      · exact Or.inl e
      · right
        rw [up_ne (by omega), up_ne (by omega), z3 _ _ (by omega), z2 _ _ (by omega), z1 _ _ (by omega)]
    · obtain ⟨u1, u2, u3, u4, u5⟩ := u
      unfold uC
      simp (disch := omega) only [Nat.reduceAdd, up_ne, up_eq, up_at]
      refine ⟨rfl, ?_, ?_, ?_, ?_⟩
      · intro k hk
        replace hk : k < cN U + 1 := hk
        show _ = (if k = cN U then tD T else cD U k)
        rw [z3 _ _ (by omega), z2 _ _ (by omega), z1 _ _ (by omega)]
        by_cases e : k = cN U
        · rw [if_pos e, if_pos e]
        · rw [if_neg e, if_neg e]
          exact u2 k (by omega)
      · intro k p hk hp
        replace hk : k < cN U + 1 := hk
        show _ = (if k = cN U then sumF K U T r p (tC T) else cF U k p)
        rw [z3 _ _ (by omega), z2 _ _ (by omega)]
        by_cases e : k = cN U
        · rw [if_pos e, e]
          exact (g3 p (by omega)).2
        · rw [if_neg e, z1' _ (by omega)]
          exact u3 k p (by omega) hp
      · intro k q hk hq
        replace hk : k < cN U + 1 := hk
        show _ = (if k = cN U then wtF T r (tC T) q else cW U k q)
        by_cases e : k = cN U
        · rw [if_pos e, e]
          have := p3 q (by omega)
          unfold idxF at this
          rw [if_pos hq] at this
          exact this
        · rw [if_neg e, z3' _ (by omega), z2' _ (by omega), z1 _ _ (by omega)]
          exact u4 k q (by omega) hq
      · intro k q hk hq
        replace hk : k < cN U + 1 := hk
        show _ = (if k = cN U then wtF T r (tC T) (8 + q) else cW U k (8 + q))
        by_cases e : k = cN U
        · rw [if_pos e, e]
          have := p3 (8 + q) (by omega)
          unfold idxF at this
          rw [if_neg (by omega), show 22 * cN U + (8 + q + 2) = 22 * cN U + 10 + q by omega] at this
          exact this
        · rw [if_neg e, z3' _ (by omega), z2' _ (by omega), z1 _ _ (by omega)]
          exact u5 k q (by omega) hq
  · rw [g2]
    refine ⟨0, m1, rfl, kpt_w g1 (fun a q h => by omega), Or.inr ⟨rfl, g3, uC_k u n5 (fun a q h h' h2 h3 h4 => ?_)⟩⟩
    by_cases e : a = 66
    · subst e; exact z1' q (h2 rfl)
    · exact z1 a q e
