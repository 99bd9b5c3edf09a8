/-! Faults; the model reads a term. -/
/-- the class's clauses, c of them -/
def cC (c : Nat) (S : Nat → Int) (m : j_M0) : Prop := ∀ q : Nat, q < c → m 95 q = S (7 * q) ∧ m 96 q = S (7 * q + 1) ∧ fC q S m
def WF (b z : Nat) : Prop := (b = 93 ∧ (z = 1 ∨ z = 3)) ∨ b = 95 ∨ b = 96 ∨ b = 97
theorem tC_F {t : Nat → Int} {N : Nat} {m m' : j_M0} (h : tC' t N m) (k : kpt WF m m') : tC' t N m' := tC_k h (fun b z g => kpt_at k (by unfold WF; omega))
theorem L65 {d : Nat} {L : j_B} {t : Nat → Int} {N n : Nat} {x1 : Int} (o : txO t N) (hn : n ≤ 5) : ∀ (r c k : Nat) (S : Nat → Int) (m : j_M0), r + c = 4 → tC' t N m → m 93 1 = c → m 93 3 = k → m 93 4 = n → k ≤ N → cC c S m → ∃ m', j_fin (c_call (d + 4)) 65 17 [some (jR 93), some (jI x1), some (jI c)] [] (hH L m) = some (some (jI (if (alF t N n r c k S).1 = true then -1 else (((alF t N n r c k S).2.1 : Nat) : Int))), hH L m') ∧ kpt WF m m' ∧ ((alF t N n r c k S).1 = true → m' 93 1 = (alF t N n r c k S).2.2.1 ∧ cC (alF t N n r c k S).2.2.1 (alF t N n r c k S).2.2.2 m') := by
  have o1 := o.1
  intro r
  induction r with
  | zero =>
    intro c k S m hr h h1 h3 h4 hk hS
    rw [T65_17, if_neg (by omega), h3]
    refine ⟨m, rfl, kpt_rfl, fun g => absurd (show false = true from g) (by decide)⟩
  | succ r ih =>
    intro c k S m hr h h1 h3 h4 hk hS
    obtain ⟨m1, t1, t2, t3, t4⟩ := Q70 (d := d) (L := L) (S := S) o (show c < 4 by omega) hn h h1 h3 h4 hk
    obtain ⟨p1, p2⟩ := clF_p (t := t) (N := N) (n := n) (c := c) (S := S) hn hk
    have k1 : kpt WF m m1 := kpt_w t2 (fun b z h => by unfold WL at h; unfold WF; omega)
    rw [T65_17, if_pos (by omega), t1]
    simp only [Option.bind_some, Option.toList_some, List.cons_append, List.nil_append]
    rw [T65_26]
    unfold alF
    by_cases e1 : (clF t N n c k S).1 = true
    · obtain ⟨y1, y2, y3⟩ := t4 e1
      obtain ⟨-, p3⟩ := p2 e1
      rw [if_pos e1, if_pos e1, if_neg (by decide)]
      generalize clF t N n c k S = R at t1 t3 t4 p1 p2 e1 y1 y2 y3 p3 ⊢
      have b1 : m1 93 1 = c := (kpt_at t2 (by unfold WL; omega)).trans h1
      obtain ⟨m2, hm2⟩ : ∃ m2, m2 = j_up m1 93 1 ((c + 1 : Nat) : Int) := ⟨_, rfl⟩
      have g1 : m2 93 1 = ((c + 1 : Nat) : Int) := by rw [hm2, up_eq rfl]
      have g3 : m2 93 3 = ((R.2.1 : Nat) : Int) := by rw [hm2, up_nj (by omega)]; exact t3
      have g4 : m2 93 4 = n := by rw [hm2, up_nj (by omega)]; exact (kpt_at t2 (by unfold WL; omega)).trans h4
      have g0 : m2 93 0 = N := by rw [hm2, up_nj (by omega)]; exact (kpt_at t2 (by unfold WL; omega)).trans h.1
      have k2 : kpt WF m m2 := by rw [hm2]; exact kpt_tr k1 (kpt_up (by unfold WF; omega))
      have h2 := tC_F h k2
      have hS2 : cC (c + 1) R.2.2 m2 := fun q hq => by
        have a : ∀ b z : Nat, b ≠ 93 → m2 b z = m1 b z := fun b z hb => by rw [hm2, up_ne hb]
        by_cases e : q = c
        · subst e
          refine ⟨(a _ _ (by omega)).trans y1, (a _ _ (by omega)).trans y2, fun p hp => (a _ _ (by omega)).trans (y3 p hp)⟩
        · obtain ⟨s1, s2, s3⟩ := hS q (by omega)
          refine ⟨?_, ?_, fun p hp => ?_⟩
          · rw [a _ _ (by omega), kpt_at t2 (by unfold WL; omega), p3 _ (by omega)]; exact s1
          · rw [a _ _ (by omega), kpt_at t2 (by unfold WL; omega), p3 _ (by omega)]; exact s2
          · rw [a _ _ (by omega), kpt_at t2 (by unfold WL; omega), p3 _ (by omega)]; exact s3 p hp
      rw [b1, nat1 (by omega), ← hm2, g3, g0, g1]
      by_cases e2 : N ≤ R.2.1
      · rw [if_neg (by omega), if_pos e2]
        exact ⟨m2, rfl, k2, fun _ => ⟨g1, hS2⟩⟩
      · rw [if_pos (by omega), if_neg e2]
        by_cases e3 : r = 0
        · have ne1 : ¬ (r ≠ 0 ∧ chT t N R.2.1 = 59) := fun g => g.1 e3
          rw [if_pos (by omega)]
          simp only [if_neg ne1]
          exact ⟨m2, rfl, k2, fun g => absurd (show false = true from g) (by decide)⟩
        · have q68 : c_call (d + 4) 68 [jR 93, jI 59] (hH L m2) = _ := Q68 (d := d + 2) o h2 g3 (by omega)
          rw [if_neg (by omega), q68]
          by_cases e4 : chT t N R.2.1 = 59
          · have ye1 : r ≠ 0 ∧ chT t N R.2.1 = 59 := ⟨e3, e4⟩
            rw [if_pos e4]
            simp only [if_pos ye1, Option.bind_some, Option.toList_some, List.cons_append, List.nil_append]
            rw [T65_71, if_neg (by decide), nat1 (by omega)]
            obtain ⟨m3, u1, u2, u3⟩ := ih (c + 1) (R.2.1 + 1) R.2.2 (j_up m2 93 3 ((R.2.1 + 1 : Nat) : Int)) (by omega) (tC_3 h2) (by rw [up_nj (by omega)]; exact g1) (up_eq rfl) (by rw [up_nj (by omega)]; exact g4) (by omega) (fun q hq => by
              obtain ⟨s1, s2, s3⟩ := hS2 q hq
              exact ⟨(up_ne (by omega)).trans s1, (up_ne (by omega)).trans s2, fun p hp => (up_ne (by omega)).trans (s3 p hp)⟩)
            exact ⟨m3, u1, kpt_tr k2 (kpt_tr (kpt_up (by unfold WF; omega)) u2), u3⟩
          · have ne1 : ¬ (r ≠ 0 ∧ chT t N R.2.1 = 59) := fun g => e4 g.2
            rw [if_neg e4]
            simp only [if_neg ne1, Option.bind_some, Option.toList_some, List.cons_append, List.nil_append]
            rw [T65_71, if_pos rfl, g3]
            exact ⟨m2, rfl, k2, fun g => absurd (show false = true from g) (by decide)⟩
    · rw [if_neg e1, if_pos rfl, if_neg e1, t3]
      exact ⟨m1, rfl, k1, fun g => absurd (show false = true from g) (by decide)⟩
theorem Q65 {d : Nat} {L : j_B} {t : Nat → Int} {N n : Nat} {S : Nat → Int} {m : j_M0} (o : txO t N) (hn : n ≤ 5) (h : tC' t N m) : ∃ m', c_call (d + 5) 65 [jR 93, jI n] (hH L m) = some (some (jI (if (alF t N n 4 0 0 S).1 = true then -1 else (((alF t N n 4 0 0 S).2.1 : Nat) : Int))), hH L m') ∧ kpt (fun b z => b = 93 ∧ z ≠ 0 ∨ b = 95 ∨ b = 96 ∨ b = 97) m m' ∧ ((alF t N n 4 0 0 S).1 = true → m' 93 1 = (alF t N n 4 0 0 S).2.2.1 ∧ cC (alF t N n 4 0 0 S).2.2.1 (alF t N n 4 0 0 S).2.2.2 m') := by
  have k0 : kpt (fun b z => b = 93 ∧ z ≠ 0 ∨ b = 95 ∨ b = 96 ∨ b = 97) m (j_up (j_up (j_up m 93 4 n) 93 3 0) 93 1 0) := kpt_tr (kpt_tr (kpt_up (by omega)) (kpt_up (by omega))) (kpt_up (by omega))
  obtain ⟨m1, t1, t2, t3⟩ := L65 (d := d) (L := L) (x1 := n) o hn 4 0 0 S (j_up (j_up (j_up m 93 4 n) 93 3 0) 93 1 0) (by omega) (tC_k h (fun b z g => kpt_at k0 (by omega))) (up_eq rfl) (by rw [up_nj (by omega), up_eq rfl]; rfl) (by rw [up_nj (by omega), up_nj (by omega), up_eq rfl]) (Nat.zero_le N) (fun q hq => absurd hq (Nat.not_lt_zero q))
  refine ⟨m1, ?_, kpt_tr k0 (kpt_w t2 (fun b z h => by unfold WF at h; omega)), t3⟩
  rw [E65, T65_0]
  exact t1
/-! the model's -/
def WT (b z : Nat) : Prop := (b = 109 ∧ z = 7) ∨ b = 114
