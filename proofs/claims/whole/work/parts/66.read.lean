/-! Calls that read the table. -/
def iR (x : Int) : Prop := -2147483648 ≤ x ∧ x ≤ 2147483647
theorem Rel_n {xs : Nat → Int32} {m : j_M0} (w : Rel xs m) : 1 ≤ m 110 0 ∧ m 110 0 ≤ 5 ∧ 0 ≤ m 110 1 ∧ m 110 1 ≤ 8 ∧ m 4 0 = m 110 0 ∧ m 4 1 = m 110 1 := ⟨w.2.1.1, w.2.1.2.1, w.2.1.2.2.1, w.2.1.2.2.2.1, w.2.2.2.1.1.2.1, w.2.2.2.1.1.2.2.1⟩
theorem Q99 {d L : Nat} {m : j_M0} {T : TB} {x p : Int} (hT : m 2 11 ≠ 0) (v : vC 41 T m) (o : tOK T) : c_call (d + 4) 99 [jR 2, jI x, jI p] (hH L m) = some (some (jL (if (0 ≤ x ∧ x < m 4 0) ∧ (p = 0 ∨ p = 1) then lwF (rightF T x) (tD T) p else -9223372036854775808)), hH L m) := by
  have r := rightF_r o x
  have d1 := o.2.2.2.2.1
  have d2 := o.2.2.2.2.2.1
  have k : m 41 4 = tD T := v.2.2.2.2.1
  rw [E99]
  simp (disch := omega) only [T99_0, T99_12, T99_19, T99_37, T99_51, if_neg hT, Q135, Q141, Q53_41 v o, Q146, k, Option.bind_some, Option.toList_some, List.cons_append, List.nil_append, bI_0]
  grind
theorem Q198 {d L : Nat} {m : j_M0} {T : TB} {x p : Int} (h1 : 1 ≤ m 110 0) (h2 : m 110 0 ≤ 5) (hT : m 115 18 ≠ 0) (v : vM 115 T m) (o : tOK T) : c_call (d + 4) 198 [jR 109, jI x, jI p] (hH L m) = some (some (jL (if (0 ≤ x ∧ x < m 110 0) ∧ (p = 0 ∨ p = 1) then lwF (rightF T x) (tD T) p else -9223372036854775808)), hH L m) := by
  have r := rightF_r o x
  have d1 := o.2.2.2.2.1
  have d2 := o.2.2.2.2.2.1
  have k : m 115 13 = tD T := v.2.2.2.2.1
  rw [E198]
  simp (disch := omega) only [T198_0, T198_15, T198_22, T198_34, T198_45, if_neg hT, Q152, Q196, Q197_115 v o, Q195, k, Option.bind_some, Option.toList_some, List.cons_append, List.nil_append, bI_0]
  grind
theorem PA99 {L : Nat} {xs : Nat → Int32} {m : j_M0} (w : Rel xs m) (x p : Int) : PA L xs 99 198 [jI x, jI p] m := by
  have n := Rel_n w
  rcases w.2.2.2.2.2.1 with ⟨t1, t2⟩ | ⟨t1, t2, s, T, U, t3⟩
  · exact PA_r w (v := jL (-9223372036854775808)) ((E99 (d := 9)).trans (by rw [T99_0, if_pos t1])) ((E198 (d := 9)).trans (by rw [T198_0, if_pos t2]))
  · have q := Q99 (d := 6) (L := L) (m := m) (x := x) (p := p) (by omega) t3.2.1 t3.1.1
    have q2 := Q198 (d := 6) (L := L) (m := m) (x := x) (p := p) n.1 n.2.1 (by omega) t3.2.2.1 t3.1.1
    rw [n.2.2.2.2.1] at q
    exact PA_r w q q2
