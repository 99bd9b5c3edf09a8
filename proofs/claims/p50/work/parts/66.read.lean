/-! Calls that read the table. -/
def iR (x : Int) : Prop := -2147483648 ≤ x ∧ x ≤ 2147483647
theorem Q99 {d : Nat} {L : j_B} {m : j_M0} {T : TB} {x p : Int} (hT : m 2 11 ≠ 0) (v : vC 41 T m) (o : tOK T) : c_call (d + 4) 99 [jR 2, jI x, jI p] (hH L m) = some (some (jL (if (0 ≤ x ∧ x < m 4 0) ∧ (p = 0 ∨ p = 1) then lwF (rightF T x) (tD T) p else -9223372036854775808)), hH L m) := by
  have r := rightF_r o x
  have d1 := o.2.2.2.2.1
  have d2 := o.2.2.2.2.2.1
  have k : m 41 4 = tD T := v.2.2.2.2.1
  rw [E99]
  simp (disch := omega) only [T99_0, T99_12, T99_19, T99_37, T99_51, if_neg hT, Q135, Q141, Q53_41 v o, Q146, k, Option.bind_some, Option.toList_some, List.cons_append, List.nil_append, bI_0]
  grind
