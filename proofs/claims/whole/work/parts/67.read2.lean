/-! value, price, entry. -/
theorem lwF_0 {y p : Int} (hy : 0 < y) (hp : p = 0 ∨ p = 1) : lwF 0 y p = p := by
  have e : gcF 0 y = y.toNat := by
    unfold gcF
    rw [Int.natAbs_zero, Nat.gcd_zero_right]
  unfold lwF
  rw [e, show ((y.toNat : Nat) : Int) = y by omega, Int.zero_tdiv, Int.tdiv_self (by omega)]
  rcases hp with rfl | rfl
  · rfl
  · rfl
theorem PA100 {L : Nat} {xs : Nat → Int32} {m : j_M0} (w : Rel xs m) (p : Int) : PA L xs 100 199 [jI p] m := by
  have n := Rel_n w
  rcases w.2.2.2.2.2.1 with ⟨t1, t2⟩ | ⟨t1, t2, s, T, U, t3⟩
  · exact PA_r w (v := jL (-9223372036854775808)) ((E100 (d := 9)).trans (by rw [T100_0, if_pos t1])) ((E199 (d := 9)).trans (by rw [T199_0, if_pos t2]))
  · have o := t3.1.1
    have v := t3.2.1
    have u := t3.2.2.1
    have r1 := o.2.2.2.2.2.2.1
    have r2 := o.2.2.2.2.2.2.2.1
    have d1 := o.2.2.2.2.1
    have d2 := o.2.2.2.2.2.1
    have c3 : m 41 3 = tB T := v.2.2.2.1
    have c4 : m 41 4 = tD T := v.2.2.2.2.1
    have u3 : m 115 12 = tB T := u.2.2.2.1
    have u4 : m 115 13 = tD T := u.2.2.2.2.1
    refine PA_r w (v := jL (if p = 0 ∨ p = 1 then lwF (tB T) (tD T) p else -9223372036854775808)) ((E100 (d := 9)).trans ?_) ((E199 (d := 9)).trans ?_)
    · simp (disch := omega) only [T100_0, T100_11, T100_42, if_neg (show ¬ m 2 11 = 0 by omega), Q141, Q146, c3, c4, Option.bind_some, Option.toList_some, List.cons_append, List.nil_append, bI_0]
      grind
    · simp (disch := omega) only [T199_0, T199_14, T199_35, if_neg (show ¬ m 115 18 = 0 by omega), Q196, Q195, u3, u4, Option.bind_some, Option.toList_some, List.cons_append, List.nil_append, bI_0]
      grind
theorem L200 {d L : Nat} {m : j_M0} {T : TB} {x p : Int} (u : vM 115 T m) (o : tOK T) (hn : m 110 0 = tC T) (hx : 0 ≤ x ∧ x < 8) : ∀ j k : Nat, k + j = tC T → j_fin (c_call (d + 1)) 200 31 [some (jR 109), some (jI x), some (jI p), some (jI k)] [] (hH L m) = some (some (jL (if ff (fun c => decide (tos T c = 10 + x)) j k < 0 then p else lwF (trs T (ff (fun c => decide (tos T c = 10 + x)) j k).toNat) (tD T) p)), hH L m) := by
  have o1 := o.2.2.1
  have d1 := o.2.2.2.2.1
  have d2 := o.2.2.2.2.2.1
  have u4 : m 115 13 = tD T := u.2.2.2.2.1
  intro j
  induction j with
  | zero =>
    intro k hk
    rw [T200_31, Q151]
    simp only [Option.bind_some, Option.toList_some, List.cons_append, List.nil_append]
    rw [T200_36, if_neg (by omega)]
    rfl
  | succ j ih =>
    intro k hk
    have ih' := ih (k + 1) (by omega)
    have h1 := u.2.2.2.2.2.2.1 k (by omega)
    have h2 := u.2.2.2.2.2.2.2.2.2 k (by omega)
    have h3 := o.2.2.2.2.2.2.2.2.2.2.1 k (by omega)
    simp only [Nat.reduceAdd] at h1 h2
    have e5 : ff (fun c => decide (tos T c = 10 + x)) (j + 1) k = if tos T k = 10 + x then (k : Int) else ff (fun c => decide (tos T c = 10 + x)) j (k + 1) := by
      rw [ff]
      simp only [decide_eq_true_eq]
    rw [T200_31, Q151]
    simp only [Option.bind_some, Option.toList_some, List.cons_append, List.nil_append]
    rw [T200_36, if_pos (by omega), if_pos (by omega), nat1 (by omega), Int.toNat_natCast, h1, h2, u4, w32_id (x := 10 + x) (by omega) (by omega), e5]
    by_cases e : tos T k = 10 + x
    · rw [if_pos e, if_pos e, if_pos (by omega), if_neg (by omega), Int.toNat_natCast, Q195 (by omega) (by omega) (by omega) (by omega)]
      simp only [Option.bind_some, Option.toList_some, List.cons_append, List.nil_append]
      rw [T200_75]
    · rw [if_neg e, if_neg e]
      exact ih'
theorem PA101 {L : Nat} {xs : Nat → Int32} {m : j_M0} (w : Rel xs m) (x p : Int) : PA L xs 101 200 [jI x, jI p] m := by
  have n := Rel_n w
  rcases w.2.2.2.2.2.1 with ⟨t1, t2⟩ | ⟨t1, t2, s, T, U, t3⟩
  · exact PA_r w (v := jL (-9223372036854775808)) ((E101 (d := 9)).trans (by rw [T101_0, if_pos t1])) ((E200 (d := 9)).trans (by rw [T200_0, if_pos t2]))
  · have o := t3.1.1
    have v := t3.2.1
    have u := t3.2.2.1
    have d1 := o.2.2.2.2.1
    have d2 := o.2.2.2.2.2.1
    have c4 : m 41 4 = tD T := v.2.2.2.2.1
    have tc := t3.1.2.1
    by_cases h : (0 ≤ x ∧ x < m 110 1) ∧ (p = 0 ∨ p = 1)
    · have hr : 0 ≤ riseF T (10 + x) ∧ riseF T (10 + x) ≤ 1000000000 := by
        have b := colF_b T (10 + x)
        unfold riseF
        split
        · omega
        · exact o.2.2.2.2.2.2.2.2.2.2.1 _ (by omega)
      refine PA_r w (v := jL (lwF (riseF T (10 + x)) (tD T) p)) ((E101 (d := 9)).trans ?_) ((E200 (d := 9)).trans ?_)
      · simp (disch := omega) only [T101_0, T101_12, T101_19, T101_40, T101_54, if_neg (show ¬ m 2 11 = 0 by omega), Q136, Q141, Option.bind_some, Option.toList_some, List.cons_append, List.nil_append, bI_0, if_neg (show ¬ ¬ (0 ≤ x ∧ x < m 4 1) by omega), if_neg (show ¬ ¬ (p = 0 ∨ p = 1) by omega), w32_id, Q55 v o, Q146, c4]
      · have l := L200 (d := 8) (L := L) (m := m) (T := T) (x := x) (p := p) u o (by omega) (by omega) (tC T) 0 (by omega)
        simp (disch := omega) only [T200_0, T200_15, T200_22, if_neg (show ¬ m 115 18 = 0 by omega), Q153, Q196, Option.bind_some, Option.toList_some, List.cons_append, List.nil_append, bI_0, if_neg (show ¬ ¬ (0 ≤ x ∧ x < m 110 1) by omega), if_neg (show ¬ ¬ (p = 0 ∨ p = 1) by omega)]
        refine Eq.trans l ?_
        have e : ff (fun c => decide (tos T c = 10 + x)) (tC T) 0 = colF T (10 + x) := rfl
        rw [e]
        unfold riseF
        by_cases e2 : colF T (10 + x) < 0
        · rw [if_pos e2, if_pos e2, lwF_0 (by omega) h.2]
        · rw [if_neg e2, if_neg e2]
    · refine PA_r w (v := jL (-9223372036854775808)) ((E101 (d := 9)).trans ?_) ((E200 (d := 9)).trans ?_)
      · simp (disch := omega) only [T101_0, T101_12, T101_19, if_neg (show ¬ m 2 11 = 0 by omega), Q136, Q141, Option.bind_some, Option.toList_some, List.cons_append, List.nil_append, bI_0]
        grind
      · simp (disch := omega) only [T200_0, T200_15, T200_22, if_neg (show ¬ m 115 18 = 0 by omega), Q153, Q196, Option.bind_some, Option.toList_some, List.cons_append, List.nil_append, bI_0]
        grind
def entF (T : TB) (x y : Int) : Int := if x = -2 then (if y < (tC T : Int) then tos T y.toNat else -9223372036854775808) else if x = -1 then (if y = (tC T : Int) then tB T else if (tC T : Int) < y then tD T else trs T y.toNat) else if y = (tC T : Int) then tri T x.toNat else if (tC T : Int) < y then tow T x.toNat else te T x.toNat y.toNat
theorem w32_p {k : Nat} (h : k < 1000000) : w32 ((k : Int) + 1) = (k : Int) + 1 := w32_id (by omega) (by omega)
theorem w32_m {k : Nat} (h : k < 1000000) : w32 ((k : Int) - 1) = (k : Int) - 1 := w32_id (by omega) (by omega)
theorem Q98 {d L : Nat} {m : j_M0} {T : TB} {x y : Int} (hT : m 2 11 ≠ 0) (v : vC 41 T m) (o : tOK T) (n4 : m 4 0 = tC T) (g : -2 ≤ x ∧ x < (tR T : Int) ∧ 0 ≤ y ∧ y ≤ (tC T : Int) + 1) : c_call (d + 2) 98 [jR 2, jI x, jI y] (hH L m) = some (some (jL (entF T x y)), hH L m) := by
  have o1 := o.1
  have o2 := o.2.2.1
  have c0 : m 41 0 = tR T := v.1
  have c1 : m 41 1 = tC T := v.2.1
  have c3 : m 41 3 = tB T := v.2.2.2.1
  have c4 : m 41 4 = tD T := v.2.2.2.2.1
  rw [E98, T98_0, if_neg hT, if_neg (by omega), c0, if_pos (by omega), if_neg (by omega), n4, w32_p (by omega), if_neg (by omega)]
  clear c0
  unfold entF
  by_cases x2 : x = -2
  · rw [if_pos x2, if_pos x2]
    by_cases y1 : y < (tC T : Int)
    · have h := v.2.2.2.2.2.2.1 y.toNat (by omega)
      simp only [Nat.reduceAdd] at h
      rw [if_pos y1, if_pos y1, if_pos (by omega), h]
    · rw [if_neg y1, if_neg y1]
  · rw [if_neg x2, if_neg x2]
    by_cases x1 : x = -1
    · rw [if_pos x1, if_pos x1, E59, T59_0, c1, c3, c4]
      by_cases y1 : y = (tC T : Int)
      · rw [if_pos y1, if_pos y1]
        simp only [Option.bind_some, Option.toList_some, List.cons_append, List.nil_append, T98_100]
      · rw [if_neg y1, if_neg y1]
        by_cases y2 : (tC T : Int) < y
        · rw [if_pos y2, if_pos y2]
          simp only [Option.bind_some, Option.toList_some, List.cons_append, List.nil_append, T98_100]
        · have h := v.2.2.2.2.2.2.2.2.2 y.toNat (by omega)
          simp only [Nat.reduceAdd] at h
          rw [if_neg y2, if_neg y2, if_pos (by omega), h]
          simp only [Option.bind_some, Option.toList_some, List.cons_append, List.nil_append, T98_100]
    · rw [if_neg x1, if_neg x1, E58, T58_0, c1]
      by_cases y1 : y = (tC T : Int)
      · have h := v.2.2.2.2.2.2.2.2.1 x.toNat (by omega)
        simp only [Nat.reduceAdd] at h
        rw [if_pos y1, if_pos y1, if_pos (by omega), h]
        simp only [Option.bind_some, Option.toList_some, List.cons_append, List.nil_append, T98_113]
      · rw [if_neg y1, if_neg y1]
        by_cases y2 : (tC T : Int) < y
        · have h := v.2.2.2.2.2.1 x.toNat (by omega)
          simp only [Nat.reduceAdd] at h
          rw [if_pos y2, if_pos y2, if_pos (by omega), h]
          simp only [Option.bind_some, Option.toList_some, List.cons_append, List.nil_append, T98_113]
        · have h := v.2.2.2.2.2.2.2.1 x.toNat y.toNat (by omega) (by omega)
          simp only [Nat.reduceAdd] at h
          rw [if_neg y2, if_neg y2, w32_id (x := x * 5) (by omega) (by omega), w32_id (x := x * 5 + y) (by omega) (by omega), if_pos (by omega), show (x * 5 + y).toNat = 5 * x.toNat + y.toNat by omega, h]
          simp only [Option.bind_some, Option.toList_some, List.cons_append, List.nil_append, T98_113]
theorem L194 {d L : Nat} {m : j_M0} {T : TB} {x y : Int} (u : vM 115 T m) (o : tOK T) (n0 : m 110 0 = tC T) (g : -2 ≤ x ∧ x < (tR T : Int) ∧ 0 ≤ y ∧ y ≤ (tC T : Int) + 1) (hz : ¬ (x = -2 ∧ ¬ y < (tC T : Int))) : j_fin (c_call (d + 1)) 194 60 [some (jR 109), some (jI x), some (jI y)] [jI 1] (hH L m) = some (some (jL (entF T x y)), hH L m) := by
  have o1 := o.1
  have o2 := o.2.2.1
  have u3 : m 115 12 = tB T := u.2.2.2.1
  have u4 : m 115 13 = tD T := u.2.2.2.2.1
  rw [T194_60, if_neg (by omega), Q151]
  simp only [Option.bind_some, Option.toList_some, List.cons_append, List.nil_append]
  rw [T194_72, n0]
  unfold entF
  by_cases y1 : y = (tC T : Int)
  · rw [if_pos y1]
    by_cases x0 : x < 0
    · rw [if_pos x0, u3, if_neg (by omega), if_pos (by omega), if_pos y1]
    · have h := u.2.2.2.2.2.2.2.2.1 x.toNat (by omega)
      simp only [Nat.reduceAdd] at h
      rw [if_neg x0, if_pos (by omega), h, if_neg (by omega), if_neg (by omega), if_pos y1]
  · rw [if_neg y1, Q151]
    simp only [Option.bind_some, Option.toList_some, List.cons_append, List.nil_append]
    rw [T194_104, n0]
    by_cases y2 : (tC T : Int) < y
    · rw [if_pos y2]
      by_cases x0 : x < 0
      · rw [if_pos x0, u4, if_neg (by omega), if_pos (by omega), if_neg y1, if_pos y2]
      · have h := u.2.2.2.2.2.1 x.toNat (by omega)
        simp only [Nat.reduceAdd] at h
        rw [if_neg x0, if_pos (by omega), h, if_neg (by omega), if_neg (by omega), if_neg y1, if_pos y2]
    · rw [if_neg y2]
      by_cases x2 : x = -2
      · have h := u.2.2.2.2.2.2.1 y.toNat (by omega)
        simp only [Nat.reduceAdd] at h
        rw [if_pos x2, if_pos (by omega), h, if_pos x2, if_pos (by omega)]
      · rw [if_neg x2, if_neg x2]
        by_cases x1 : x = -1
        · have h := u.2.2.2.2.2.2.2.2.2 y.toNat (by omega)
          simp only [Nat.reduceAdd] at h
          rw [if_pos x1, if_pos (by omega), h, if_pos x1, if_neg y1, if_neg y2]
        · have h := u.2.2.2.2.2.2.2.1 x.toNat y.toNat (by omega) (by omega)
          simp only [Nat.reduceAdd] at h
          rw [if_neg x1, if_neg x1, if_neg y1, if_neg y2, w32_id (x := 5 * x) (by omega) (by omega), w32_id (x := 5 * x + y) (by omega) (by omega), if_pos (by omega), show (5 * x + y).toNat = 5 * x.toNat + y.toNat by omega, h]
theorem Q194 {d L : Nat} {m : j_M0} {T : TB} {x y : Int} (hT : m 115 18 ≠ 0) (u : vM 115 T m) (o : tOK T) (n0 : m 110 0 = tC T) : c_call (d + 2) 194 [jR 109, jI x, jI y] (hH L m) = some (some (jL (if -2 ≤ x ∧ x < (tR T : Int) ∧ 0 ≤ y ∧ y ≤ (tC T : Int) + 1 then entF T x y else -9223372036854775808)), hH L m) := by
  have o1 := o.1
  have o2 := o.2.2.1
  have u0 : m 115 15 = tR T := u.1
  rw [E194, T194_0, if_neg hT, u0, w32_m (by omega), Q150]
  clear u0 hT
  simp only [Option.bind_some, Option.toList_some, List.cons_append, List.nil_append]
  rw [T194_28]
  by_cases g1 : -2 ≤ x ∧ x ≤ (tR T : Int) - 1
  · rw [show bI (-2 ≤ x ∧ x ≤ (tR T : Int) - 1) = 1 from if_pos g1, if_neg (by decide)]
    by_cases x2 : x = -2
    · rw [if_pos x2, Q151]
      simp only [Option.bind_some, Option.toList_some, List.cons_append, List.nil_append]
      rw [T194_44, n0, w32_m (by omega), Q150]
      simp only [Option.bind_some, Option.toList_some, List.cons_append, List.nil_append]
      by_cases y1 : 0 ≤ y ∧ y ≤ (tC T : Int) - 1
      · rw [show bI (0 ≤ y ∧ y ≤ (tC T : Int) - 1) = 1 from if_pos y1, if_pos (by omega)]
        exact L194 u o n0 (by omega) (by omega)
      · rw [show bI (0 ≤ y ∧ y ≤ (tC T : Int) - 1) = 0 from if_neg y1, T194_60, if_pos rfl]
        unfold entF
        by_cases g2 : -2 ≤ x ∧ x < (tR T : Int) ∧ 0 ≤ y ∧ y ≤ (tC T : Int) + 1
        · rw [if_pos g2, if_pos x2, if_neg (by omega)]
        · rw [if_neg g2]
    · rw [if_neg x2, Q151]
      simp only [Option.bind_some, Option.toList_some, List.cons_append, List.nil_append]
      rw [T194_54, n0, w32_p (by omega), Q150]
      simp only [Option.bind_some, Option.toList_some, List.cons_append, List.nil_append]
      by_cases y1 : 0 ≤ y ∧ y ≤ (tC T : Int) + 1
      · rw [show bI (0 ≤ y ∧ y ≤ (tC T : Int) + 1) = 1 from if_pos y1, if_pos (by omega)]
        exact L194 u o n0 (by omega) (by omega)
      · rw [show bI (0 ≤ y ∧ y ≤ (tC T : Int) + 1) = 0 from if_neg y1, T194_60, if_pos rfl, if_neg (by omega)]
  · rw [show bI (-2 ≤ x ∧ x ≤ (tR T : Int) - 1) = 0 from if_neg g1, if_pos rfl, if_neg (by omega)]
theorem Q98n {d L : Nat} {m : j_M0} {T : TB} {x y : Int} (hT : m 2 11 ≠ 0) (v : vC 41 T m) (o : tOK T) (n4 : m 4 0 = tC T) (g : ¬ (-2 ≤ x ∧ x < (tR T : Int) ∧ 0 ≤ y ∧ y ≤ (tC T : Int) + 1)) : c_call (d + 2) 98 [jR 2, jI x, jI y] (hH L m) = some (some (jL (-9223372036854775808)), hH L m) := by
  have o1 := o.1
  have o2 := o.2.2.1
  have c0 : m 41 0 = tR T := v.1
  rw [E98, T98_0, if_neg hT, c0, n4, w32_p (by omega)]
  clear c0 n4 hT
  by_cases g1 : x < -2
  · rw [if_pos g1]
  · rw [if_neg g1]
    by_cases g2 : x < (tR T : Int)
    · rw [if_pos g2]
      by_cases g3 : y < 0
      · rw [if_pos g3]
      · rw [if_neg g3, if_pos (by omega)]
    · rw [if_neg g2]
theorem PA98 {L : Nat} {xs : Nat → Int32} {m : j_M0} (w : Rel xs m) (x y : Int) : PA L xs 98 194 [jI x, jI y] m := by
  have n := Rel_n w
  rcases w.2.2.2.2.2.1 with ⟨t1, t2⟩ | ⟨t1, t2, s, T, U, t3⟩
  · exact PA_r w (v := jL (-9223372036854775808)) ((E98 (d := 9)).trans (by rw [T98_0, if_pos t1])) ((E194 (d := 9)).trans (by rw [T194_0, if_pos t2]))
  · have o := t3.1.1
    have tc := t3.1.2.1
    have n4 : m 4 0 = tC T := by omega
    have n0 : m 110 0 = tC T := by omega
    have q2 := Q194 (d := 8) (L := L) (m := m) (T := T) (x := x) (y := y) (by omega) t3.2.2.1 o n0
    by_cases g : -2 ≤ x ∧ x < (tR T : Int) ∧ 0 ≤ y ∧ y ≤ (tC T : Int) + 1
    · rw [if_pos g] at q2
      exact PA_r w (Q98 (d := 8) (by omega) t3.2.1 o n4 g) q2
    · rw [if_neg g] at q2
      exact PA_r w (Q98n (d := 8) (by omega) t3.2.1 o n4 g) q2
