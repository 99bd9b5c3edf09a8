/-! Tables, read. -/
/-- the first place from k on, of j, where p holds; -1 -/
def ff (p : Nat → Bool) : Nat → Nat → Int
  | 0, _ => -1
  | j + 1, k => if p k then (k : Int) else ff p j (k + 1)
theorem ff_b (p : Nat → Bool) (j k : Nat) : ff p j k = -1 ∨ ((k : Int) ≤ ff p j k ∧ ff p j k < ((k + j : Nat) : Int) ∧ p (ff p j k).toNat = true) := by
  induction j generalizing k with
  | zero => left; rfl
  | succ j ih =>
    unfold ff
    split
    · right
      refine ⟨by omega, by omega, by simpa using ‹_›⟩
    · rcases ih (k + 1) with h | ⟨h1, h2, h3⟩
      · exact Or.inl h
      · exact Or.inr ⟨by omega, by omega, h3⟩
def rowF (T : TB) (x : Int) : Int := ff (fun i => decide (tow T i = x)) (tR T) 0
def rightF (T : TB) (x : Int) : Int := if rowF T x < 0 then 0 else tri T (rowF T x).toNat
def colF (T : TB) (x : Int) : Int := ff (fun c => decide (tos T c = x)) (tC T) 0
def riseF (T : TB) (x : Int) : Int := if colF T x < 0 then 0 else trs T (colF T x).toNat
def partF (T : TB) : Int := ff (fun i => decide (tow T i < 10 ∧ tri T i % tD T ≠ 0)) (tR T) 0
def partP (T : TB) : Int := ff (fun p => decide (rightF T (p : Int) % tD T ≠ 0)) (tC T) 0
theorem rowF_b (T : TB) (x : Int) : -1 ≤ rowF T x ∧ rowF T x < (tR T : Int) := by
  have := ff_b (fun i => decide (tow T i = x)) (tR T) 0
  unfold rowF
  omega
theorem colF_b (T : TB) (x : Int) : -1 ≤ colF T x ∧ colF T x < (tC T : Int) := by
  have := ff_b (fun i => decide (tos T i = x)) (tC T) 0
  unfold colF
  omega
theorem partF_b (T : TB) : -1 ≤ partF T ∧ partF T < (tR T : Int) := by
  have := ff_b (fun i => decide (tow T i < 10 ∧ tri T i % tD T ≠ 0)) (tR T) 0
  unfold partF
  omega
theorem rightF_r {T : TB} (o : tOK T) (x : Int) : -1000000001 ≤ rightF T x ∧ rightF T x ≤ 1000000001 := by
  have h := rowF_b T x
  unfold rightF
  split
  · omega
  · exact o.2.2.2.2.2.2.2.2.2.1 _ (by omega)
theorem L47_41 {d : Nat} {L : j_B} {m : j_M0} {T : TB} (v : vC 41 T m) (o : tOK T) {r : Nat} (hr : r < tR T) : ∀ j k : Nat, k + j = tC T → j_fin (c_call (d + 1)) 47 4 [some (jR 41), some (jI r), some (jI (nearF T r k)), some (jI k)] [] (hH L m) = some (some (jI (nearF T r (tC T))), hH L m) := by
  have v0 := v.2.1
  have o1 := o.1
  have o2 := o.2.2.1
  intro j
  induction j with
  | zero =>
    intro k hk
    rw [T47_4_41, if_neg (by omega), show k = tC T by omega]
  | succ j ih =>
    intro k hk
    have ih' := ih (k + 1) (by omega)
    have hb := nearF_b T r k
    have h1 := v.2.2.2.2.2.2.2.1 r k hr (by omega)
    simp only [Nat.reduceAdd] at h1
    rw [T47_4_41, if_pos (by omega)]
    simp (disch := omega) only [w32_id, nat1, cmp_lt]
    rw [if_pos (by omega), show ((r : Int) * 5 + (k : Int)).toNat = 5 * r + k by omega]
    simp only [h1]
    rw [nearF] at ih'
    by_cases e1 : te T r k < 0
    · rw [if_pos e1]
      by_cases e2 : nearF T r k < 0
      · rw [if_pos e2]
        rw [if_pos ⟨e1, Or.inl e2⟩] at ih'
        exact ih'
      · rw [if_neg e2]
        obtain ⟨f, hf⟩ : ∃ f : Nat, nearF T r k = f := ⟨_, (Int.toNat_of_nonneg (by omega)).symm⟩
        rw [hf] at ih' hb ⊢
        rw [Q48_41 v o hr (by omega) (by omega)]
        simp only [Option.bind_some, Option.toList_some, List.cons_append, List.nil_append]
        rw [T47_41_41, nat1 (by omega)]
        simp only [bI_0, Int.toNat_natCast] at ih' ⊢
        grind
    · rw [if_neg e1]
      rw [if_neg (fun h => e1 h.1)] at ih'
      exact ih'
theorem Q47_41 {d : Nat} {L : j_B} {m : j_M0} {T : TB} (v : vC 41 T m) (o : tOK T) {r : Nat} (hr : r < tR T) : c_call (d + 2) 47 [jR 41, jI r] (hH L m) = some (some (jI (nearF T r (tC T))), hH L m) := by
  rw [E47, T47_0_41]
  exact L47_41 v o hr (tC T) 0 (by omega)
theorem Q43_41 {d : Nat} {L : j_B} {m : j_M0} {T : TB} (v : vC 41 T m) (o : tOK T) {x : Int} (h1 : -9223372036854775807 ≤ x) (h2 : x ≤ 9223372036854775807) : c_call (d + 2) 43 [jR 41, jL x] (hH L m) = some (some (jL (x % tD T)), hH L m) := by
  have o1 := o.2.2.2.2.1
  have o2 := o.2.2.2.2.2.1
  rw [E43, T43_0_41, v.2.2.2.2.1, if_pos (by rw [cmp_gt]; omega), Q266 h1 h2 (by omega) (by omega)]
  simp only [Option.bind_some, Option.toList_some, List.cons_append, List.nil_append, T43_17_41]
theorem Q44_41 {d : Nat} {L : j_B} {m : j_M0} {T : TB} (v : vC 41 T m) (o : tOK T) {x : Int} (h1 : -9223372036854775807 ≤ x) (h2 : x ≤ 9223372036854775807) : c_call (d + 2) 44 [jR 41, jL x] (hH L m) = some (some (jL (x / tD T)), hH L m) := by
  have o1 := o.2.2.2.2.1
  have o2 := o.2.2.2.2.2.1
  rw [E44, T44_0_41, v.2.2.2.2.1, if_pos (by rw [cmp_gt]; omega), Q265 h1 h2 (by omega) (by omega)]
  simp only [Option.bind_some, Option.toList_some, List.cons_append, List.nil_append, T44_17_41]
theorem L52_41 {C : Nat → List j_V → j_H → Option j_Z} {L : j_B} {m : j_M0} {T : TB} (v : vC 41 T m) (o : tOK T) {x : Int} : ∀ j k : Nat, k + j = tR T → j_fin C 52 2 [some (jR 41), some (jI x), some (jI k)] [] (hH L m) = some (some (jI (ff (fun i => decide (tow T i = x)) j k)), hH L m) := by
  have v0 := v.1
  have o1 := o.1
  intro j
  induction j with
  | zero =>
    intro k hk
    rw [T52_2_41, if_neg (by omega)]
    rfl
  | succ j ih =>
    intro k hk
    have ih' := ih (k + 1) (by omega)
    have h1 := v.2.2.2.2.2.1 k (by omega)
    simp only [Nat.reduceAdd] at h1
    rw [T52_2_41, if_pos (by omega), if_pos (by omega), nat1 (by omega), Int.toNat_natCast, h1, ff]
    grind
theorem Q52_41 {d : Nat} {L : j_B} {m : j_M0} {T : TB} (v : vC 41 T m) (o : tOK T) {x : Int} : c_call (d + 1) 52 [jR 41, jI x] (hH L m) = some (some (jI (rowF T x)), hH L m) := by
  rw [E52, T52_0_41]
  exact L52_41 v o (tR T) 0 (by omega)
theorem Q53_41 {d : Nat} {L : j_B} {m : j_M0} {T : TB} (v : vC 41 T m) (o : tOK T) {x : Int} : c_call (d + 2) 53 [jR 41, jI x] (hH L m) = some (some (jL (rightF T x)), hH L m) := by
  have h := rowF_b T x
  have o1 := o.1
  rw [E53, T53_0_41, Q52_41 v o]
  simp only [Option.bind_some, Option.toList_some, List.cons_append, List.nil_append, T53_5_41]
  unfold rightF
  split
  · rfl
  · have h1 := v.2.2.2.2.2.2.2.2.1 (rowF T x).toNat (by omega)
    simp only [Nat.reduceAdd] at h1
    rw [if_pos (by omega), h1]
theorem L47_55 {d : Nat} {L : j_B} {m : j_M0} {T : TB} (v : vC 55 T m) (o : tOK T) {r : Nat} (hr : r < tR T) : ∀ j k : Nat, k + j = tC T → j_fin (c_call (d + 1)) 47 4 [some (jR 55), some (jI r), some (jI (nearF T r k)), some (jI k)] [] (hH L m) = some (some (jI (nearF T r (tC T))), hH L m) := by
  have v0 := v.2.1
  have o1 := o.1
  have o2 := o.2.2.1
  intro j
  induction j with
  | zero =>
    intro k hk
    rw [T47_4_55, if_neg (by omega), show k = tC T by omega]
  | succ j ih =>
    intro k hk
    have ih' := ih (k + 1) (by omega)
    have hb := nearF_b T r k
    have h1 := v.2.2.2.2.2.2.2.1 r k hr (by omega)
    simp only [Nat.reduceAdd] at h1
    rw [T47_4_55, if_pos (by omega)]
    simp (disch := omega) only [w32_id, nat1, cmp_lt]
    rw [if_pos (by omega), show ((r : Int) * 5 + (k : Int)).toNat = 5 * r + k by omega]
    simp only [h1]
    rw [nearF] at ih'
    by_cases e1 : te T r k < 0
    · rw [if_pos e1]
      by_cases e2 : nearF T r k < 0
      · rw [if_pos e2]
        rw [if_pos ⟨e1, Or.inl e2⟩] at ih'
        exact ih'
      · rw [if_neg e2]
        obtain ⟨f, hf⟩ : ∃ f : Nat, nearF T r k = f := ⟨_, (Int.toNat_of_nonneg (by omega)).symm⟩
        rw [hf] at ih' hb ⊢
        rw [Q48_55 v o hr (by omega) (by omega)]
        simp only [Option.bind_some, Option.toList_some, List.cons_append, List.nil_append]
        rw [T47_41_55, nat1 (by omega)]
        simp only [bI_0, Int.toNat_natCast] at ih' ⊢
        grind
    · rw [if_neg e1]
      rw [if_neg (fun h => e1 h.1)] at ih'
      exact ih'
theorem Q47_55 {d : Nat} {L : j_B} {m : j_M0} {T : TB} (v : vC 55 T m) (o : tOK T) {r : Nat} (hr : r < tR T) : c_call (d + 2) 47 [jR 55, jI r] (hH L m) = some (some (jI (nearF T r (tC T))), hH L m) := by
  rw [E47, T47_0_55]
  exact L47_55 v o hr (tC T) 0 (by omega)
theorem Q43_55 {d : Nat} {L : j_B} {m : j_M0} {T : TB} (v : vC 55 T m) (o : tOK T) {x : Int} (h1 : -9223372036854775807 ≤ x) (h2 : x ≤ 9223372036854775807) : c_call (d + 2) 43 [jR 55, jL x] (hH L m) = some (some (jL (x % tD T)), hH L m) := by
  have o1 := o.2.2.2.2.1
  have o2 := o.2.2.2.2.2.1
  rw [E43, T43_0_55, v.2.2.2.2.1, if_pos (by rw [cmp_gt]; omega), Q266 h1 h2 (by omega) (by omega)]
  simp only [Option.bind_some, Option.toList_some, List.cons_append, List.nil_append, T43_17_55]
theorem Q44_55 {d : Nat} {L : j_B} {m : j_M0} {T : TB} (v : vC 55 T m) (o : tOK T) {x : Int} (h1 : -9223372036854775807 ≤ x) (h2 : x ≤ 9223372036854775807) : c_call (d + 2) 44 [jR 55, jL x] (hH L m) = some (some (jL (x / tD T)), hH L m) := by
  have o1 := o.2.2.2.2.1
  have o2 := o.2.2.2.2.2.1
  rw [E44, T44_0_55, v.2.2.2.2.1, if_pos (by rw [cmp_gt]; omega), Q265 h1 h2 (by omega) (by omega)]
  simp only [Option.bind_some, Option.toList_some, List.cons_append, List.nil_append, T44_17_55]
theorem L52_55 {C : Nat → List j_V → j_H → Option j_Z} {L : j_B} {m : j_M0} {T : TB} (v : vC 55 T m) (o : tOK T) {x : Int} : ∀ j k : Nat, k + j = tR T → j_fin C 52 2 [some (jR 55), some (jI x), some (jI k)] [] (hH L m) = some (some (jI (ff (fun i => decide (tow T i = x)) j k)), hH L m) := by
  have v0 := v.1
  have o1 := o.1
  intro j
  induction j with
  | zero =>
    intro k hk
    rw [T52_2_55, if_neg (by omega)]
    rfl
  | succ j ih =>
    intro k hk
    have ih' := ih (k + 1) (by omega)
    have h1 := v.2.2.2.2.2.1 k (by omega)
    simp only [Nat.reduceAdd] at h1
    rw [T52_2_55, if_pos (by omega), if_pos (by omega), nat1 (by omega), Int.toNat_natCast, h1, ff]
    grind
theorem Q52_55 {d : Nat} {L : j_B} {m : j_M0} {T : TB} (v : vC 55 T m) (o : tOK T) {x : Int} : c_call (d + 1) 52 [jR 55, jI x] (hH L m) = some (some (jI (rowF T x)), hH L m) := by
  rw [E52, T52_0_55]
  exact L52_55 v o (tR T) 0 (by omega)
theorem Q53_55 {d : Nat} {L : j_B} {m : j_M0} {T : TB} (v : vC 55 T m) (o : tOK T) {x : Int} : c_call (d + 2) 53 [jR 55, jI x] (hH L m) = some (some (jL (rightF T x)), hH L m) := by
  have h := rowF_b T x
  have o1 := o.1
  rw [E53, T53_0_55, Q52_55 v o]
  simp only [Option.bind_some, Option.toList_some, List.cons_append, List.nil_append, T53_5_55]
  unfold rightF
  split
  · rfl
  · have h1 := v.2.2.2.2.2.2.2.2.1 (rowF T x).toNat (by omega)
    simp only [Nat.reduceAdd] at h1
    rw [if_pos (by omega), h1]
theorem Q54_55 {d : Nat} {L : j_B} {m : j_M0} {T : TB} (v : vC 55 T m) (o : tOK T) {x : Int} : c_call (d + 3) 54 [jR 55, jI x] (hH L m) = some (some (jL (rightF T x / tD T)), hH L m) := by
  have h := rightF_r o x
  rw [E54, T54_0_55, Q53_55 v o]
  simp only [Option.bind_some, Option.toList_some, List.cons_append, List.nil_append, T54_6_55]
  rw [Q44_55 v o (by omega) (by omega)]
  simp only [Option.bind_some, Option.toList_some, List.cons_append, List.nil_append, T54_9_55]
theorem L56_41 {d : Nat} {L : j_B} {m : j_M0} {T : TB} (v : vC 41 T m) (o : tOK T) : ∀ j k : Nat, k + j = tR T → j_fin (c_call (d + 2)) 56 2 [some (jR 41), some (jI k)] [] (hH L m) = some (some (jI (ff (fun i => decide (tow T i < 10 ∧ tri T i % tD T ≠ 0)) j k)), hH L m) := by
  have v0 := v.1
  have o1 := o.1
  intro j
  induction j with
  | zero =>
    intro k hk
    rw [T56_2_41, if_neg (by omega)]
    rfl
  | succ j ih =>
    intro k hk
    have ih' := ih (k + 1) (by omega)
    have h1 := v.2.2.2.2.2.1 k (by omega)
    have h2 := v.2.2.2.2.2.2.2.2.1 k (by omega)
    have h3 := o.2.2.2.2.2.2.2.2.2.1 k (by omega)
    simp only [Nat.reduceAdd] at h1 h2
    rw [T56_2_41, if_pos (by omega), if_pos (by omega), nat1 (by omega), Int.toNat_natCast, h1, h2, ff]
    simp (disch := omega) only [eq_true (show (0 : Int) ≤ k ∧ (k : Int) < 20 by omega), if_true, Q43_41 v o, Option.bind_some, Option.toList_some, List.cons_append, List.nil_append, T56_31_41, cmp_eq, nat1]
    grind
theorem Q56_41 {d : Nat} {L : j_B} {m : j_M0} {T : TB} (v : vC 41 T m) (o : tOK T) : c_call (d + 3) 56 [jR 41] (hH L m) = some (some (jI (partF T)), hH L m) := by
  rw [E56, T56_0_41]
  exact L56_41 v o (tR T) 0 (by omega)
theorem L56_55 {d : Nat} {L : j_B} {m : j_M0} {T : TB} (v : vC 55 T m) (o : tOK T) : ∀ j k : Nat, k + j = tR T → j_fin (c_call (d + 2)) 56 2 [some (jR 55), some (jI k)] [] (hH L m) = some (some (jI (ff (fun i => decide (tow T i < 10 ∧ tri T i % tD T ≠ 0)) j k)), hH L m) := by
  have v0 := v.1
  have o1 := o.1
  intro j
  induction j with
  | zero =>
    intro k hk
    rw [T56_2_55, if_neg (by omega)]
    rfl
  | succ j ih =>
    intro k hk
    have ih' := ih (k + 1) (by omega)
    have h1 := v.2.2.2.2.2.1 k (by omega)
    have h2 := v.2.2.2.2.2.2.2.2.1 k (by omega)
    have h3 := o.2.2.2.2.2.2.2.2.2.1 k (by omega)
    simp only [Nat.reduceAdd] at h1 h2
    rw [T56_2_55, if_pos (by omega), if_pos (by omega), nat1 (by omega), Int.toNat_natCast, h1, h2, ff]
    simp (disch := omega) only [eq_true (show (0 : Int) ≤ k ∧ (k : Int) < 20 by omega), if_true, Q43_55 v o, Option.bind_some, Option.toList_some, List.cons_append, List.nil_append, T56_31_55, cmp_eq, nat1]
    grind
theorem Q56_55 {d : Nat} {L : j_B} {m : j_M0} {T : TB} (v : vC 55 T m) (o : tOK T) : c_call (d + 3) 56 [jR 55] (hH L m) = some (some (jI (partF T)), hH L m) := by
  rw [E56, T56_0_55]
  exact L56_55 v o (tR T) 0 (by omega)
