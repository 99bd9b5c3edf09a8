/-! The model's repair; what reads its tables. -/
theorem L182_115 {C : Nat → List j_V → j_H → Option j_Z} {L : Nat} {m : j_M0} {T : TB} (v : vM 115 T m) (o : tOK T) {r : Nat} (hr : r < tR T) : ∀ j k : Nat, k + j = tC T → ∀ (o5 o7 : Option j_V), j_fin C 182 5 [some (jR 109), some (jR 115), some (jI r), some (jI (nearF T r k)), some (jI k), o5, none, o7, none] [] (hH L m) = some (some (jI (nearF T r (tC T))), hH L m) := by
  have v0 := v.2.1
  have o1 := o.1
  have o2 := o.2.2.1
  intro j
  induction j with
  | zero =>
    intro k hk o5 o7
    rw [T182_5_109_115, if_neg (by omega), show k = tC T by omega]
  | succ j ih =>
    intro k hk o5 o7
    have ih' := ih (k + 1) (by omega)
    have hb := nearF_b T r k
    have h1 := v.2.2.2.2.2.2.2.1 r k hr (by omega)
    have r1 := o.2.2.2.2.2.2.2.2.1 r k hr (by omega)
    simp only [Nat.reduceAdd] at h1
    have hm1 : ((-1 : Int) < 0) = True := by decide
    rw [T182_5_109_115, if_pos (by omega)]
    simp (maxSteps := 2000000) (disch := omega) only [w32_id, nat1, cmp_lt, cmp_gt, cmp_eq, show (5 * (r : Int) + (k : Int)).toNat = 5 * r + k by omega, h1, hm1, if_true, eq_true (show (0 : Int) ≤ 5 * (r : Int) + k ∧ 5 * (r : Int) + k < 100 by omega), w64_id (x := -te T r k)]
    rw [nearF] at ih'
    by_cases e1 : te T r k < 0
    · rw [if_pos (by omega)]
      by_cases e2 : nearF T r k < 0
      · rw [if_pos e2]
        rw [if_pos ⟨e1, Or.inl e2⟩] at ih'
        exact ih' _ _
      · rw [if_neg e2]
        obtain ⟨f, hf⟩ : ∃ f : Nat, nearF T r k = f := ⟨_, (Int.toNat_of_nonneg (by omega)).symm⟩
        rw [hf] at ih' hb ⊢
        have h2 := v.2.2.2.2.2.2.2.1 r f hr (by omega)
        have h3 := v.2.2.2.2.2.2.2.2.2 k (by omega)
        have h4 := v.2.2.2.2.2.2.2.2.2 f (by omega)
        have h5 := v.2.2.2.2.2.2.1 k (by omega)
        have h6 := v.2.2.2.2.2.2.1 f (by omega)
        have r2 := o.2.2.2.2.2.2.2.2.1 r f hr (by omega)
        have r3 := o.2.2.2.2.2.2.2.2.2.2.1 k (by omega)
        have r4 := o.2.2.2.2.2.2.2.2.2.2.1 f (by omega)
        have p1 := mul_r (x := trs T k) (y := -(te T r f)) (a := 1000000000) (b := 1000000000) (by omega) (by omega) (by omega) (by omega)
        have p2 := mul_r (x := trs T f) (y := -(te T r k)) (a := 1000000000) (b := 1000000000) (by omega) (by omega) (by omega) (by omega)
        simp only [Nat.reduceAdd] at h2 h3 h4 h5 h6
        simp (disch := omega) only [w32_id, show (5 * (r : Int) + (f : Int)).toNat = 5 * r + f by omega, Int.toNat_natCast, h2, h3, h4, h5, h6, w64_id]
        simp only [Int.toNat_natCast] at ih'
        rw [if_pos (by omega), if_pos (by omega), if_pos (by omega)]
        by_cases e3 : trs T k * -te T r f - trs T f * -te T r k < 0
        · rw [if_pos e3]
          rw [if_pos ⟨e1, Or.inr (Or.inl (by omega))⟩] at ih'
          exact ih' _ _
        · rw [if_neg e3]
          by_cases e4 : trs T k * -te T r f - trs T f * -te T r k = 0
          · rw [if_pos e4, if_pos (by omega), if_pos (by omega)]
            by_cases e5 : tos T k < tos T f
            · rw [if_pos e5]
              rw [if_pos ⟨e1, Or.inr (Or.inr ⟨by omega, e5⟩)⟩] at ih'
              exact ih' _ _
            · rw [if_neg e5]
              rw [if_neg (by intro h; rcases h.2 with h | h | h <;> omega)] at ih'
              exact ih' _ _
          · rw [if_neg e4]
            rw [if_neg (by intro h; rcases h.2 with h | h | h <;> omega)] at ih'
            exact ih' _ _
    · rw [if_neg (by omega)]
      rw [if_neg (fun h => e1 h.1)] at ih'
      exact ih' _ _
theorem Q182_115 {d L : Nat} {m : j_M0} {T : TB} (v : vM 115 T m) (o : tOK T) {r : Nat} (hr : r < tR T) : c_call (d + 1) 182 [jR 109, jR 115, jI r] (hH L m) = some (some (jI (nearF T r (tC T))), hH L m) := by
  rw [E182, T182_0_109_115]
  exact L182_115 v o hr (tC T) 0 (by omega) none none
theorem L183_115 {C : Nat → List j_V → j_H → Option j_Z} {L : Nat} {m : j_M0} {T : TB} (v : vM 115 T m) (o : tR T ≤ 20) : ∀ j k : Nat, k + j = tR T → j_fin C 183 4 [some (jR 109), some (jR 115), some (jI (lowF T k)), some (jI k)] [] (hH L m) = j_fin C 183 4 [some (jR 109), some (jR 115), some (jI (lowF T (tR T))), some (jI (tR T))] [] (hH L m) := by
  have v0 := v.1
  intro j
  induction j with
  | zero =>
    intro k hk
    rw [show k = tR T by omega]
  | succ j ih =>
    intro k hk
    have ih' := ih (k + 1) (by omega)
    have hb := lowF_b T k
    have h1 := v.2.2.2.2.2.2.2.2.1 k (by omega)
    have h2 : 0 ≤ lowF T k → m (115 + 2) (lowF T k).toNat = tri T (lowF T k).toNat := fun h => v.2.2.2.2.2.2.2.2.1 _ (by omega)
    simp only [Nat.reduceAdd] at h1 h2
    rw [T183_4_109_115, if_pos (by omega), if_pos (by omega), nat1 (by omega), Int.toNat_natCast, h1]
    simp only [cmp_lt]
    rw [lowF] at ih'
    grind
theorem M183_115 {d L : Nat} : ∀ f : Nat, ∀ (T : TB) (m : j_M0) (o2 o3 : Option j_V), vM 115 T m → tOK T → 61 ≤ tP T + f → ∃ m', j_fin (c_call (d + 3)) 183 0 [some (jR 109), some (jR 115), o2, o3] [] (hH L m) = some (some (jI (repM (repF f T).1)), hH L m') ∧ kpt (fun b z => 115 ≤ b ∧ b ≤ 123 ∧ (b = 115 → z = 12 ∨ z = 13 ∨ z = 17)) m m' ∧ vM 115 (repF f T).2 m' := by
  intro f
  induction f with
  | zero =>
    intro T m o2 o3 v o h
    have := o.2.2.2.1
    omega
  | succ f ih =>
    intro T m o2 o3 v o hf
    have b1 := lowF_b T (tR T)
    have k2 := v.2.2.1
    have k0 := v.1
    have oP := o.2.2.2.1
    rw [T183_0_109_115, show (some (jI 0) : Option j_V) = some (jI ((0 : Nat) : Int)) from rfl, show (-1 : Int) = lowF T 0 from rfl, L183_115 v o.1 (tR T) 0 (by omega), T183_4_109_115, if_neg (by omega)]
    unfold repF
    by_cases e1 : lowF T (tR T) < 0
    · rw [if_pos e1, if_pos e1]
      exact ⟨m, rfl, kpt_rfl, v⟩
    · rw [if_neg e1, if_neg e1]
      obtain ⟨r, hr⟩ : ∃ r : Nat, lowF T (tR T) = r := ⟨_, (Int.toNat_of_nonneg (by omega)).symm⟩
      rw [hr] at b1 ⊢
      rw [Int.toNat_natCast, Q182_115 v o (by omega)]
      simp only [Option.bind_some, Option.toList_some, List.cons_append, List.nil_append]
      rw [T183_63_109_115]
      by_cases e2 : nearF T r (tC T) < 0
      · rw [if_pos e2, if_pos e2]
        exact ⟨m, rfl, kpt_rfl, v⟩
      · rw [if_neg e2, if_neg e2]
        have b2 := nearF_b T r (tC T)
        have b3 := nearF_p (T := T) (r := r) (tC T) (by omega)
        have b4 := (lowF_p (T := T) (tR T)).1
        obtain ⟨c, hc⟩ : ∃ c : Nat, nearF T r (tC T) = c := ⟨_, (Int.toNat_of_nonneg (by omega)).symm⟩
        rw [hc] at b2 b3 ⊢
        rw [hr] at b4
        simp only [Int.toNat_natCast] at b3 b4 ⊢
        by_cases e3 : tP T < 60
        · rw [if_neg (by omega)]
          obtain ⟨s, m', g1, g2, g3⟩ := Q181_115 (d := d) (L := L) v o (show r < tR T by omega) (show c < tC T by omega)
          rw [g1]
          simp only [Option.bind_some, Option.toList_some, List.cons_append, List.nil_append]
          rw [T183_86_109_115]
          rcases g3 with ⟨rfl, n1, n2⟩ | ⟨rfl, n1, n2⟩
          · rw [if_neg (by omega), if_pos ⟨e3, n1⟩]
            obtain ⟨m2, q1, q2, q3⟩ := ih (pivF T r c) m' (some (jI r)) (some (jI c)) n2 (pivF_ok o (by omega) (by omega) (b4 (by omega)) b3.1 b3.2 e3 n1) (by
              have : tP (pivF T r c) = tP T + 1 := rfl
              omega)
            exact ⟨m2, q1, kpt_tr g2 q2, q3⟩
          · rw [if_pos rfl, if_neg (fun h => by rw [n1] at h; cases h.2)]
            exact ⟨m', rfl, g2, n2⟩
        · rw [if_pos (by omega), if_neg (fun h => e3 h.1)]
          exact ⟨m, rfl, kpt_rfl, v⟩
theorem Q183_115 {d L : Nat} {T : TB} {m : j_M0} (v : vM 115 T m) (o : tOK T) : ∃ m', c_call (d + 4) 183 [jR 109, jR 115] (hH L m) = some (some (jI (repM (repF 61 T).1)), hH L m') ∧ kpt (fun b z => 115 ≤ b ∧ b ≤ 123 ∧ (b = 115 → z = 12 ∨ z = 13 ∨ z = 17)) m m' ∧ vM 115 (repF 61 T).2 m' := by
  rw [E183]
  exact M183_115 61 T m none none v o (by omega)
theorem L184_115 {C : Nat → List j_V → j_H → Option j_Z} {L : Nat} {m : j_M0} {T : TB} (v : vM 115 T m) (o : tOK T) {x : Int} : ∀ j k : Nat, k + j = tR T → j_fin C 184 2 [some (jR 109), some (jR 115), some (jI x), some (jI k)] [] (hH L m) = some (some (jI (ff (fun i => decide (tow T i = x)) j k)), hH L m) := by
  have v0 := v.1
  have o1 := o.1
  intro j
  induction j with
  | zero =>
    intro k hk
    rw [T184_2_109_115, if_neg (by omega)]
    rfl
  | succ j ih =>
    intro k hk
    have ih' := ih (k + 1) (by omega)
    have h1 := v.2.2.2.2.2.1 k (by omega)
    simp only [Nat.reduceAdd] at h1
    rw [T184_2_109_115, if_pos (by omega), if_pos (by omega), nat1 (by omega), Int.toNat_natCast, h1, ff]
    grind
theorem Q184_115 {d L : Nat} {m : j_M0} {T : TB} (v : vM 115 T m) (o : tOK T) {x : Int} : c_call (d + 1) 184 [jR 109, jR 115, jI x] (hH L m) = some (some (jI (rowF T x)), hH L m) := by
  rw [E184, T184_0_109_115]
  exact L184_115 v o (tR T) 0 (by omega)
theorem Q197_115 {d L : Nat} {m : j_M0} {T : TB} (v : vM 115 T m) (o : tOK T) {x : Int} : c_call (d + 2) 197 [jR 109, jR 115, jI x] (hH L m) = some (some (jL (rightF T x)), hH L m) := by
  have h := rowF_b T x
  have o1 := o.1
  rw [E197, T197_0_109_115, Q184_115 v o]
  simp only [Option.bind_some, Option.toList_some, List.cons_append, List.nil_append, T197_6_109_115]
  unfold rightF
  split
  · rfl
  · have h1 := v.2.2.2.2.2.2.2.2.1 (rowF T x).toNat (by omega)
    simp only [Nat.reduceAdd] at h1
    rw [if_pos (by omega), h1]
theorem L185_115 {C : Nat → List j_V → j_H → Option j_Z} {L : Nat} {m : j_M0} {T : TB} (v : vM 115 T m) (o : tOK T) : ∀ j k : Nat, k + j = tR T → j_fin C 185 2 [some (jR 109), some (jR 115), some (jI k)] [] (hH L m) = some (some (jI (ff (fun i => decide (tow T i < 10 ∧ tri T i % tD T ≠ 0)) j k)), hH L m) := by
  have v0 := v.1
  have o1 := o.1
  have o2 := o.2.2.2.2.1
  have v2 := v.2.2.2.2.1
  intro j
  induction j with
  | zero =>
    intro k hk
    rw [T185_2_109_115, if_neg (by omega)]
    rfl
  | succ j ih =>
    intro k hk
    have ih' := ih (k + 1) (by omega)
    have h1 := v.2.2.2.2.2.1 k (by omega)
    have h2 := v.2.2.2.2.2.2.2.2.1 k (by omega)
    simp only [Nat.reduceAdd] at h1 h2
    rw [T185_2_109_115, if_pos (by omega), if_pos (by omega), nat1 (by omega), Int.toNat_natCast, h1, h2, v2, ff]
    simp only [cmp_eq, tm_0 (show 0 < tD T by omega)]
    grind
theorem Q185_115 {d L : Nat} {m : j_M0} {T : TB} (v : vM 115 T m) (o : tOK T) : c_call (d + 1) 185 [jR 109, jR 115] (hH L m) = some (some (jI (partF T)), hH L m) := by
  rw [E185, T185_0_109_115]
  exact L185_115 v o (tR T) 0 (by omega)
theorem L182_128 {C : Nat → List j_V → j_H → Option j_Z} {L : Nat} {m : j_M0} {T : TB} (v : vM 128 T m) (o : tOK T) {r : Nat} (hr : r < tR T) : ∀ j k : Nat, k + j = tC T → ∀ (o5 o7 : Option j_V), j_fin C 182 5 [some (jR 109), some (jR 128), some (jI r), some (jI (nearF T r k)), some (jI k), o5, none, o7, none] [] (hH L m) = some (some (jI (nearF T r (tC T))), hH L m) := by
  have v0 := v.2.1
  have o1 := o.1
  have o2 := o.2.2.1
  intro j
  induction j with
  | zero =>
    intro k hk o5 o7
    rw [T182_5_109_128, if_neg (by omega), show k = tC T by omega]
  | succ j ih =>
    intro k hk o5 o7
    have ih' := ih (k + 1) (by omega)
    have hb := nearF_b T r k
    have h1 := v.2.2.2.2.2.2.2.1 r k hr (by omega)
    have r1 := o.2.2.2.2.2.2.2.2.1 r k hr (by omega)
    simp only [Nat.reduceAdd] at h1
    have hm1 : ((-1 : Int) < 0) = True := by decide
    rw [T182_5_109_128, if_pos (by omega)]
    simp (maxSteps := 2000000) (disch := omega) only [w32_id, nat1, cmp_lt, cmp_gt, cmp_eq, show (5 * (r : Int) + (k : Int)).toNat = 5 * r + k by omega, h1, hm1, if_true, eq_true (show (0 : Int) ≤ 5 * (r : Int) + k ∧ 5 * (r : Int) + k < 100 by omega), w64_id (x := -te T r k)]
    rw [nearF] at ih'
    by_cases e1 : te T r k < 0
    · rw [if_pos (by omega)]
      by_cases e2 : nearF T r k < 0
      · rw [if_pos e2]
        rw [if_pos ⟨e1, Or.inl e2⟩] at ih'
        exact ih' _ _
      · rw [if_neg e2]
        obtain ⟨f, hf⟩ : ∃ f : Nat, nearF T r k = f := ⟨_, (Int.toNat_of_nonneg (by omega)).symm⟩
        rw [hf] at ih' hb ⊢
        have h2 := v.2.2.2.2.2.2.2.1 r f hr (by omega)
        have h3 := v.2.2.2.2.2.2.2.2.2 k (by omega)
        have h4 := v.2.2.2.2.2.2.2.2.2 f (by omega)
        have h5 := v.2.2.2.2.2.2.1 k (by omega)
        have h6 := v.2.2.2.2.2.2.1 f (by omega)
        have r2 := o.2.2.2.2.2.2.2.2.1 r f hr (by omega)
        have r3 := o.2.2.2.2.2.2.2.2.2.2.1 k (by omega)
        have r4 := o.2.2.2.2.2.2.2.2.2.2.1 f (by omega)
        have p1 := mul_r (x := trs T k) (y := -(te T r f)) (a := 1000000000) (b := 1000000000) (by omega) (by omega) (by omega) (by omega)
        have p2 := mul_r (x := trs T f) (y := -(te T r k)) (a := 1000000000) (b := 1000000000) (by omega) (by omega) (by omega) (by omega)
        simp only [Nat.reduceAdd] at h2 h3 h4 h5 h6
        simp (disch := omega) only [w32_id, show (5 * (r : Int) + (f : Int)).toNat = 5 * r + f by omega, Int.toNat_natCast, h2, h3, h4, h5, h6, w64_id]
        simp only [Int.toNat_natCast] at ih'
        rw [if_pos (by omega), if_pos (by omega), if_pos (by omega)]
        by_cases e3 : trs T k * -te T r f - trs T f * -te T r k < 0
        · rw [if_pos e3]
          rw [if_pos ⟨e1, Or.inr (Or.inl (by omega))⟩] at ih'
          exact ih' _ _
        · rw [if_neg e3]
          by_cases e4 : trs T k * -te T r f - trs T f * -te T r k = 0
          · rw [if_pos e4, if_pos (by omega), if_pos (by omega)]
            by_cases e5 : tos T k < tos T f
            · rw [if_pos e5]
              rw [if_pos ⟨e1, Or.inr (Or.inr ⟨by omega, e5⟩)⟩] at ih'
              exact ih' _ _
            · rw [if_neg e5]
              rw [if_neg (by intro h; rcases h.2 with h | h | h <;> omega)] at ih'
              exact ih' _ _
          · rw [if_neg e4]
            rw [if_neg (by intro h; rcases h.2 with h | h | h <;> omega)] at ih'
            exact ih' _ _
    · rw [if_neg (by omega)]
      rw [if_neg (fun h => e1 h.1)] at ih'
      exact ih' _ _
theorem Q182_128 {d L : Nat} {m : j_M0} {T : TB} (v : vM 128 T m) (o : tOK T) {r : Nat} (hr : r < tR T) : c_call (d + 1) 182 [jR 109, jR 128, jI r] (hH L m) = some (some (jI (nearF T r (tC T))), hH L m) := by
  rw [E182, T182_0_109_128]
  exact L182_128 v o hr (tC T) 0 (by omega) none none
theorem L183_128 {C : Nat → List j_V → j_H → Option j_Z} {L : Nat} {m : j_M0} {T : TB} (v : vM 128 T m) (o : tR T ≤ 20) : ∀ j k : Nat, k + j = tR T → j_fin C 183 4 [some (jR 109), some (jR 128), some (jI (lowF T k)), some (jI k)] [] (hH L m) = j_fin C 183 4 [some (jR 109), some (jR 128), some (jI (lowF T (tR T))), some (jI (tR T))] [] (hH L m) := by
  have v0 := v.1
  intro j
  induction j with
  | zero =>
    intro k hk
    rw [show k = tR T by omega]
  | succ j ih =>
    intro k hk
    have ih' := ih (k + 1) (by omega)
    have hb := lowF_b T k
    have h1 := v.2.2.2.2.2.2.2.2.1 k (by omega)
    have h2 : 0 ≤ lowF T k → m (128 + 2) (lowF T k).toNat = tri T (lowF T k).toNat := fun h => v.2.2.2.2.2.2.2.2.1 _ (by omega)
    simp only [Nat.reduceAdd] at h1 h2
    rw [T183_4_109_128, if_pos (by omega), if_pos (by omega), nat1 (by omega), Int.toNat_natCast, h1]
    simp only [cmp_lt]
    rw [lowF] at ih'
    grind
theorem M183_128 {d L : Nat} : ∀ f : Nat, ∀ (T : TB) (m : j_M0) (o2 o3 : Option j_V), vM 128 T m → tOK T → 61 ≤ tP T + f → ∃ m', j_fin (c_call (d + 3)) 183 0 [some (jR 109), some (jR 128), o2, o3] [] (hH L m) = some (some (jI (repM (repF f T).1)), hH L m') ∧ kpt (fun b z => 128 ≤ b ∧ b ≤ 136 ∧ (b = 128 → z = 12 ∨ z = 13 ∨ z = 17)) m m' ∧ vM 128 (repF f T).2 m' := by
  intro f
  induction f with
  | zero =>
    intro T m o2 o3 v o h
    have := o.2.2.2.1
    omega
  | succ f ih =>
    intro T m o2 o3 v o hf
    have b1 := lowF_b T (tR T)
    have k2 := v.2.2.1
    have k0 := v.1
    have oP := o.2.2.2.1
    rw [T183_0_109_128, show (some (jI 0) : Option j_V) = some (jI ((0 : Nat) : Int)) from rfl, show (-1 : Int) = lowF T 0 from rfl, L183_128 v o.1 (tR T) 0 (by omega), T183_4_109_128, if_neg (by omega)]
    unfold repF
    by_cases e1 : lowF T (tR T) < 0
    · rw [if_pos e1, if_pos e1]
      exact ⟨m, rfl, kpt_rfl, v⟩
    · rw [if_neg e1, if_neg e1]
      obtain ⟨r, hr⟩ : ∃ r : Nat, lowF T (tR T) = r := ⟨_, (Int.toNat_of_nonneg (by omega)).symm⟩
      rw [hr] at b1 ⊢
      rw [Int.toNat_natCast, Q182_128 v o (by omega)]
      simp only [Option.bind_some, Option.toList_some, List.cons_append, List.nil_append]
      rw [T183_63_109_128]
      by_cases e2 : nearF T r (tC T) < 0
      · rw [if_pos e2, if_pos e2]
        exact ⟨m, rfl, kpt_rfl, v⟩
      · rw [if_neg e2, if_neg e2]
        have b2 := nearF_b T r (tC T)
        have b3 := nearF_p (T := T) (r := r) (tC T) (by omega)
        have b4 := (lowF_p (T := T) (tR T)).1
        obtain ⟨c, hc⟩ : ∃ c : Nat, nearF T r (tC T) = c := ⟨_, (Int.toNat_of_nonneg (by omega)).symm⟩
        rw [hc] at b2 b3 ⊢
        rw [hr] at b4
        simp only [Int.toNat_natCast] at b3 b4 ⊢
        by_cases e3 : tP T < 60
        · rw [if_neg (by omega)]
          obtain ⟨s, m', g1, g2, g3⟩ := Q181_128 (d := d) (L := L) v o (show r < tR T by omega) (show c < tC T by omega)
          rw [g1]
          simp only [Option.bind_some, Option.toList_some, List.cons_append, List.nil_append]
          rw [T183_86_109_128]
          rcases g3 with ⟨rfl, n1, n2⟩ | ⟨rfl, n1, n2⟩
          · rw [if_neg (by omega), if_pos ⟨e3, n1⟩]
            obtain ⟨m2, q1, q2, q3⟩ := ih (pivF T r c) m' (some (jI r)) (some (jI c)) n2 (pivF_ok o (by omega) (by omega) (b4 (by omega)) b3.1 b3.2 e3 n1) (by
              have : tP (pivF T r c) = tP T + 1 := rfl
              omega)
            exact ⟨m2, q1, kpt_tr g2 q2, q3⟩
          · rw [if_pos rfl, if_neg (fun h => by rw [n1] at h; cases h.2)]
            exact ⟨m', rfl, g2, n2⟩
        · rw [if_pos (by omega), if_neg (fun h => e3 h.1)]
          exact ⟨m, rfl, kpt_rfl, v⟩
theorem Q183_128 {d L : Nat} {T : TB} {m : j_M0} (v : vM 128 T m) (o : tOK T) : ∃ m', c_call (d + 4) 183 [jR 109, jR 128] (hH L m) = some (some (jI (repM (repF 61 T).1)), hH L m') ∧ kpt (fun b z => 128 ≤ b ∧ b ≤ 136 ∧ (b = 128 → z = 12 ∨ z = 13 ∨ z = 17)) m m' ∧ vM 128 (repF 61 T).2 m' := by
  rw [E183]
  exact M183_128 61 T m none none v o (by omega)
theorem L184_128 {C : Nat → List j_V → j_H → Option j_Z} {L : Nat} {m : j_M0} {T : TB} (v : vM 128 T m) (o : tOK T) {x : Int} : ∀ j k : Nat, k + j = tR T → j_fin C 184 2 [some (jR 109), some (jR 128), some (jI x), some (jI k)] [] (hH L m) = some (some (jI (ff (fun i => decide (tow T i = x)) j k)), hH L m) := by
  have v0 := v.1
  have o1 := o.1
  intro j
  induction j with
  | zero =>
    intro k hk
    rw [T184_2_109_128, if_neg (by omega)]
    rfl
  | succ j ih =>
    intro k hk
    have ih' := ih (k + 1) (by omega)
    have h1 := v.2.2.2.2.2.1 k (by omega)
    simp only [Nat.reduceAdd] at h1
    rw [T184_2_109_128, if_pos (by omega), if_pos (by omega), nat1 (by omega), Int.toNat_natCast, h1, ff]
    grind
theorem Q184_128 {d L : Nat} {m : j_M0} {T : TB} (v : vM 128 T m) (o : tOK T) {x : Int} : c_call (d + 1) 184 [jR 109, jR 128, jI x] (hH L m) = some (some (jI (rowF T x)), hH L m) := by
  rw [E184, T184_0_109_128]
  exact L184_128 v o (tR T) 0 (by omega)
theorem Q197_128 {d L : Nat} {m : j_M0} {T : TB} (v : vM 128 T m) (o : tOK T) {x : Int} : c_call (d + 2) 197 [jR 109, jR 128, jI x] (hH L m) = some (some (jL (rightF T x)), hH L m) := by
  have h := rowF_b T x
  have o1 := o.1
  rw [E197, T197_0_109_128, Q184_128 v o]
  simp only [Option.bind_some, Option.toList_some, List.cons_append, List.nil_append, T197_6_109_128]
  unfold rightF
  split
  · rfl
  · have h1 := v.2.2.2.2.2.2.2.2.1 (rowF T x).toNat (by omega)
    simp only [Nat.reduceAdd] at h1
    rw [if_pos (by omega), h1]
theorem L185_128 {C : Nat → List j_V → j_H → Option j_Z} {L : Nat} {m : j_M0} {T : TB} (v : vM 128 T m) (o : tOK T) : ∀ j k : Nat, k + j = tR T → j_fin C 185 2 [some (jR 109), some (jR 128), some (jI k)] [] (hH L m) = some (some (jI (ff (fun i => decide (tow T i < 10 ∧ tri T i % tD T ≠ 0)) j k)), hH L m) := by
  have v0 := v.1
  have o1 := o.1
  have o2 := o.2.2.2.2.1
  have v2 := v.2.2.2.2.1
  intro j
  induction j with
  | zero =>
    intro k hk
    rw [T185_2_109_128, if_neg (by omega)]
    rfl
  | succ j ih =>
    intro k hk
    have ih' := ih (k + 1) (by omega)
    have h1 := v.2.2.2.2.2.1 k (by omega)
    have h2 := v.2.2.2.2.2.2.2.2.1 k (by omega)
    simp only [Nat.reduceAdd] at h1 h2
    rw [T185_2_109_128, if_pos (by omega), if_pos (by omega), nat1 (by omega), Int.toNat_natCast, h1, h2, v2, ff]
    simp only [cmp_eq, tm_0 (show 0 < tD T by omega)]
    grind
theorem Q185_128 {d L : Nat} {m : j_M0} {T : TB} (v : vM 128 T m) (o : tOK T) : c_call (d + 1) 185 [jR 109, jR 128] (hH L m) = some (some (jI (partF T)), hH L m) := by
  rw [E185, T185_0_109_128]
  exact L185_128 v o (tR T) 0 (by omega)
