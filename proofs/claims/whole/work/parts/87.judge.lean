/-! feed, judge. -/
theorem w8_id {x : Int} (h1 : 0 ≤ x) (h2 : x ≤ 127) : w8 x = x := by
  unfold w8 Int.bmod
  simp only
  omega
theorem PA94 {L : Nat} {xs : Nat → Int32} {m : j_M0} (w : Rel xs m) (x : Int) : PA L xs 94 167 [jI x] m := by
  have n := Rel_n w
  obtain ⟨w1, w2, w3, w4, w5, w6, w7, w8'⟩ := id w
  obtain ⟨t1, t2, t3, t4⟩ := w7
  by_cases g1 : 0 ≤ x ∧ x ≤ 127
  · obtain ⟨k, hk⟩ : ∃ k : Nat, m 93 0 = k := ⟨_, (Int.toNat_of_nonneg (by omega)).symm⟩
    have hk2 : m 109 6 = (k : Int) := t1.symm.trans hk
    by_cases g2 : k = 80
    · refine PA_r w (v := jI (-4)) ((E94 (d := 9)).trans ?_) ((E167 (d := 9)).trans ?_)
      · rw [T94_0, if_neg (by omega), if_neg (by omega), if_neg (by omega)]
      · rw [T167_0, Q150]
        simp only [Option.bind_some, Option.toList_some, List.cons_append, List.nil_append]
        rw [bI_t g1, T167_9, if_neg (by decide), if_pos (by omega)]
    · obtain ⟨m1, hm1⟩ : ∃ m1, m1 = j_up (j_up m 94 k x) 93 0 ((k + 1 : Nat) : Int) := ⟨_, rfl⟩
      have e1 : m1 109 6 = (k : Int) := by rw [hm1, up_ne (by omega), up_ne (by omega)]; exact hk2
      have q : ∀ b z : Nat, b ≠ 94 → b ≠ 93 → b ≠ 113 → b ≠ 109 ∨ z ≠ 6 → j_up (j_up m1 113 k x) 109 6 ((k + 1 : Nat) : Int) b z = m b z := fun b z h h2 h3 h4 => by
        by_cases e : b = 109
        · rw [e, up_nj (by omega), up_ne (by omega), hm1, up_ne (by omega), up_ne (by omega)]
        · rw [up_ne e, up_ne h3, hm1, up_ne h2, up_ne h]
      have f110 : (j_up (j_up m1 113 k x) 109 6 ((k + 1 : Nat) : Int)) 110 = m 110 := funext (fun z => q _ _ (by omega) (by omega) (by omega) (by omega))
      refine ⟨jI ((k + 1 : Nat) : Int), m1, j_up (j_up m1 113 k x) 109 6 ((k + 1 : Nat) : Int), (E94 (d := 9)).trans ?_, (E167 (d := 9)).trans ?_, baR_k w1 (fun b z h => q _ _ (by omega) (by omega) (by omega) (by omega)), by rw [f110]; exact w2, by rw [f110]; exact w3, by rw [f110]; exact stR_k w4 (fun b z h h' => q _ _ (by omega) (by omega) (by omega) (by omega)), imR_k w5 (fun b z h => q _ _ (by omega) (by omega) (by omega) (by omega)), taR_k w6 (by omega) (fun b z h => q _ _ (by omega) (by omega) (by omega) (by omega)), ?_, tpR_k w8' (fun b z h => q _ _ (by omega) (by omega) (by omega) (by omega))⟩
      · rw [T94_0, if_neg (by omega), if_neg (by omega), if_pos (by omega), if_pos (by omega), hk, Int.toNat_natCast, w8_id (x := x) g1.1 g1.2, w8_id (x := x) g1.1 g1.2, up_ne (show 93 ≠ 94 by omega), hk, nat1 (by omega), up_eq rfl, hm1]
      · rw [T167_0, Q150]
        simp only [Option.bind_some, Option.toList_some, List.cons_append, List.nil_append]
        rw [bI_t g1, T167_9, if_neg (by decide), e1, if_neg (by omega), if_pos (by omega), Int.toNat_natCast, up_ne (show 109 ≠ 113 by omega), e1, nat1 (by omega), up_eq rfl]
      · have f93 : j_up (j_up m1 113 k x) 109 6 ((k + 1 : Nat) : Int) 93 0 = ((k + 1 : Nat) : Int) := by rw [up_ne (by omega), up_ne (by omega), hm1, up_eq rfl]
        refine ⟨?_, ?_, ?_, fun i hi => ?_⟩
        · rw [f93, up_eq rfl]
        · rw [f93]; omega
        · rw [f93]; omega
        · rw [f93] at hi
          rw [up_ne (show 94 ≠ 109 by omega), up_ne (show 94 ≠ 113 by omega), up_ne (show 113 ≠ 109 by omega), up_at, hm1, up_ne (show 94 ≠ 93 by omega), up_at]
          by_cases e : i = k
          · rw [if_pos e, if_pos e]; exact ⟨rfl, g1⟩
          · rw [if_neg e, if_neg e, up_ne (show 113 ≠ 93 by omega), up_ne (show 113 ≠ 94 by omega)]
            exact t4 i (by omega)
  · refine PA_r w (v := jI (-2)) ((E94 (d := 9)).trans ?_) ((E167 (d := 9)).trans ?_)
    · rw [T94_0]
      by_cases a : x < 0
      · rw [if_pos a]
      · rw [if_neg a, if_pos (by omega)]
    · rw [T167_0, Q150]
      simp only [Option.bind_some, Option.toList_some, List.cons_append, List.nil_append]
      rw [bI_f g1, T167_9, if_pos rfl]
/-! judge -/
def juF (T : TB) (x : Nat → Int) (it : Int) : Nat → Nat → Int
  | 0, _ => -5
  | j + 1, p => if (p : Int) < it then (if rightF T (p : Int) / tD T = x p then juF T x it j (p + 1) else p) else 100 + p
theorem L127 {d L : Nat} {T : TB} {m : j_M0} {x : Nat → Int} {t : Nat} {i it : Int} (ht : t < 6) (v : vC 41 T m) (o : tOK T) (h4 : 0 ≤ m 4 0 ∧ m 4 0 ≤ 5) (hi : ∀ p : Nat, (p : Int) < it → 0 ≤ i ∧ i + p < 60 ∧ m (102 + t) (i + p).toNat = x p) : ∀ j p : Nat, ((p + j : Nat) : Int) = m 4 0 → j_fin (c_call (d + 3)) 127 108 [some (jR 2), some (jI t), some (jI i), some (jI it), some (jI p)] [] (hH L m) = some (some (jI (juF T x it j p)), hH L m) := by
  intro j
  induction j with
  | zero =>
    intro p hp
    rw [T127_108, if_neg (by omega)]
    rfl
  | succ j ih =>
    intro p hp
    rw [T127_108, if_pos (by omega)]
    unfold juF
    by_cases e : (p : Int) < it
    · have h := hi p e
      rw [if_pos e, if_pos e, if_pos (by omega), w32_id (x := i + p) (by omega) (by omega), if_pos (by omega), Q54_41 (d := d) v o, Int.toNat_natCast, h.2.2]
      simp only [Option.bind_some, Option.toList_some, List.cons_append, List.nil_append]
      rw [T127_161]
      simp only [cmp_eq]
      by_cases e2 : rightF T (p : Int) / tD T = x p
      · rw [if_pos e2.symm, if_pos e2, nat1 (by omega)]
        exact ih (p + 1) (by omega)
      · rw [if_neg (fun h => e2 h.symm), if_neg e2]
    · rw [if_neg e, if_neg e, w32_id (by omega) (by omega)]
theorem L254 {d L : Nat} {T : TB} {m : j_M0} {x : Nat → Int} {t : Nat} {i it : Int} (ht : t < 6) (v : vM 115 T m) (o : tOK T) (hw : partF T < 0) (h4 : 0 ≤ m 110 0 ∧ m 110 0 ≤ 5) (hc : 0 ≤ m 152 t ∧ m 152 t ≤ 60) (hit : it = if m 151 t < 0 ∨ i < 0 ∨ m 152 t < i then 0 else m 152 t - i) (hx : ∀ p : Nat, (p : Int) < it → m 153 (60 * t + (i + p).toNat) = x p ∧ -2147483648 ≤ x p ∧ x p ≤ 2147483647) : ∀ j p : Nat, ((p + j : Nat) : Int) = m 110 0 → j_fin (c_call (d + 2)) 254 56 [some (jR 109), some (jI t), some (jI i), some (jI p)] [] (hH L m) = some (some (jI (juF T x it j p)), hH L m) := by
  have k13 : m 115 13 = tD T := v.2.2.2.2.1
  have d1 := o.2.2.2.2.1
  have d2 := o.2.2.2.2.2.1
  intro j
  induction j with
  | zero =>
    intro p hp
    rw [T254_56, Q151]
    simp only [Option.bind_some, Option.toList_some, List.cons_append, List.nil_append]
    rw [T254_61, if_neg (by omega)]
    rfl
  | succ j ih =>
    intro p hp
    rw [T254_56, Q151]
    simp only [Option.bind_some, Option.toList_some, List.cons_append, List.nil_append]
    rw [T254_61, if_pos (by omega)]
    unfold juF
    by_cases e : (p : Int) < it
    · have h := hx p e
      have c : ¬ (m 151 t < 0 ∨ i < 0 ∨ m 152 t < i) := fun c => by rw [if_pos c] at hit; omega
      rw [if_neg c] at hit
      have pr := mul_r (x := x p) (y := tD T) (a := 2147483648) (b := 1000000000) (by omega) (by omega) (by omega) (by omega)
      rw [if_pos e, if_neg (by omega), if_pos (by omega), Int.toNat_natCast, if_neg (by omega), if_pos (by omega), w32_id (x := m 152 t - p) (by omega) (by omega), if_pos (by omega), w32_id (x := 60 * (t : Int)) (by omega) (by omega), w32_id (x := 60 * (t : Int) + i) (by omega) (by omega), w32_id (x := 60 * (t : Int) + i + p) (by omega) (by omega), if_pos (by omega), show (60 * (t : Int) + i + p).toNat = 60 * t + (i + p).toNat by omega, h.1, k13, Q197_115 (d := d) v o, w64_id (x := x p * tD T) (by omega) (by omega)]
      simp only [Option.bind_some, Option.toList_some, List.cons_append, List.nil_append]
      rw [T254_124]
      simp only [cmp_eq]
      have q := whole_q o hw (x := (p : Int)) (by omega) (x p)
      by_cases e2 : rightF T (p : Int) / tD T = x p
      · rw [if_pos (q.mp e2).symm, if_pos e2, nat1 (by omega)]
        exact ih (p + 1) (by omega)
      · rw [if_neg (fun h => e2 (q.mpr h.symm)), if_neg e2]
    · rw [if_neg e]
      by_cases c1 : i < 0
      · rw [if_pos c1, w32_id (by omega) (by omega)]
      · rw [if_neg c1, if_pos (by omega), Int.toNat_natCast]
        by_cases c2 : m 151 t < 0
        · rw [if_pos c2, w32_id (by omega) (by omega)]
        · have c3 : ¬ i < m 152 t - p := fun h => by
            rw [if_neg (by omega)] at hit
            omega
          rw [if_neg c2, if_pos (by omega), w32_id (x := m 152 t - p) (by omega) (by omega), if_neg c3, w32_id (by omega) (by omega)]
theorem PA127 {L : Nat} {xs : Nat → Int32} {m : j_M0} (w : Rel xs m) (x i : Int) (hir : iR i) : PA L xs 127 254 [jI x, jI i] m := by
  have n := Rel_n w
  have tp := w.2.2.2.2.2.2.2
  unfold iR at hir
  have q1 : c_call 9 142 [jI x] (hH L m) = _ := Q142 (d := 8)
  have q2 : c_call 9 253 [jI x] (hH L m) = _ := Q253 (d := 7)
  by_cases g1 : 0 ≤ x ∧ x < 6
  · obtain ⟨t, rfl⟩ : ∃ r : Nat, x = r := ⟨_, (Int.toNat_of_nonneg (by omega)).symm⟩
    obtain ⟨a1, a2, a3, a4, a5, a6, a7⟩ := tp.1 t (by omega)
    by_cases c1 : m 99 t = 2 ∨ m 99 t = -1
    · by_cases c2 : m 2 11 ≠ 0 ∧ m 40 2 = 1
      · rcases w.2.2.2.2.2.1 with ⟨t1, t2⟩ | ⟨t1, t2, s, T, U, t3⟩
        · exact absurd t1 c2.1
        · have es : s = 1 := t3.2.2.2.2.2.1.symm.trans c2.2
          have o := t3.1.1
          have hw := (t3.1.2.2.2 es).1
          have e19 : m 115 19 = 1 := by rw [t3.2.2.2.2.2.2, if_pos es]
          have k1 := L127 (d := 6) (L := L) (T := T) (m := m) (x := fun p => m (102 + t) (i + p).toNat) (t := t) (i := i) (it := if m 151 t < 0 ∨ i < 0 ∨ m 152 t < i then 0 else m 152 t - i) (by omega) t3.2.1 o (by omega) (fun p hp => by
            split at hp
            · omega
            · exact ⟨by omega, by omega, rfl⟩) (m 110 0).toNat 0 (by omega)
          have k2 := L254 (d := 7) (L := L) (T := T) (m := m) (x := fun p => m (102 + t) (i + p).toNat) (t := t) (i := i) (it := if m 151 t < 0 ∨ i < 0 ∨ m 152 t < i then 0 else m 152 t - i) (by omega) t3.2.2.1 o hw (by omega) (by omega) rfl (fun p hp => by
            split at hp
            · omega
            · have z := tp.2 t (i + p).toNat (by omega) (by omega)
              have z2 := z.2.1 (by omega)
              rw [← z.1] at z2
              exact ⟨z.1.symm, z2⟩) (m 110 0).toNat 0 (by omega)
          have ht : 0 ≤ (t : Int) ∧ (t : Int) < 6 := g1
          refine PA_r w (v := jI (juF T (fun p => m (102 + t) (i + p).toNat) (if m 151 t < 0 ∨ i < 0 ∨ m 152 t < i then 0 else m 152 t - i) (m 110 0).toNat 0)) ((E127 (d := 9)).trans ?_) ((E254 (d := 9)).trans ?_)
          · rw [T127_0, q1]
            simp only [Option.bind_some, Option.toList_some, List.cons_append, List.nil_append]
            rw [bI_t g1, T127_4, if_neg (by decide)]
            rcases c1 with c1 | c1
            · have c1' : ¬ (m 99 t = -1) := by omega
              have c5 : ¬ (m 151 t < 0) := by omega
              by_cases c3 : i < 0
              · simp only [Int.toNat_natCast, if_pos ht, if_pos c1, if_neg c2.1, if_pos c2.2, if_neg c1', if_pos c3]
                rw [if_pos (Or.inr (Or.inl c3))] at k1
                rw [if_pos (Or.inr (Or.inl c3))]
                exact k1
              · by_cases c4 : m 100 t < i
                · simp only [Int.toNat_natCast, if_pos ht, if_pos c1, if_neg c2.1, if_pos c2.2, if_neg c1', if_neg c3, if_pos c4]
                  rw [if_pos (Or.inr (Or.inr (by omega)))] at k1
                  rw [if_pos (Or.inr (Or.inr (by omega)))]
                  exact k1
                · simp only [Int.toNat_natCast, if_pos ht, if_pos c1, if_neg c2.1, if_pos c2.2, if_neg c1', if_neg c3, if_neg c4]
                  have c6 : ¬ (m 151 t < 0 ∨ i < 0 ∨ m 152 t < i) := by omega
                  rw [if_neg c6] at k1
                  rw [if_neg c6, a2, w32_id (by omega) (by omega)]
                  exact k1
            · have c1' : ¬ (m 99 t = 2) := by omega
              have c5 : m 151 t < 0 := by omega
              simp only [Int.toNat_natCast, if_pos ht, if_neg c1', if_pos c1, if_neg c2.1, if_pos c2.2]
              rw [if_pos (Or.inl c5)] at k1
              rw [if_pos (Or.inl c5)]
              exact k1
          · rw [T254_0, q2]
            simp only [Option.bind_some, Option.toList_some, List.cons_append, List.nil_append]
            rw [bI_t g1, T254_4, if_neg (by decide)]
            have u1 : ¬ (m 115 18 = 0) := by omega
            have u2 : ¬ (m 115 19 = 0) := by omega
            rcases c1 with c1 | c1
            · have c5 : ¬ (m 151 t < 0) := by omega
              have c6 : m 151 t = 2 := by omega
              simp only [Int.toNat_natCast, if_pos ht, if_neg c5, if_pos c6, if_neg u1, if_neg u2]
              exact k2
            · have c5 : m 151 t < 0 := by omega
              simp only [Int.toNat_natCast, if_pos ht, if_pos c5, if_neg u1, if_neg u2]
              exact k2
      · have ht : 0 ≤ (t : Int) ∧ (t : Int) < 6 := g1
        have c2' : m 2 11 = 0 ∧ m 115 18 = 0 ∨ ¬ m 2 11 = 0 ∧ ¬ m 40 2 = 1 ∧ ¬ m 115 18 = 0 ∧ m 115 19 = 0 := by
          rcases w.2.2.2.2.2.1 with ⟨t1, t2⟩ | ⟨t1, t2, s, T, U, t3⟩
          · exact Or.inl ⟨t1, t2⟩
          · have e1 : ¬ m 40 2 = 1 := fun h => c2 ⟨by omega, h⟩
            refine Or.inr ⟨by omega, e1, by omega, ?_⟩
            rw [t3.2.2.2.2.2.2, if_neg (by rw [← t3.2.2.2.2.2.1]; exact e1)]
        refine PA_r w (v := jI (-3)) ((E127 (d := 9)).trans ?_) ((E254 (d := 9)).trans ?_)
        · rw [T127_0, q1]
          simp only [Option.bind_some, Option.toList_some, List.cons_append, List.nil_append]
          rw [bI_t g1, T127_4, if_neg (by decide)]
          rcases c1 with c1 | c1
          · rcases c2' with ⟨b1, b2⟩ | ⟨b1, b2, b3, b4⟩
            · simp only [Int.toNat_natCast, if_pos ht, if_pos c1, if_pos b1]
            · simp only [Int.toNat_natCast, if_pos ht, if_pos c1, if_neg b1, if_neg b2]
          · have c1' : ¬ (m 99 t = 2) := by omega
            rcases c2' with ⟨b1, b2⟩ | ⟨b1, b2, b3, b4⟩
            · simp only [Int.toNat_natCast, if_pos ht, if_neg c1', if_pos c1, if_pos b1]
            · simp only [Int.toNat_natCast, if_pos ht, if_neg c1', if_pos c1, if_neg b1, if_neg b2]
        · rw [T254_0, q2]
          simp only [Option.bind_some, Option.toList_some, List.cons_append, List.nil_append]
          rw [bI_t g1, T254_4, if_neg (by decide)]
          rcases c1 with c1 | c1
          · have c5 : ¬ (m 151 t < 0) := by omega
            have c6 : m 151 t = 2 := by omega
            rcases c2' with ⟨b1, b2⟩ | ⟨b1, b2, b3, b4⟩
            · simp only [Int.toNat_natCast, if_pos ht, if_neg c5, if_pos c6, if_pos b2]
            · simp only [Int.toNat_natCast, if_pos ht, if_neg c5, if_pos c6, if_neg b3, if_pos b4]
          · have c5 : m 151 t < 0 := by omega
            rcases c2' with ⟨b1, b2⟩ | ⟨b1, b2, b3, b4⟩
            · simp only [Int.toNat_natCast, if_pos ht, if_pos c5, if_pos b2]
            · simp only [Int.toNat_natCast, if_pos ht, if_pos c5, if_neg b3, if_pos b4]
    · have ht : 0 ≤ (t : Int) ∧ (t : Int) < 6 := g1
      have c1a : ¬ m 99 t = 2 := fun h => c1 (Or.inl h)
      have c1b : ¬ m 99 t = -1 := fun h => c1 (Or.inr h)
      have c1c : ¬ m 151 t = 2 := by omega
      have c1d : ¬ m 151 t < 0 := by omega
      refine PA_r w (v := jI (-12)) ((E127 (d := 9)).trans ?_) ((E254 (d := 9)).trans ?_)
      · rw [T127_0, q1]
        simp only [Option.bind_some, Option.toList_some, List.cons_append, List.nil_append]
        rw [bI_t g1, T127_4, if_neg (by decide)]
        simp only [Int.toNat_natCast, if_pos ht, if_neg c1a, if_neg c1b]
      · rw [T254_0, q2]
        simp only [Option.bind_some, Option.toList_some, List.cons_append, List.nil_append]
        rw [bI_t g1, T254_4, if_neg (by decide)]
        simp only [Int.toNat_natCast, if_pos ht, if_neg c1c, if_neg c1d]
  · refine PA_r w (v := jI (-1)) ((E127 (d := 9)).trans ?_) ((E254 (d := 9)).trans ?_)
    · rw [T127_0, q1]
      simp only [Option.bind_some, Option.toList_some, List.cons_append, List.nil_append]
      rw [bI_f g1, T127_4, if_pos rfl]
    · rw [T254_0, q2]
      simp only [Option.bind_some, Option.toList_some, List.cons_append, List.nil_append]
      rw [bI_f g1, T254_4, if_pos rfl]
