/-! shift. -/
theorem Q63 {d L t : Nat} {m : j_M0} {i n : Int} (ht : t < 6) (h0 : 0 ≤ m 100 t ∧ m 100 t ≤ 60) : c_call (d + 1) 63 [jR 98, jI t, jI i, jI n] (hH L m) = some (some (jI (bI (0 ≤ n ∧ 0 ≤ i ∧ n ≤ m 100 t ∧ i ≤ m 100 t - n))), hH L m) := by
  have ht' : 0 ≤ (t : Int) ∧ (t : Int) < 6 := by omega
  rw [E63, T63_0]
  simp only [Int.toNat_natCast, if_pos ht']
  by_cases c1 : n < 0
  · rw [if_pos c1, bI_f (by omega)]
  · rw [if_neg c1]
    by_cases c2 : i < 0
    · rw [if_pos c2, bI_f (by omega)]
    · rw [if_neg c2]
      by_cases c3 : m 100 t < n
      · rw [if_pos c3, bI_f (by omega)]
      · rw [if_neg c3]
        simp only [w32_id (x := m 100 t - n) (by omega) (by omega)]
        by_cases c4 : m 100 t - n < i
        · rw [if_pos c4, bI_f (by omega)]
        · rw [if_neg c4, bI_t (by omega)]
theorem L262b {C : Nat → List j_V → j_H → Option j_Z} {L t u i j n : Nat} {y : Nat → Int} (hu : u < 6) (hj : j + n ≤ 60) : ∀ r k : Nat, k + r = n → ∀ m : j_M0, (∀ q : Nat, q < n → m 154 q = y q) → (∀ q : Nat, q < k → m 153 (60 * u + (j + q)) = y q) → ∃ m', j_fin C 262 139 [some (jR 109), some (jI t), some (jI i), some (jI u), some (jI j), some (jI n), some (jI k)] [] (hH L m) = some (some (jI n), hH L m') ∧ kpt (fun b z => b = 153 ∧ 60 * u + j ≤ z ∧ z < 60 * u + j + n) m m' ∧ ∀ q : Nat, q < n → m' 153 (60 * u + (j + q)) = y q := by
  intro r
  induction r with
  | zero =>
    intro k hk m h h2
    rw [T262_139, if_neg (by omega)]
    exact ⟨m, rfl, kpt_rfl, fun q hq => h2 q (by omega)⟩
  | succ r ih =>
    intro k hk m h h2
    rw [T262_139, if_pos (by omega), if_pos (by omega), w32_id (x := 60 * (u : Int)) (by omega) (by omega), w32_id (x := 60 * (u : Int) + j) (by omega) (by omega), w32_id (x := 60 * (u : Int) + j + k) (by omega) (by omega), if_pos (by omega), Int.toNat_natCast, h k (by omega), show (60 * (u : Int) + (j : Int) + (k : Int)).toNat = 60 * u + (j + k) by omega, nat1 (by omega)]
    obtain ⟨m', t1, t2, t3⟩ := ih (k + 1) (by omega) (j_up m 153 (60 * u + (j + k)) (y k)) (fun q hq => by rw [up_ne (by omega)]; exact h q hq) (fun q hq => by
      rw [up_at]
      by_cases e : q = k
      · rw [if_pos (by omega), e]
      · rw [if_neg (by omega)]; exact h2 q (by omega))
    exact ⟨m', t1, kpt_tr (kpt_up (by omega)) t2, t3⟩
theorem L262a {C : Nat → List j_V → j_H → Option j_Z} {L t u i j n : Nat} {y : Nat → Int} (ht : t < 6) (hi : i + n ≤ 60) : ∀ r k : Nat, k + r = n → ∀ m : j_M0, (∀ q : Nat, q < n → m 153 (60 * t + (i + q)) = y q) → (∀ q : Nat, q < k → m 154 q = y q) → ∃ m', j_fin C 262 102 [some (jR 109), some (jI t), some (jI i), some (jI u), some (jI j), some (jI n), some (jI k)] [] (hH L m) = j_fin C 262 139 [some (jR 109), some (jI t), some (jI i), some (jI u), some (jI j), some (jI n), some (jI 0)] [] (hH L m') ∧ kpt (fun b z => b = 154) m m' ∧ ∀ q : Nat, q < n → m' 154 q = y q := by
  intro r
  induction r with
  | zero =>
    intro k hk m h h2
    rw [T262_102, if_neg (by omega)]
    exact ⟨m, rfl, kpt_rfl, fun q hq => h2 q (by omega)⟩
  | succ r ih =>
    intro k hk m h h2
    rw [T262_102, if_pos (by omega), w32_id (x := 60 * (t : Int)) (by omega) (by omega), w32_id (x := 60 * (t : Int) + i) (by omega) (by omega), w32_id (x := 60 * (t : Int) + i + k) (by omega) (by omega), if_pos (by omega), if_pos (by omega), Int.toNat_natCast, show (60 * (t : Int) + (i : Int) + (k : Int)).toNat = 60 * t + (i + k) by omega, h k (by omega), nat1 (by omega)]
    obtain ⟨m', t1, t2, t3⟩ := ih (k + 1) (by omega) (j_up m 154 k (y k)) (fun q hq => by rw [up_ne (by omega)]; exact h q hq) (fun q hq => by
      rw [up_at]
      by_cases e : q = k
      · rw [if_pos (by omega), e]
      · rw [if_neg (by omega)]; exact h2 q (by omega))
    exact ⟨m', t1, kpt_tr (kpt_up (by omega)) t2, t3⟩
theorem PA134 {L : Nat} {xs : Nat → Int32} {m : j_M0} (w : Rel xs m) (x i y j n : Int) (hn : iR n) : PA L xs 134 262 [jI x, jI i, jI y, jI j, jI n] m := by
  have tp := w.2.2.2.2.2.2.2
  unfold iR at hn
  by_cases g1 : 0 ≤ x ∧ x < 6
  · by_cases g2 : 0 ≤ y ∧ y < 6
    · obtain ⟨t, rfl⟩ : ∃ r : Nat, x = r := ⟨_, (Int.toNat_of_nonneg (by omega)).symm⟩
      obtain ⟨u, rfl⟩ : ∃ r : Nat, y = r := ⟨_, (Int.toNat_of_nonneg (by omega)).symm⟩
      obtain ⟨a1, a2, a3, a4, a5, a6, a7⟩ := tp.1 t (by omega)
      obtain ⟨b1, b2, b3, b4, b5, b6, b7⟩ := tp.1 u (by omega)
      have hc : c_call 10 134 [jR 2, jI t, jI i, jI u, jI j, jI n] (hH L m) = j_fin (c_call 9) 134 11 [some (jR 2), some (jI t), some (jI i), some (jI u), some (jI j), some (jI n)] [jI 1] (hH L m) := by
        refine (E134 (d := 9)).trans ?_
        rw [T134_0, Rel_q142]
        simp only [Option.bind_some, Option.toList_some, List.cons_append, List.nil_append]
        rw [bI_t g1, T134_4, if_neg (by decide), Rel_q142]
        simp only [Option.bind_some, Option.toList_some, List.cons_append, List.nil_append]
        rw [bI_t g2]
      have hm : ∀ m' : j_M0, c_call 10 262 [jR 109, jI t, jI i, jI u, jI j, jI n] (hH L m') = j_fin (c_call 9) 262 11 [some (jR 109), some (jI t), some (jI i), some (jI u), some (jI j), some (jI n), none] [jI 1] (hH L m') := fun m' => by
        refine (E262 (d := 9)).trans ?_
        rw [T262_0, Rel_q253]
        simp only [Option.bind_some, Option.toList_some, List.cons_append, List.nil_append]
        rw [bI_t g1, T262_4, if_neg (by decide), Rel_q253]
        simp only [Option.bind_some, Option.toList_some, List.cons_append, List.nil_append]
        rw [bI_t g2]
      rw [T134_11, if_neg (by decide)] at hc
      simp only [Int.toNat_natCast, if_pos g1, if_pos g2] at hc
      have hm0 := hm m
      rw [T262_11, if_neg (by decide)] at hm0
      simp only [Int.toNat_natCast, if_pos g1, if_pos g2] at hm0
      by_cases c1 : m 99 t = -1
      · rw [if_pos c1] at hc
        rw [if_pos (by omega)] at hm0
        exact PA_r w hc hm0
      · rw [if_neg c1] at hc
        rw [if_neg (by omega)] at hm0
        by_cases c2 : m 99 u = -1
        · rw [if_pos c2] at hc
          rw [if_pos (by omega)] at hm0
          exact PA_r w hc hm0
        · rw [if_neg c2] at hc
          rw [if_neg (by omega)] at hm0
          by_cases c3 : m 99 t = m 99 u
          · rw [if_pos c3, show c_call 9 63 _ (hH L m) = _ from Q63 (d := 8) (by omega) (by omega)] at hc
            rw [if_pos (by omega)] at hm0
            simp only [Option.bind_some, Option.toList_some, List.cons_append, List.nil_append] at hc
            by_cases c4 : 0 ≤ n ∧ 0 ≤ i ∧ n ≤ m 100 t ∧ i ≤ m 100 t - n
            · rw [bI_t c4, T134_80, if_neg (by decide), show c_call 9 63 _ (hH L m) = _ from Q63 (d := 8) (by omega) (by omega)] at hc
              simp only [Option.bind_some, Option.toList_some, List.cons_append, List.nil_append] at hc
              rw [if_neg (by omega), if_neg (by omega)] at hm0
              by_cases c5 : 0 ≤ n ∧ 0 ≤ j ∧ n ≤ m 100 u ∧ j ≤ m 100 u - n
              · rw [bI_t c5, T134_95, if_neg (by decide)] at hc
                simp only [Int.toNat_natCast, if_pos g1, if_pos g2] at hc
                rw [if_pos (by omega)] at hc
                obtain ⟨n', rfl⟩ : ∃ r : Nat, n = r := ⟨_, (Int.toNat_of_nonneg (by omega)).symm⟩
                obtain ⟨i', rfl⟩ : ∃ r : Nat, i = r := ⟨_, (Int.toNat_of_nonneg (by omega)).symm⟩
                obtain ⟨j', rfl⟩ : ∃ r : Nat, j = r := ⟨_, (Int.toNat_of_nonneg (by omega)).symm⟩
                simp only [Int.toNat_natCast] at hc
                obtain ⟨m1, hm1⟩ : ∃ m1, m1 = j_cpy m (102 + t) i' (102 + u) j' n' := ⟨_, rfl⟩
                rw [← hm1] at hc
                have q1 : ∀ b z : Nat, b ≠ 102 + u → m1 b z = m b z := fun b z h => by rw [hm1, cpy_ne h]
                obtain ⟨m2, r1, r2, r3⟩ := L262a (C := c_call 9) (L := L) (t := t) (u := u) (i := i') (j := j') (n := n') (y := fun q => m 153 (60 * t + (i' + q))) (by omega) (by omega) n' 0 (by omega) m1 (fun q hq => q1 _ _ (by omega)) (fun q hq => absurd hq (Nat.not_lt_zero q))
                obtain ⟨m3, s1, s2, s3⟩ := L262b (C := c_call 9) (L := L) (t := t) (u := u) (i := i') (j := j') (n := n') (y := fun q => m 153 (60 * t + (i' + q))) (by omega) (by omega) n' 0 (by omega) m2 r3 (fun q hq => absurd hq (Nat.not_lt_zero q))
                have hm1' := hm m1
                rw [T262_11, if_neg (by decide)] at hm1'
                simp only [Int.toNat_natCast, if_pos g1, if_pos g2] at hm1'
                simp only [q1 151 t (by omega), q1 151 u (by omega), q1 152 t (by omega), q1 152 u (by omega), w32_id (x := m 152 t - (n' : Int)) (by omega) (by omega), w32_id (x := m 152 u - (n' : Int)) (by omega) (by omega)] at hm1'
                rw [if_neg (by omega), if_neg (by omega), if_pos (by omega), if_neg (by omega), if_neg (by omega), if_neg (by omega), if_neg (by omega), if_neg (by omega)] at hm1'
                have hm2 := hm1'.trans (r1.trans s1)
                have q2 : ∀ b z : Nat, ¬ (b = 154 ∨ b = 153 ∧ 60 * u + j' ≤ z ∧ z < 60 * u + j' + n') → m3 b z = m1 b z := fun b z h => (kpt_at s2 (by omega)).trans (kpt_at r2 (by omega))
                refine ⟨jI (n' : Int), m1, m3, hc, hm2, Rel_tp w (kpt_tr (fun b z => ?_) (kpt_tr (kpt_w r2 (fun b z h => by unfold tpW; omega)) (kpt_w s2 (fun b z h => by unfold tpW; omega)))) ⟨fun v hv => ?_, fun v z hv hz => ?_⟩⟩
                · by_cases e : b = 102 + u
                  · left; unfold tpW; omega
                  · right; exact q1 b z e
                · rw [q2 99 v (by omega), q2 100 v (by omega), q2 151 v (by omega), q2 152 v (by omega), q1 99 v (by omega), q1 100 v (by omega), q1 151 v (by omega), q1 152 v (by omega)]
                  exact tp.1 v hv
                · rw [q2 100 v (by omega), q1 100 v (by omega)] at hz
                  have z1 := (tp.1 v hv).2.2.2.2.2.1
                  rw [q2 99 v (by omega), q1 99 v (by omega), q2 (102 + v) z (by omega)]
                  by_cases e : v = u ∧ j' ≤ z ∧ z < j' + n'
                  · obtain ⟨e1, e2, e3⟩ := e
                    subst e1
                    have k := tp.2 t (i' + (z - j')) (by omega) (by omega)
                    have k2 := s3 (z - j') (by omega)
                    rw [show j' + (z - j') = z by omega] at k2
                    rw [hm1, cpy_b, if_pos ⟨e2, e3⟩, k2, ← c3]
                    exact k
                  · have k := tp.2 v z hv hz
                    have k2 : m1 (102 + v) z = m (102 + v) z := by
                      by_cases e1 : v = u
                      · subst e1
                        rw [hm1, cpy_b, if_neg (by omega)]
                      · exact q1 _ _ (by omega)
                    rw [k2, q2 153 _ (by omega), q1 153 _ (by omega)]
                    exact k
              · rw [bI_f c5, T134_95, if_pos rfl] at hc
                by_cases c6 : j < 0
                · rw [if_pos c6] at hm0
                  exact PA_r w hc hm0
                · simp only [w32_id (x := m 152 t - n) (by omega) (by omega), w32_id (x := m 152 u - n) (by omega) (by omega)] at hm0
                  rw [if_neg c6, if_neg (by omega), if_pos (by omega)] at hm0
                  exact PA_r w hc hm0
            · rw [bI_f c4, T134_80, if_pos rfl] at hc
              by_cases c6 : n < 0
              · rw [if_pos c6] at hm0
                exact PA_r w hc hm0
              · rw [if_neg c6] at hm0
                by_cases c7 : i < 0
                · rw [if_pos c7] at hm0
                  exact PA_r w hc hm0
                · rw [if_neg c7] at hm0
                  by_cases c8 : j < 0
                  · rw [if_pos c8] at hm0
                    exact PA_r w hc hm0
                  · simp only [w32_id (x := m 152 t - n) (by omega) (by omega)] at hm0
                    rw [if_neg c8, if_pos (by omega)] at hm0
                    exact PA_r w hc hm0
          · rw [if_neg c3] at hc
            rw [if_neg (by omega)] at hm0
            exact PA_r w hc hm0
    · refine PA_r w (v := jI (-1)) ((E134 (d := 9)).trans ?_) ((E262 (d := 9)).trans ?_)
      · rw [T134_0, Rel_q142]
        simp only [Option.bind_some, Option.toList_some, List.cons_append, List.nil_append]
        rw [bI_t g1, T134_4, if_neg (by decide), Rel_q142]
        simp only [Option.bind_some, Option.toList_some, List.cons_append, List.nil_append]
        rw [bI_f g2, T134_11, if_pos rfl]
      · rw [T262_0, Rel_q253]
        simp only [Option.bind_some, Option.toList_some, List.cons_append, List.nil_append]
        rw [bI_t g1, T262_4, if_neg (by decide), Rel_q253]
        simp only [Option.bind_some, Option.toList_some, List.cons_append, List.nil_append]
        rw [bI_f g2, T262_11, if_pos rfl]
  · refine PA_r w (v := jI (-1)) ((E134 (d := 9)).trans ?_) ((E262 (d := 9)).trans ?_)
    · rw [T134_0, Rel_q142]
      simp only [Option.bind_some, Option.toList_some, List.cons_append, List.nil_append]
      rw [bI_f g1, T134_4, if_pos rfl]
    · rw [T262_0, Rel_q253]
      simp only [Option.bind_some, Option.toList_some, List.cons_append, List.nil_append]
      rw [bI_f g1, T262_4, if_pos rfl]
