/-! offer. -/
theorem L23 {C : Nat → List j_V → j_H → Option j_Z} {N : Nat} {L : j_B} {m : j_M0} {x : Int} (h9 : m 9 0 = N) (h20 : N ≤ 20) : ∀ j k : Nat, k + j = N → j_fin C 23 2 [some (jR 9), some (jI x), some (jI k)] [] (hH L m) = some (some (jI (ff (fun i => decide (m 10 i = x)) j k)), hH L m) := by
  intro j
  induction j with
  | zero =>
    intro k hk
    rw [T23_2, if_neg (by omega)]
    rfl
  | succ j ih =>
    intro k hk
    rw [T23_2, if_pos (by omega), if_pos (by omega), Int.toNat_natCast, nat1 (by omega)]
    unfold ff
    by_cases e : m 10 k = x
    · rw [if_pos e, if_pos (decide_eq_true e)]
    · rw [if_neg e, if_neg (fun h => e (of_decide_eq_true h))]
      exact ih (k + 1) (by omega)
theorem ff_y {p : Nat → Bool} {N : Nat} : (ff p N 0 = -1 ∧ ∀ i : Nat, i < N → p i = false) ∨ ∃ k : Nat, k < N ∧ ff p N 0 = k ∧ p k = true := by
  rcases ff_b p N 0 with h | ⟨h1, h2, h3⟩
  · exact Or.inl ⟨h, fun i hi => ff_n N 0 (by omega) i (Nat.zero_le i) (by omega)⟩
  · exact Or.inr ⟨(ff p N 0).toNat, by omega, by omega, h3⟩
/-- an ask is another -/
theorem ofR_ask {g : Nat → Int} {m : j_M0} (hg : gR g) (o : ofR 9 g m) {N : Nat} (hN : g 6 = N) (h20 : N ≤ 20) (hd : ∀ i j : Nat, i < j → j < N → oC g i ≠ oC g j) {k p : Nat} (hk : k < N) (hp : p < N) (e : oC g k = m 10 p) (v : Int) : ofR 9 (gU g (111 + 2 * k) v) (j_up m 12 p v) := by
  have h5 := hg.2.1
  have ec : ∀ x, cosF (gU g (111 + 2 * k) v) x = cosF g x := fun x => cosF_g h5 (fun z hz => gU_ne (by omega))
  have oo := o
  obtain ⟨w1, w2, w3, w4, w5⟩ := oo
  simp only [Nat.reduceAdd] at w2 w3 w4 w5
  have e6 : gU g (111 + 2 * k) v 6 = g 6 := gU_ne (by omega)
  unfold ofR
  rw [e6]
  simp only [Nat.reduceAdd]
  refine ⟨by rw [up_ne (by omega)]; exact w1, fun i j hij hj => ?_, fun i hi => ?_, fun i hi => ?_, fun q hq => ?_⟩
  · simp (disch := omega) only [up_ne]
    exact w2 i j hij hj
  · simp (disch := omega) only [up_ne]
    rw [ec]
    exact w3 i hi
  · rw [up_ne (show 10 ≠ 12 by omega), up_at]
    by_cases c : i = p
    · rw [if_pos c, c]
      exact ⟨k, by omega, by rw [gU_ne (by omega)]; exact e, gU_eq rfl⟩
    · rw [if_neg c]
      obtain ⟨q, q1, q2, q3⟩ := w4 i hi
      have qk : q ≠ k := fun h => by
        rw [h] at q2
        have e2 : m 10 i = m 10 p := q2.symm.trans e
        rcases Nat.lt_or_ge i p with h1 | h1
        · exact ofR_d o hN h1 hp e2
        · exact ofR_d o hN (show p < i by omega) (by omega) e2.symm
      exact ⟨q, q1, by rw [gU_ne (by omega)]; exact q2, by rw [gU_ne (by omega)]; exact q3⟩
  · by_cases c : q = k
    · subst c
      refine ⟨p, by omega, ?_, ?_⟩
      · rw [up_ne (by omega), gU_ne (by omega)]; exact e.symm
      · rw [up_eq rfl, gU_eq rfl]
    · obtain ⟨i, i1, i2, i3⟩ := w5 q hq
      have ip : i ≠ p := fun h => by
        rw [h] at i2
        have e2 : oC g q = oC g k := i2.symm.trans e.symm
        rcases Nat.lt_or_ge q k with h1 | h1
        · exact hd q k h1 hk e2
        · exact hd k q (by omega) (by omega) e2.symm
      refine ⟨i, i1, ?_, ?_⟩
      · rw [up_ne (by omega), gU_ne (by omega)]; exact i2
      · rw [up_nj ip, gU_ne (by omega)]; exact i3
/-- an offer comes -/
def offG (g : Nat → Int) (N : Nat) (x v : Int) : Nat → Int := gU (gU (gU g 6 ((N + 1 : Nat) : Int)) (110 + 2 * N) x) (111 + 2 * N) v
theorem offG_6 {g : Nat → Int} {N : Nat} {x v : Int} : offG g N x v 6 = ((N + 1 : Nat) : Int) := by
  unfold offG
  rw [gU_ne (by omega), gU_ne (by omega), gU_eq rfl]
theorem offG_ne {g : Nat → Int} {N : Nat} {x v : Int} {z : Nat} (h : z ≠ 6) (h2 : z ≠ 110 + 2 * N) (h3 : z ≠ 111 + 2 * N) : offG g N x v z = g z := by
  unfold offG
  rw [gU_ne h3, gU_ne h2, gU_ne h]
theorem offG_c {g : Nat → Int} {N : Nat} {x v : Int} : offG g N x v (110 + 2 * N) = x := by
  unfold offG
  rw [gU_ne (by omega), gU_eq rfl]
theorem offG_a {g : Nat → Int} {N : Nat} {x v : Int} : offG g N x v (111 + 2 * N) = v := gU_eq rfl
theorem ofR_new {g : Nat → Int} {m m' : j_M0} (hg : gR g) (o : ofR 9 g m) {N : Nat} (hN : g 6 = N) (h20 : N < 20) {x v : Int} (hx : ∀ i : Nat, i < N → m 10 i ≠ x) (s : shD 9 (N + 1) (insA (m 10) (posL (cosF g x) x (m 11) (m 10) N) x) (insA (m 11) (posL (cosF g x) x (m 11) (m 10) N) (cosF g x)) (insA (m 12) (posL (cosF g x) x (m 11) (m 10) N) v) m') : ofR 9 (offG g N x v) m' := by
  have h5 := hg.2.1
  have ec : ∀ y, cosF (offG g N x v) y = cosF g y := fun y => cosF_g h5 (fun z hz => offG_ne (by omega) (by omega) (by omega))
  obtain ⟨b1, b2, b3⟩ := posL_b (cosF g x) x (m 11) (m 10) N
  generalize posL (cosF g x) x (m 11) (m 10) N = p at s b1 b2 b3
  have hl : ∀ i j : Nat, i < N → j < N → (lsO (m 11 i) (m 10 i) (m 11 j) (m 10 j) ↔ i < j) := fun i j hi hj => ofR_l o hN hi hj
  -- those before are ahead
  have b4 : ∀ i : Nat, i < p → lsO (m 11 i) (m 10 i) (cosF g x) x := fun i hi => by
    have h1 : lsO (m 11 (p - 1)) (m 10 (p - 1)) (cosF g x) x := by
      have := b3 (by omega)
      have := hx (p - 1) (by omega)
      unfold lsO
      omega
    by_cases e : i = p - 1
    · rw [e]; exact h1
    · exact lsO_t ((hl i (p - 1) (by omega) (by omega)).mpr (by omega)) h1
  have b5 : ∀ i : Nat, p ≤ i → i < N → lsO (cosF g x) x (m 11 i) (m 10 i) := fun i h h' => b2 i h h'
  obtain ⟨s1, s2⟩ := s
  simp only [Nat.reduceAdd] at s2
  obtain ⟨w1, w2, w3, w4, w5⟩ := o
  simp only [Nat.reduceAdd] at w2 w3 w4 w5
  unfold ofR
  rw [offG_6]
  simp only [Nat.reduceAdd]
  refine ⟨s1, fun i j hij hj => ?_, fun i hi => ?_, fun i hi => ?_, fun q hq => ?_⟩
  · rw [(s2 i (by omega)).1, (s2 i (by omega)).2.1, (s2 j (by omega)).1, (s2 j (by omega)).2.1]
    by_cases c1 : i < p
    · rw [insA_lt c1, insA_lt c1]
      by_cases c2 : j < p
      · rw [insA_lt c2, insA_lt c2]; exact (hl i j (by omega) (by omega)).mpr hij
      · by_cases c3 : j = p
        · rw [insA_eq c3, insA_eq c3]; exact b4 i c1
        · rw [insA_gt (by omega), insA_gt (by omega)]; exact (hl i (j - 1) (by omega) (by omega)).mpr (by omega)
    · by_cases c3 : i = p
      · rw [insA_eq c3, insA_eq c3, insA_gt (by omega), insA_gt (by omega)]; exact b5 (j - 1) (by omega) (by omega)
      · rw [insA_gt (by omega), insA_gt (by omega), insA_gt (by omega), insA_gt (by omega)]; exact (hl (i - 1) (j - 1) (by omega) (by omega)).mpr (by omega)
  · rw [(s2 i (by omega)).1, (s2 i (by omega)).2.1, ec]
    by_cases c1 : i < p
    · rw [insA_lt c1, insA_lt c1]; exact w3 i (by omega)
    · by_cases c3 : i = p
      · rw [insA_eq c3, insA_eq c3]
      · rw [insA_gt (by omega), insA_gt (by omega)]; exact w3 (i - 1) (by omega)
  · rw [(s2 i (by omega)).1, (s2 i (by omega)).2.2]
    have old : ∀ i : Nat, i < N → ∃ k : Nat, (k : Int) < ((N + 1 : Nat) : Int) ∧ offG g N x v (110 + 2 * k) = m 10 i ∧ offG g N x v (111 + 2 * k) = m 12 i := fun i hi => by
      obtain ⟨k, k1, k2, k3⟩ := w4 i (by omega)
      exact ⟨k, by omega, by rw [offG_ne (by omega) (by omega) (by omega)]; exact k2, by rw [offG_ne (by omega) (by omega) (by omega)]; exact k3⟩
    by_cases c1 : i < p
    · rw [insA_lt c1, insA_lt c1]; exact old i (by omega)
    · by_cases c3 : i = p
      · rw [insA_eq c3, insA_eq c3]; exact ⟨N, by omega, offG_c, offG_a⟩
      · rw [insA_gt (by omega), insA_gt (by omega)]; exact old (i - 1) (by omega)
  · by_cases c : q = N
    · subst c
      refine ⟨p, by omega, ?_, ?_⟩
      · rw [(s2 p (by omega)).1, insA_eq rfl, offG_c]
      · rw [(s2 p (by omega)).2.2, insA_eq rfl, offG_a]
    · obtain ⟨i, i1, i2, i3⟩ := w5 q (by omega)
      rw [offG_ne (by omega) (by omega) (by omega), offG_ne (by omega) (by omega) (by omega)]
      by_cases c1 : i < p
      · refine ⟨i, by omega, ?_, ?_⟩
        · rw [(s2 i (by omega)).1, insA_lt c1]; exact i2
        · rw [(s2 i (by omega)).2.2, insA_lt c1]; exact i3
      · refine ⟨i + 1, by omega, ?_, ?_⟩
        · rw [(s2 (i + 1) (by omega)).1, insA_gt (by omega), Nat.add_sub_cancel]; exact i2
        · rw [(s2 (i + 1) (by omega)).2.2, insA_gt (by omega), Nat.add_sub_cancel]; exact i3
theorem gX_new {g : Nat → Int} (hg : gR g) (hx : gX g) {N : Nat} (hN : g 6 = N) (h20 : N < 20) {x v : Int} (hc : 0 ≤ x ∧ x < tenF (g 0).toNat) (hv : 0 ≤ v ∧ v ≤ 999) (hn : ∀ k : Nat, k < N → oC g k ≠ x) : gX (offG g N x v) := by
  have kg : ∀ z : Nat, ¬ (z = 6 ∨ z = 110 + 2 * N ∨ z = 111 + 2 * N) → offG g N x v z = g z := fun z h => offG_ne (by omega) (by omega) (by omega)
  obtain ⟨x1, x2, x3, x4, x5, x6, x7, x8, x9, x10⟩ := hx
  have h0 := hg.1
  have h5 := hg.2.1
  refine ⟨?_, ?_, ?_, ?_, ?_, ?_, ?_, ?_, ?_, ?_⟩
  · exact fun r hr => by
      rw [kg _ (by omega)]
      exact x1 r hr
  · exact by
      rw [kg 2 (by omega)]
      exact x2
  · exact by
      rw [kg 3 (by omega)]
      exact x3
  · exact by
      rw [kg 4 (by omega)]
      exact x4
  · exact fun k hk => by
      rw [kg 4 (by omega)] at hk
      rw [kg (76 + 2 * k) (by omega), kg (77 + 2 * k) (by omega), kg 0 (by omega)]
      exact x5 k hk
  · exact by
      rw [kg 5 (by omega)]
      exact x6
  · exact fun k hk => by
      rw [kg 5 (by omega)] at hk
      rw [kg (86 + 3 * k) (by omega), kg (87 + 3 * k) (by omega), kg (88 + 3 * k) (by omega)]
      exact x7 k hk
  · exact by
      rw [offG_6]
      omega
  · exact fun k hk => by
      rw [offG_6] at hk
      rw [kg 0 (by omega)]
      by_cases e : k = N
      · subst e
        rw [offG_c, offG_a]
        exact ⟨hc, hv⟩
      · rw [kg (110 + 2 * k) (by omega), kg (111 + 2 * k) (by omega)]
        exact x9 k (by omega)
  · exact fun i j hij hj => by
      rw [offG_6] at hj
      rw [kg (110 + 2 * i) (by omega)]
      by_cases e : j = N
      · subst e
        rw [offG_c]
        exact hn i hij
      · rw [kg (110 + 2 * j) (by omega)]
        exact x10 i j hij (by omega)
theorem gX_ask {g : Nat → Int} (hg : gR g) (hx : gX g) {k : Nat} {v : Int} (hk : (k : Int) < g 6) (hv : 0 ≤ v ∧ v ≤ 999) : gX (gU g (111 + 2 * k) v) := by
  have kg : ∀ z : Nat, ¬ (z = 111 + 2 * k) → gU g (111 + 2 * k) v z = g z := fun z h => gU_ne h
  obtain ⟨x1, x2, x3, x4, x5, x6, x7, x8, x9, x10⟩ := hx
  have h0 := hg.1
  have h5 := hg.2.1
  refine ⟨?_, ?_, ?_, ?_, ?_, ?_, ?_, ?_, ?_, ?_⟩
  · exact fun r hr => by
      rw [kg _ (by omega)]
      exact x1 r hr
  · exact by
      rw [kg 2 (by omega)]
      exact x2
  · exact by
      rw [kg 3 (by omega)]
      exact x3
  · exact by
      rw [kg 4 (by omega)]
      exact x4
  · exact fun k hk => by
      rw [kg 4 (by omega)] at hk
      rw [kg (76 + 2 * k) (by omega), kg (77 + 2 * k) (by omega), kg 0 (by omega)]
      exact x5 k hk
  · exact by
      rw [kg 5 (by omega)]
      exact x6
  · exact fun k hk => by
      rw [kg 5 (by omega)] at hk
      rw [kg (86 + 3 * k) (by omega), kg (87 + 3 * k) (by omega), kg (88 + 3 * k) (by omega)]
      exact x7 k hk
  · exact by
      rw [kg 6 (by omega)]
      exact x8
  · exact fun q hq => by
      rw [kg 6 (by omega)] at hq
      rw [kg 0 (by omega), kg (110 + 2 * q) (by omega)]
      by_cases e : q = k
      · subst e
        rw [gU_eq rfl]
        exact ⟨(x9 q (by omega)).1, hv⟩
      · rw [kg (111 + 2 * q) (by omega)]
        exact x9 q (by omega)
  · exact fun i j hij hj => by
      rw [kg 6 (by omega)] at hj
      rw [kg (110 + 2 * i) (by omega), kg (110 + 2 * j) (by omega)]
      exact x10 i j hij hj
/-- the state, the offers another -/
theorem stR_of {g g' : Nat → Int} {m m' : j_M0} (hg : gR g) (hx : gX g) (st : stR 3 g m) (kg : ∀ z : Nat, ¬ (z = 6 ∨ 110 ≤ z) → g' z = g z) (km : ∀ b z : Nat, ¬ (b < 3 ∨ 18 < b ∨ 9 ≤ b ∧ b ≤ 12) → m' b z = m b z) (o : ofR 9 g' m') : stR 3 g' m' := by
  have h0 := hg.1
  have h5 := hg.2.1
  have h8 := hg.2.2.2.1
  have x4 := hx.2.2.2.1
  have x6 := hx.2.2.2.2.2.1
  have x8 := hx.2.2.2.2.2.2.2.1
  refine ⟨?_, ?_, ?_, ?_, ?_, ?_, ?_, ?_, ?_⟩
  · exact pkR_g (pkR_k st.1 (fun b z h h' => km _ _ (by omega))) (fun z hz => kg _ (by omega)) (by omega) (by omega)
  · exact o
  · exact fun r hr => (km _ _ (by omega)).trans ((st.2.2.1 r hr).trans (kg _ (by omega)).symm)
  · exact (km _ _ (by omega)).trans (st.2.2.2.1.trans (kg _ (by omega)).symm)
  · exact (km _ _ (by omega)).trans (st.2.2.2.2.1.trans (kg _ (by omega)).symm)
  · exact (km _ _ (by omega)).trans (st.2.2.2.2.2.1.trans (kg _ (by omega)).symm)
  · exact fun k hk => by
      rw [kg 4 (by omega)] at hk
      exact ⟨(km _ _ (by omega)).trans ((st.2.2.2.2.2.2.1 k hk).1.trans (kg _ (by omega)).symm), (km _ _ (by omega)).trans ((st.2.2.2.2.2.2.1 k hk).2.trans (kg _ (by omega)).symm)⟩
  · exact (km _ _ (by omega)).trans (st.2.2.2.2.2.2.2.1.trans (kg _ (by omega)).symm)
  · exact fun k hk => by
      rw [kg 5 (by omega)] at hk
      exact ⟨(km _ _ (by omega)).trans ((st.2.2.2.2.2.2.2.2 k hk).1.trans (kg _ (by omega)).symm), (km _ _ (by omega)).trans ((st.2.2.2.2.2.2.2.2 k hk).2.1.trans (kg _ (by omega)).symm), (km _ _ (by omega)).trans ((st.2.2.2.2.2.2.2.2 k hk).2.2.trans (kg _ (by omega)).symm)⟩
