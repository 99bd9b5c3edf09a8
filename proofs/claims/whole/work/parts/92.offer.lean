/-! offer. -/
theorem L23 {C : Nat → List j_V → j_H → Option j_Z} {L N : Nat} {m : j_M0} {x : Int} (h9 : m 9 0 = N) (h20 : N ≤ 20) : ∀ j k : Nat, k + j = N → j_fin C 23 2 [some (jR 9), some (jI x), some (jI k)] [] (hH L m) = some (some (jI (ff (fun i => decide (m 10 i = x)) j k)), hH L m) := by
  intro j
  induction j with
  | zero =>
    intro k hk
    rw [T23_2, if_neg (by omega)]
    rfl
  | succ j ih =>
    intro k hk
    rw [T23_2, if_pos (by omega), if_pos (by omega), Int.toNat_natCast, nat1 (by omega)]
    unfold ff
    by_cases e : m 10 k = x
    · rw [if_pos e, if_pos (decide_eq_true e)]
    · rw [if_neg e, if_neg (fun h => e (of_decide_eq_true h))]
      exact ih (k + 1) (by omega)
theorem L241 {C : Nat → List j_V → j_H → Option j_Z} {L N : Nat} {m : j_M0} {x : Int} (h6 : m 110 6 = N) (h20 : N ≤ 20) : ∀ j k : Nat, k + j = N → j_fin C 241 2 [some (jR 109), some (jI x), some (jI k)] [] (hH L m) = some (some (jI (ff (fun i => decide (oC (m 110) i = x)) j k)), hH L m) := by
  intro j
  induction j with
  | zero =>
    intro k hk
    rw [T241_2, if_neg (by omega)]
    rfl
  | succ j ih =>
    intro k hk
    rw [T241_2, if_pos (by omega), w32_id (x := 2 * (k : Int)) (by omega) (by omega), w32_id (x := 110 + 2 * (k : Int)) (by omega) (by omega), if_pos (by omega), show (110 + 2 * (k : Int)).toNat = 110 + 2 * k by omega, show m 110 (110 + 2 * k) = oC (m 110) k from rfl, nat1 (by omega)]
    unfold ff
    by_cases e : oC (m 110) k = x
    · rw [if_pos e, if_pos (decide_eq_true e)]
    · rw [if_neg e, if_neg (fun h => e (of_decide_eq_true h))]
      exact ih (k + 1) (by omega)
theorem ff_y {p : Nat → Bool} {N : Nat} : (ff p N 0 = -1 ∧ ∀ i : Nat, i < N → p i = false) ∨ ∃ k : Nat, k < N ∧ ff p N 0 = k ∧ p k = true := by
  rcases ff_b p N 0 with h | ⟨h1, h2, h3⟩
  · exact Or.inl ⟨h, fun i hi => ff_n N 0 (by omega) i (Nat.zero_le i) (by omega)⟩
  · exact Or.inr ⟨(ff p N 0).toNat, by omega, by omega, h3⟩
/-- an ask is another -/
theorem ofR_ask {g : Nat → Int} {m : j_M0} (hg : gR g) (o : ofR 9 g m) {N : Nat} (hN : g 6 = N) (h20 : N ≤ 20) (hd : ∀ i j : Nat, i < j → j < N → oC g i ≠ oC g j) {k p : Nat} (hk : k < N) (hp : p < N) (e : oC g k = m 10 p) (v : Int) : ofR 9 (gU g (111 + 2 * k) v) (j_up m 12 p v) := by
  have h5 := hg.2.1
  have ec : ∀ x, cosF (gU g (111 + 2 * k) v) x = cosF g x := fun x => cosF_g h5 (fun z hz => gU_ne (by omega))
  have oo := o
  obtain ⟨w1, w2, w3, w4, w5⟩ := oo
  simp only [Nat.reduceAdd] at w2 w3 w4 w5
  have e6 : gU g (111 + 2 * k) v 6 = g 6 := gU_ne (by omega)
  unfold ofR
  rw [e6]
  simp only [Nat.reduceAdd]
  refine ⟨by rw [up_ne (by omega)]; exact w1, fun i j hij hj => ?_, fun i hi => ?_, fun i hi => ?_, fun q hq => ?_⟩
  · simp (disch := omega) only [up_ne]
    exact w2 i j hij hj
  · simp (disch := omega) only [up_ne]
    rw [ec]
    exact w3 i hi
  · rw [up_ne (show 10 ≠ 12 by omega), up_at]
    by_cases c : i = p
    · rw [if_pos c, c]
      exact ⟨k, by omega, by rw [gU_ne (by omega)]; exact e, gU_eq rfl⟩
    · rw [if_neg c]
      obtain ⟨q, q1, q2, q3⟩ := w4 i hi
      have qk : q ≠ k := fun h => by
        rw [h] at q2
        have e2 : m 10 i = m 10 p := q2.symm.trans e
        rcases Nat.lt_or_ge i p with h1 | h1
        · exact ofR_d o hN h1 hp e2
        · exact ofR_d o hN (show p < i by omega) (by omega) e2.symm
      exact ⟨q, q1, by rw [gU_ne (by omega)]; exact q2, by rw [gU_ne (by omega)]; exact q3⟩
  · by_cases c : q = k
    · subst c
      refine ⟨p, by omega, ?_, ?_⟩
      · rw [up_ne (by omega), gU_ne (by omega)]; exact e.symm
      · rw [up_eq rfl, gU_eq rfl]
    · obtain ⟨i, i1, i2, i3⟩ := w5 q hq
      have ip : i ≠ p := fun h => by
        rw [h] at i2
        have e2 : oC g q = oC g k := i2.symm.trans e.symm
        rcases Nat.lt_or_ge q k with h1 | h1
        · exact hd q k h1 hk e2
        · exact hd k q (by omega) (by omega) e2.symm
      refine ⟨i, i1, ?_, ?_⟩
      · rw [up_ne (by omega), gU_ne (by omega)]; exact i2
      · rw [up_nj ip, gU_ne (by omega)]; exact i3
/-- an offer comes -/
def offG (g : Nat → Int) (N : Nat) (x v : Int) : Nat → Int := gU (gU (gU g 6 ((N + 1 : Nat) : Int)) (110 + 2 * N) x) (111 + 2 * N) v
theorem offG_6 {g : Nat → Int} {N : Nat} {x v : Int} : offG g N x v 6 = ((N + 1 : Nat) : Int) := by
  unfold offG
  rw [gU_ne (by omega), gU_ne (by omega), gU_eq rfl]
theorem offG_ne {g : Nat → Int} {N : Nat} {x v : Int} {z : Nat} (h : z ≠ 6) (h2 : z ≠ 110 + 2 * N) (h3 : z ≠ 111 + 2 * N) : offG g N x v z = g z := by
  unfold offG
  rw [gU_ne h3, gU_ne h2, gU_ne h]
theorem offG_c {g : Nat → Int} {N : Nat} {x v : Int} : offG g N x v (110 + 2 * N) = x := by
  unfold offG
  rw [gU_ne (by omega), gU_eq rfl]
theorem offG_a {g : Nat → Int} {N : Nat} {x v : Int} : offG g N x v (111 + 2 * N) = v := gU_eq rfl
theorem ofR_new {g : Nat → Int} {m m' : j_M0} (hg : gR g) (o : ofR 9 g m) {N : Nat} (hN : g 6 = N) (h20 : N < 20) {x v : Int} (hx : ∀ i : Nat, i < N → m 10 i ≠ x) (s : shD 9 (N + 1) (insA (m 10) (posL (cosF g x) x (m 11) (m 10) N) x) (insA (m 11) (posL (cosF g x) x (m 11) (m 10) N) (cosF g x)) (insA (m 12) (posL (cosF g x) x (m 11) (m 10) N) v) m') : ofR 9 (offG g N x v) m' := by
  have h5 := hg.2.1
  have ec : ∀ y, cosF (offG g N x v) y = cosF g y := fun y => cosF_g h5 (fun z hz => offG_ne (by omega) (by omega) (by omega))
  obtain ⟨b1, b2, b3⟩ := posL_b (cosF g x) x (m 11) (m 10) N
  generalize posL (cosF g x) x (m 11) (m 10) N = p at s b1 b2 b3
  have hl : ∀ i j : Nat, i < N → j < N → (lsO (m 11 i) (m 10 i) (m 11 j) (m 10 j) ↔ i < j) := fun i j hi hj => ofR_l o hN hi hj
  -- those before are ahead
  have b4 : ∀ i : Nat, i < p → lsO (m 11 i) (m 10 i) (cosF g x) x := fun i hi => by
    have h1 : lsO (m 11 (p - 1)) (m 10 (p - 1)) (cosF g x) x := by
      have := b3 (by omega)
      have := hx (p - 1) (by omega)
      unfold lsO
      omega
    by_cases e : i = p - 1
    · rw [e]; exact h1
    · exact lsO_t ((hl i (p - 1) (by omega) (by omega)).mpr (by omega)) h1
  have b5 : ∀ i : Nat, p ≤ i → i < N → lsO (cosF g x) x (m 11 i) (m 10 i) := fun i h h' => b2 i h h'
  obtain ⟨s1, s2⟩ := s
  simp only [Nat.reduceAdd] at s2
  obtain ⟨w1, w2, w3, w4, w5⟩ := o
  simp only [Nat.reduceAdd] at w2 w3 w4 w5
  unfold ofR
  rw [offG_6]
  simp only [Nat.reduceAdd]
  refine ⟨s1, fun i j hij hj => ?_, fun i hi => ?_, fun i hi => ?_, fun q hq => ?_⟩
  · rw [(s2 i (by omega)).1, (s2 i (by omega)).2.1, (s2 j (by omega)).1, (s2 j (by omega)).2.1]
    by_cases c1 : i < p
    · rw [insA_lt c1, insA_lt c1]
      by_cases c2 : j < p
      · rw [insA_lt c2, insA_lt c2]; exact (hl i j (by omega) (by omega)).mpr hij
      · by_cases c3 : j = p
        · rw [insA_eq c3, insA_eq c3]; exact b4 i c1
        · rw [insA_gt (by omega), insA_gt (by omega)]; exact (hl i (j - 1) (by omega) (by omega)).mpr (by omega)
    · by_cases c3 : i = p
      · rw [insA_eq c3, insA_eq c3, insA_gt (by omega), insA_gt (by omega)]; exact b5 (j - 1) (by omega) (by omega)
      · rw [insA_gt (by omega), insA_gt (by omega), insA_gt (by omega), insA_gt (by omega)]; exact (hl (i - 1) (j - 1) (by omega) (by omega)).mpr (by omega)
  · rw [(s2 i (by omega)).1, (s2 i (by omega)).2.1, ec]
    by_cases c1 : i < p
    · rw [insA_lt c1, insA_lt c1]; exact w3 i (by omega)
    · by_cases c3 : i = p
      · rw [insA_eq c3, insA_eq c3]
      · rw [insA_gt (by omega), insA_gt (by omega)]; exact w3 (i - 1) (by omega)
  · rw [(s2 i (by omega)).1, (s2 i (by omega)).2.2]
    have old : ∀ i : Nat, i < N → ∃ k : Nat, (k : Int) < ((N + 1 : Nat) : Int) ∧ offG g N x v (110 + 2 * k) = m 10 i ∧ offG g N x v (111 + 2 * k) = m 12 i := fun i hi => by
      obtain ⟨k, k1, k2, k3⟩ := w4 i (by omega)
      exact ⟨k, by omega, by rw [offG_ne (by omega) (by omega) (by omega)]; exact k2, by rw [offG_ne (by omega) (by omega) (by omega)]; exact k3⟩
    by_cases c1 : i < p
    · rw [insA_lt c1, insA_lt c1]; exact old i (by omega)
    · by_cases c3 : i = p
      · rw [insA_eq c3, insA_eq c3]; exact ⟨N, by omega, offG_c, offG_a⟩
      · rw [insA_gt (by omega), insA_gt (by omega)]; exact old (i - 1) (by omega)
  · by_cases c : q = N
    · subst c
      refine ⟨p, by omega, ?_, ?_⟩
      · rw [(s2 p (by omega)).1, insA_eq rfl, offG_c]
      · rw [(s2 p (by omega)).2.2, insA_eq rfl, offG_a]
    · obtain ⟨i, i1, i2, i3⟩ := w5 q (by omega)
      rw [offG_ne (by omega) (by omega) (by omega), offG_ne (by omega) (by omega) (by omega)]
      by_cases c1 : i < p
      · refine ⟨i, by omega, ?_, ?_⟩
        · rw [(s2 i (by omega)).1, insA_lt c1]; exact i2
        · rw [(s2 i (by omega)).2.2, insA_lt c1]; exact i3
      · refine ⟨i + 1, by omega, ?_, ?_⟩
        · rw [(s2 (i + 1) (by omega)).1, insA_gt (by omega), Nat.add_sub_cancel]; exact i2
        · rw [(s2 (i + 1) (by omega)).2.2, insA_gt (by omega), Nat.add_sub_cancel]; exact i3
theorem gX_new {g : Nat → Int} (hg : gR g) (hx : gX g) {N : Nat} (hN : g 6 = N) (h20 : N < 20) {x v : Int} (hc : 0 ≤ x ∧ x < tenF (g 0).toNat) (hv : 0 ≤ v ∧ v ≤ 999) (hn : ∀ k : Nat, k < N → oC g k ≠ x) : gX (offG g N x v) := by
  have kg : ∀ z : Nat, ¬ (z = 6 ∨ z = 110 + 2 * N ∨ z = 111 + 2 * N) → offG g N x v z = g z := fun z h => offG_ne (by omega) (by omega) (by omega)
  obtain ⟨x1, x2, x3, x4, x5, x6, x7, x8, x9, x10⟩ := hx
  have h0 := hg.1
  have h5 := hg.2.1
  refine ⟨?_, ?_, ?_, ?_, ?_, ?_, ?_, ?_, ?_, ?_⟩
  · exact fun r hr => by
      rw [kg _ (by omega)]
      exact x1 r hr
  · exact by
      rw [kg 2 (by omega)]
      exact x2
  · exact by
      rw [kg 3 (by omega)]
      exact x3
  · exact by
      rw [kg 4 (by omega)]
      exact x4
  · exact fun k hk => by
      rw [kg 4 (by omega)] at hk
      rw [kg (76 + 2 * k) (by omega), kg (77 + 2 * k) (by omega), kg 0 (by omega)]
      exact x5 k hk
  · exact by
      rw [kg 5 (by omega)]
      exact x6
  · exact fun k hk => by
      rw [kg 5 (by omega)] at hk
      rw [kg (86 + 3 * k) (by omega), kg (87 + 3 * k) (by omega), kg (88 + 3 * k) (by omega)]
      exact x7 k hk
  · exact by
      rw [offG_6]
      omega
  · exact fun k hk => by
      rw [offG_6] at hk
      rw [kg 0 (by omega)]
      by_cases e : k = N
      · subst e
        rw [offG_c, offG_a]
        exact ⟨hc, hv⟩
      · rw [kg (110 + 2 * k) (by omega), kg (111 + 2 * k) (by omega)]
        exact x9 k (by omega)
  · exact fun i j hij hj => by
      rw [offG_6] at hj
      rw [kg (110 + 2 * i) (by omega)]
      by_cases e : j = N
      · subst e
        rw [offG_c]
        exact hn i hij
      · rw [kg (110 + 2 * j) (by omega)]
        exact x10 i j hij (by omega)
theorem gX_ask {g : Nat → Int} (hg : gR g) (hx : gX g) {k : Nat} {v : Int} (hk : (k : Int) < g 6) (hv : 0 ≤ v ∧ v ≤ 999) : gX (gU g (111 + 2 * k) v) := by
  have kg : ∀ z : Nat, ¬ (z = 111 + 2 * k) → gU g (111 + 2 * k) v z = g z := fun z h => gU_ne h
  obtain ⟨x1, x2, x3, x4, x5, x6, x7, x8, x9, x10⟩ := hx
  have h0 := hg.1
  have h5 := hg.2.1
  refine ⟨?_, ?_, ?_, ?_, ?_, ?_, ?_, ?_, ?_, ?_⟩
  · exact fun r hr => by
      rw [kg _ (by omega)]
      exact x1 r hr
  · exact by
      rw [kg 2 (by omega)]
      exact x2
  · exact by
      rw [kg 3 (by omega)]
      exact x3
  · exact by
      rw [kg 4 (by omega)]
      exact x4
  · exact fun k hk => by
      rw [kg 4 (by omega)] at hk
      rw [kg (76 + 2 * k) (by omega), kg (77 + 2 * k) (by omega), kg 0 (by omega)]
      exact x5 k hk
  · exact by
      rw [kg 5 (by omega)]
      exact x6
  · exact fun k hk => by
      rw [kg 5 (by omega)] at hk
      rw [kg (86 + 3 * k) (by omega), kg (87 + 3 * k) (by omega), kg (88 + 3 * k) (by omega)]
      exact x7 k hk
  · exact by
      rw [kg 6 (by omega)]
      exact x8
  · exact fun q hq => by
      rw [kg 6 (by omega)] at hq
      rw [kg 0 (by omega), kg (110 + 2 * q) (by omega)]
      by_cases e : q = k
      · subst e
        rw [gU_eq rfl]
        exact ⟨(x9 q (by omega)).1, hv⟩
      · rw [kg (111 + 2 * q) (by omega)]
        exact x9 q (by omega)
  · exact fun i j hij hj => by
      rw [kg 6 (by omega)] at hj
      rw [kg (110 + 2 * i) (by omega), kg (110 + 2 * j) (by omega)]
      exact x10 i j hij hj
/-- the state, the offers another -/
theorem stR_of {g g' : Nat → Int} {m m' : j_M0} (hg : gR g) (hx : gX g) (st : stR 3 g m) (kg : ∀ z : Nat, ¬ (z = 6 ∨ 110 ≤ z) → g' z = g z) (km : ∀ b z : Nat, ¬ (b < 3 ∨ 18 < b ∨ 9 ≤ b ∧ b ≤ 12) → m' b z = m b z) (o : ofR 9 g' m') : stR 3 g' m' := by
  have h0 := hg.1
  have h5 := hg.2.1
  have h8 := hg.2.2.2.1
  have x4 := hx.2.2.2.1
  have x6 := hx.2.2.2.2.2.1
  have x8 := hx.2.2.2.2.2.2.2.1
  refine ⟨?_, ?_, ?_, ?_, ?_, ?_, ?_, ?_, ?_⟩
  · exact pkR_g (pkR_k st.1 (fun b z h h' => km _ _ (by omega))) (fun z hz => kg _ (by omega)) (by omega) (by omega)
  · exact o
  · exact fun r hr => (km _ _ (by omega)).trans ((st.2.2.1 r hr).trans (kg _ (by omega)).symm)
  · exact (km _ _ (by omega)).trans (st.2.2.2.1.trans (kg _ (by omega)).symm)
  · exact (km _ _ (by omega)).trans (st.2.2.2.2.1.trans (kg _ (by omega)).symm)
  · exact (km _ _ (by omega)).trans (st.2.2.2.2.2.1.trans (kg _ (by omega)).symm)
  · exact fun k hk => by
      rw [kg 4 (by omega)] at hk
      exact ⟨(km _ _ (by omega)).trans ((st.2.2.2.2.2.2.1 k hk).1.trans (kg _ (by omega)).symm), (km _ _ (by omega)).trans ((st.2.2.2.2.2.2.1 k hk).2.trans (kg _ (by omega)).symm)⟩
  · exact (km _ _ (by omega)).trans (st.2.2.2.2.2.2.2.1.trans (kg _ (by omega)).symm)
  · exact fun k hk => by
      rw [kg 5 (by omega)] at hk
      exact ⟨(km _ _ (by omega)).trans ((st.2.2.2.2.2.2.2.2 k hk).1.trans (kg _ (by omega)).symm), (km _ _ (by omega)).trans ((st.2.2.2.2.2.2.2.2 k hk).2.1.trans (kg _ (by omega)).symm), (km _ _ (by omega)).trans ((st.2.2.2.2.2.2.2.2 k hk).2.2.trans (kg _ (by omega)).symm)⟩
theorem PA121 {L : Nat} {xs : Nat → Int32} {m : j_M0} (w : Rel xs m) (x v : Int) : PA L xs 121 242 [jI x, jI v] m := by
  obtain ⟨N, ox, o, e9⟩ := Rel_of w
  have hN := ox.2.1
  have h20 := ox.2.2.1
  have hd := ox.2.2.2.2
  have n := Rel_n w
  have wP := Rel_vP w
  have ht := w.1.2
  have t := tenF_r (m 110 0).toNat (by omega)
  have q1 : c_call 9 138 [jR 2, jI x] (hH L m) = some (some (jI (bI (0 ≤ x ∧ x < tenF (m 110 0).toNat))), hH L m) := by
    have h := Q138 (d := 8) (L := L) (m := m) (x := x) (by omega)
    rw [n.2.2.2.2.1, ht _ (by omega)] at h
    exact h
  have q2 : ∀ m' : j_M0, m' 110 = m 110 → c_call 9 211 [jR 109, jI x] (hH L m') = some (some (jI (bI (0 ≤ x ∧ x < tenF (m 110 0).toNat))), hH L m') := fun m' h => Q211 (d := 6) (n := (m 110 0).toNat) (by rw [h]; omega) (by omega)
  by_cases g1 : 0 ≤ x ∧ x < tenF (m 110 0).toNat
  · by_cases g2 : 0 ≤ v ∧ v ≤ 999
    · have q23 : c_call 9 23 [jR 9, jI x] (hH L m) = _ := (E23 (d := 8)).trans (T23_0.trans (L23 e9 h20 N 0 (by omega)))
      have q241 : ∀ m' : j_M0, m' 110 = m 110 → c_call 9 241 [jR 109, jI x] (hH L m') = some (some (jI (ff (fun i => decide (oC (m 110) i = x)) N 0)), hH L m') := fun m' h => by
        have a := L241 (C := c_call 8) (L := L) (m := m') (x := x) (by rw [h]; exact hN) h20 N 0 (by omega)
        rw [h] at a
        exact (E241 (d := 8)).trans (T241_0.trans a)
      have hc : c_call 10 121 [jR 2, jI x, jI v] (hH L m) = j_fin (c_call 9) 121 33 [some (jR 2), some (jI x), some (jI v), none, none] [jI (ff (fun i => decide (m 10 i = x)) N 0)] (hH L m) := by
        refine (E121 (d := 9)).trans ?_
        rw [T121_0, q1]
        simp only [Option.bind_some, Option.toList_some, List.cons_append, List.nil_append]
        rw [bI_t g1, T121_5, if_neg (by decide), if_neg (by omega), if_neg (by omega), q23]
        simp only [Option.bind_some, Option.toList_some, List.cons_append, List.nil_append]
      have hm : ∀ m' : j_M0, m' 110 = m 110 → c_call 10 242 [jR 109, jI x, jI v] (hH L m') = j_fin (c_call 9) 242 28 [some (jR 109), some (jI x), some (jI v), none, none] [jI (ff (fun i => decide (oC (m 110) i = x)) N 0)] (hH L m') := fun m' h => by
        refine (E242 (d := 9)).trans ?_
        rw [T242_0, q2 m' h]
        simp only [Option.bind_some, Option.toList_some, List.cons_append, List.nil_append]
        rw [bI_t g1, T242_5, if_neg (by decide), Q150]
        simp only [Option.bind_some, Option.toList_some, List.cons_append, List.nil_append]
        rw [bI_t g2, T242_17, if_neg (by decide), q241 m' h]
        simp only [Option.bind_some, Option.toList_some, List.cons_append, List.nil_append]
      rcases ff_y (p := fun i => decide (m 10 i = x)) (N := N) with ⟨a1, a2⟩ | ⟨p, a1, a2, a3⟩
      · have b1 : ff (fun i => decide (oC (m 110) i = x)) N 0 = -1 ∧ ∀ k : Nat, k < N → oC (m 110) k ≠ x := by
          rcases ff_y (p := fun i => decide (oC (m 110) i = x)) (N := N) with ⟨b1, b2⟩ | ⟨k, b1, b2, b3⟩
          · exact ⟨b1, fun k hk => of_decide_eq_false (b2 k hk)⟩
          · obtain ⟨i, i1, i2, -⟩ := ofR_j o hN b1
            have c1 := of_decide_eq_true b3
            exact absurd (i2.symm.trans c1) (of_decide_eq_false (a2 i i1))
        by_cases g3 : N = 20
        · rw [a1, T121_33, if_pos (by decide), if_neg (by omega)] at hc
          have hm0 := hm m rfl
          rw [b1.1, T242_28, if_pos (by decide), if_pos (by omega)] at hm0
          exact PA_r w hc hm0
        · have q14 : c_call 9 14 [jR 4, jI x] (hH L m) = some (some (jI (cosF (m 110) x)), hH L m) := by
            rw [cosF_h]
            exact Q14 (d := 7) wP ht (by omega)
          have sh : shD 9 N (m 10) (m 11) (m 12) m := ⟨e9, fun i hi => ⟨rfl, rfl, rfl⟩⟩
          obtain ⟨m1, r1, r2, r3⟩ := Q25_9 (d := 7) (L := L) (code := x) (cost := cosF (m 110) x) (ask := v) sh (by omega)
          have e110 : m1 110 = m 110 := funext (fun z => kpt_at r2 (by omega))
          have hm1 := hm m1 e110
          rw [a1, T121_33, if_pos (by decide), if_pos (by omega), q14] at hc
          simp only [Option.bind_some, Option.toList_some, List.cons_append, List.nil_append] at hc
          rw [T121_105, show c_call 9 25 _ (hH L m) = _ from r1] at hc
          simp only [Option.bind_some, Option.toList_some, List.cons_append, List.nil_append, Option.toList_none] at hc
          rw [T121_109] at hc
          have i1 : w32 (110 + w32 (2 * (N : Int))) = 110 + 2 * (N : Int) := by rw [w32_id (x := 2 * (N : Int)) (by omega) (by omega), w32_id (by omega) (by omega)]
          have i2 : w32 (110 + 2 * (N : Int) + 1) = 111 + 2 * (N : Int) := by rw [w32_id (by omega) (by omega)]; omega
          rw [b1.1, T242_28, if_pos (by decide), e110, hN, if_neg (by omega), if_pos (by decide), if_pos (by decide), i1, i2, if_pos (by omega), if_pos (by omega), show (110 + 2 * (N : Int)).toNat = 110 + 2 * N by omega, show (111 + 2 * (N : Int)).toNat = 111 + 2 * N by omega, nat1 (by omega)] at hm1
          have e2 : (j_up (j_up (j_up m1 110 6 ((N + 1 : Nat) : Int)) 110 (110 + 2 * N) x) 110 (111 + 2 * N) v) 110 = offG (m 110) N x v := by rw [up_g, up_g, up_g, e110]; rfl
          have o2 : ofR 9 (offG (m 110) N x v) m1 := ofR_new w.2.1 o hN (by omega) (fun i hi => of_decide_eq_false (a2 i hi)) r3
          refine ⟨jI (-5), m1, _, hc, hm1, Rel_up w (kpt_tr (kpt_w r2 (fun b z h => by unfold uPd; omega)) (kpt_tr (kpt_tr (kpt_up (by unfold uPd; omega)) (kpt_up (by unfold uPd; omega))) (kpt_up (by unfold uPd; omega)))) (by rw [e2]; exact gR_far (gR_far (gR_far w.2.1 (by omega)) (by omega)) (by omega)) (by rw [e2]; exact gX_new w.2.1 w.2.2.1 hN (by omega) g1 g2 b1.2) ?_ (Or.inr ⟨?_, ?_, ?_⟩)⟩
          · rw [e2]
            refine stR_of w.2.1 w.2.2.1 w.2.2.2.1 (fun z h => offG_ne (by omega) (by omega) (by omega)) (fun b z h => ?_) (ofR_k o2 (fun b z h h' => ?_))
            · rw [up_ne (by omega), up_ne (by omega), up_ne (by omega)]
              exact kpt_at r2 (by omega)
            · rw [up_ne (by omega), up_ne (by omega), up_ne (by omega)]
          · rw [up_ne (by omega), up_ne (by omega), up_ne (by omega)]
            exact kpt_at r2 (by omega)
          · rw [up_ne (by omega), up_ne (by omega), up_ne (by omega)]
            exact kpt_at r2 (by omega)
          · rw [e2, offG_ne (by omega) (by omega) (by omega)]
      · have c0 : m 10 p = x := of_decide_eq_true a3
        obtain ⟨k, b1, b2, b3⟩ : ∃ k : Nat, k < N ∧ ff (fun i => decide (oC (m 110) i = x)) N 0 = k ∧ oC (m 110) k = x := by
          rcases ff_y (p := fun i => decide (oC (m 110) i = x)) (N := N) with ⟨b1, b2⟩ | ⟨k, b1, b2, b3⟩
          · obtain ⟨i, i1, i2, -⟩ := ofR_i o hN a1
            exact absurd (i2.trans c0) (of_decide_eq_false (b2 i i1))
          · exact ⟨k, b1, b2, of_decide_eq_true b3⟩
        obtain ⟨q, u1, u2, u3, -⟩ := ofR_i o hN a1
        simp only [Nat.reduceAdd] at u2 u3
        have qk : q = k := by
          have e := (u2.trans c0).trans b3.symm
          rcases Nat.lt_trichotomy q k with h | h | h
          · exact absurd e (hd q k h b1)
          · exact h
          · exact absurd e.symm (hd k q h u1)
        rw [qk] at u3
        have e110 : (j_up m 12 p v) 110 = m 110 := e110_up (by decide)
        have hm1 := hm (j_up m 12 p v) e110
        rw [a2, T121_33, if_neg (by omega), if_pos (by omega), if_pos (by omega), Int.toNat_natCast] at hc
        have i1 : w32 (110 + w32 (2 * (k : Int))) = 110 + 2 * (k : Int) := by rw [w32_id (x := 2 * (k : Int)) (by omega) (by omega), w32_id (by omega) (by omega)]
        have i2 : w32 (110 + 2 * (k : Int) + 1) = 111 + 2 * (k : Int) := by rw [w32_id (by omega) (by omega)]; omega
        have kn : ¬ ((k : Int) < 0) := by omega
        have j1 : 0 ≤ 110 + 2 * (k : Int) ∧ 110 + 2 * (k : Int) < 150 := by omega
        have j2 : 0 ≤ 111 + 2 * (k : Int) ∧ 111 + 2 * (k : Int) < 150 := by omega
        rw [b2, T242_28] at hm1
        simp only [if_neg kn, i1, i2, if_pos j1, if_pos j2, show (110 + 2 * (k : Int)).toNat = 110 + 2 * k by omega, show (111 + 2 * (k : Int)).toNat = 111 + 2 * k by omega, e110] at hm1
        have e2 : (j_up (j_up (j_up m 12 p v) 110 (110 + 2 * k) x) 110 (111 + 2 * k) v) 110 = gU (m 110) (111 + 2 * k) v := by
          rw [up_g, up_g, e110, ← b3]
          show gU (gU (m 110) (110 + 2 * k) (m 110 (110 + 2 * k))) (111 + 2 * k) v = _
          rw [show gU (m 110) (110 + 2 * k) (m 110 (110 + 2 * k)) = m 110 from funext (fun z => by
            unfold gU
            by_cases e : z = 110 + 2 * k
            · rw [if_pos e, e]
            · rw [if_neg e])]
        rw [show m 110 (111 + 2 * k) = m 12 p from u3] at hm1
        refine ⟨jI (m 12 p), j_up m 12 p v, _, hc, hm1, Rel_up w (kpt_tr (kpt_up (by unfold uPd; omega)) (kpt_tr (kpt_up (by unfold uPd; omega)) (kpt_up (by unfold uPd; omega)))) (by rw [e2]; exact gR_far w.2.1 (by omega)) (by rw [e2]; exact gX_ask w.2.1 w.2.2.1 (by omega) g2) ?_ (Or.inr ⟨?_, ?_, ?_⟩)⟩
        · rw [e2]
          refine stR_of w.2.1 w.2.2.1 w.2.2.2.1 (fun z h => gU_ne (by omega)) (fun b z h => ?_) (ofR_k (ofR_ask w.2.1 o hN h20 hd b1 a1 (b3.trans c0.symm) v) (fun b z h h' => ?_))
          · rw [up_ne (by omega), up_ne (by omega), up_ne (by omega)]
          · rw [up_ne (by omega), up_ne (by omega)]
        · rw [up_ne (by omega), up_ne (by omega), up_ne (by omega)]
        · rw [up_ne (by omega), up_ne (by omega), up_ne (by omega)]
        · rw [e2, gU_ne (by omega)]
    · refine PA_r w (v := jI (-2)) ((E121 (d := 9)).trans ?_) ((E242 (d := 9)).trans ?_)
      · rw [T121_0, q1]
        simp only [Option.bind_some, Option.toList_some, List.cons_append, List.nil_append]
        rw [bI_t g1, T121_5, if_neg (by decide)]
        by_cases a : v < 0
        · rw [if_pos a]
        · rw [if_neg a, if_pos (by omega)]
      · rw [T242_0, q2 m rfl]
        simp only [Option.bind_some, Option.toList_some, List.cons_append, List.nil_append]
        rw [bI_t g1, T242_5, if_neg (by decide), Q150]
        simp only [Option.bind_some, Option.toList_some, List.cons_append, List.nil_append]
        rw [bI_f g2, T242_17, if_pos rfl]
  · refine PA_r w (v := jI (-2)) ((E121 (d := 9)).trans ?_) ((E242 (d := 9)).trans ?_)
    · rw [T121_0, q1]
      simp only [Option.bind_some, Option.toList_some, List.cons_append, List.nil_append]
      rw [bI_f g1, T121_5, if_pos rfl]
    · rw [T242_0, q2 m rfl]
      simp only [Option.bind_some, Option.toList_some, List.cons_append, List.nil_append]
      rw [bI_f g1, T242_5, if_pos rfl]
