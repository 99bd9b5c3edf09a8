/-! solve, image, undo, plan. -/
/-! the image -/
theorem gR_e {g g' : Nat → Int} (h : gR g) (e : ∀ z : Nat, z < 150 → g' z = g z) : gR g' := by
  obtain ⟨h1, h2, h3, h4, h5, h6, h7⟩ := h
  unfold gR
  rw [e 0 (by omega), e 1 (by omega)]
  refine ⟨h1, h2, h3, h4, fun p hp => ?_, fun q hq => ?_, fun q p hq hp => ?_⟩
  · rw [e _ (by omega)]; exact h5 p hp
  · rw [e _ (by omega), e _ (by omega)]; exact h6 q hq
  · rw [e _ (by omega)]; exact h7 q p hq hp
theorem gX_e {g g' : Nat → Int} (hg : gR g) (hx : gX g) (e : ∀ z : Nat, z < 150 → g' z = g z) : gX g' := by
  have kg : ∀ z : Nat, ¬ (150 ≤ z) → g' z = g z := fun z h => e z (by omega)
  obtain ⟨x1, x2, x3, x4, x5, x6, x7, x8, x9, x10⟩ := hx
  refine ⟨?_, ?_, ?_, ?_, ?_, ?_, ?_, ?_, ?_, ?_⟩
  · exact fun r hr => by
      rw [kg _ (by omega)]
      exact x1 r hr
  · exact by
      rw [kg 2 (by omega)]
      exact x2
  · exact by
      rw [kg 3 (by omega)]
      exact x3
  · exact by
      rw [kg 4 (by omega)]
      exact x4
  · exact fun k hk => by
      rw [kg 4 (by omega)] at hk
      rw [kg (76 + 2 * k) (by omega), kg (77 + 2 * k) (by omega), kg 0 (by omega)]
      exact x5 k hk
  · exact by
      rw [kg 5 (by omega)]
      exact x6
  · exact fun k hk => by
      rw [kg 5 (by omega)] at hk
      rw [kg (86 + 3 * k) (by omega), kg (87 + 3 * k) (by omega), kg (88 + 3 * k) (by omega)]
      exact x7 k hk
  · exact by
      rw [kg 6 (by omega)]
      exact x8
  · exact fun k hk => by
      rw [kg 6 (by omega)] at hk
      rw [kg (110 + 2 * k) (by omega), kg (111 + 2 * k) (by omega), kg 0 (by omega)]
      exact x9 k hk
  · exact fun i j hij hj => by
      rw [kg 6 (by omega)] at hj
      rw [kg (110 + 2 * i) (by omega), kg (110 + 2 * j) (by omega)]
      exact x10 i j hij hj
theorem ofR_e {a : Nat} {g g' : Nat → Int} {m : j_M0} (w : ofR a g m) (h0 : g 0 ≤ 5) (h6 : g 6 ≤ 20) (e : ∀ z, z < 150 → g' z = g z) : ofR a g' m := by
  have ec : ∀ x, cosF g' x = cosF g x := fun x => cosF_g h0 (fun z hz => e z (by omega))
  obtain ⟨w1, w2, w3, w4, w5⟩ := w
  have e6 := e 6 (by omega)
  unfold ofR
  rw [e6]
  refine ⟨w1, w2, fun i hi => ?_, fun i hi => ?_, fun k hk => ?_⟩
  · rw [ec]; exact w3 i hi
  · obtain ⟨k, k1, k2, k3⟩ := w4 i hi
    exact ⟨k, k1, by rw [e _ (by omega)]; exact k2, by rw [e _ (by omega)]; exact k3⟩
  · rw [e _ (by omega), e _ (by omega)]; exact w5 k hk
theorem stR_e {a : Nat} {g g' : Nat → Int} {m : j_M0} (hg : gR g) (hx : gX g) (st : stR a g m) (e : ∀ z : Nat, z < 150 → g' z = g z) : stR a g' m := by
  have kg : ∀ z : Nat, ¬ (150 ≤ z) → g' z = g z := fun z h => e z (by omega)
  have km : ∀ b z : Nat, True → m b z = m b z := fun b z _ => rfl
  have h0 := hg.1
  have h5 := hg.2.1
  have h8 := hg.2.2.2.1
  have x4 := hx.2.2.2.1
  have x6 := hx.2.2.2.2.2.1
  have x8 := hx.2.2.2.2.2.2.2.1
  refine ⟨?_, ?_, ?_, ?_, ?_, ?_, ?_, ?_, ?_⟩
  · exact pkR_g (pkR_k st.1 (fun b z h h' => km _ _ trivial)) (fun z hz => kg _ (by omega)) (by omega) (by omega)
  · exact ofR_e st.2.1 h5 x8.2 e
  · exact fun r hr => (km _ _ trivial).trans ((st.2.2.1 r hr).trans (kg _ (by omega)).symm)
  · exact (km _ _ trivial).trans (st.2.2.2.1.trans (kg _ (by omega)).symm)
  · exact (km _ _ trivial).trans (st.2.2.2.2.1.trans (kg _ (by omega)).symm)
  · exact (km _ _ trivial).trans (st.2.2.2.2.2.1.trans (kg _ (by omega)).symm)
  · exact fun k hk => by
      rw [kg 4 (by omega)] at hk
      exact ⟨(km _ _ trivial).trans ((st.2.2.2.2.2.2.1 k hk).1.trans (kg _ (by omega)).symm), (km _ _ trivial).trans ((st.2.2.2.2.2.2.1 k hk).2.trans (kg _ (by omega)).symm)⟩
  · exact (km _ _ trivial).trans (st.2.2.2.2.2.2.2.1.trans (kg _ (by omega)).symm)
  · exact fun k hk => by
      rw [kg 5 (by omega)] at hk
      exact ⟨(km _ _ trivial).trans ((st.2.2.2.2.2.2.2.2 k hk).1.trans (kg _ (by omega)).symm), (km _ _ trivial).trans ((st.2.2.2.2.2.2.2.2 k hk).2.1.trans (kg _ (by omega)).symm), (km _ _ trivial).trans ((st.2.2.2.2.2.2.2.2 k hk).2.2.trans (kg _ (by omega)).symm)⟩
theorem ofR_c {a b : Nat} {g : Nat → Int} {m m' : j_M0} (w : ofR a g m) (h6 : g 6 ≤ 20) (f0 : m' b 0 = m a 0) (f : ∀ i : Nat, i < 20 → m' (b + 1) i = m (a + 1) i ∧ m' (b + 2) i = m (a + 2) i ∧ m' (b + 3) i = m (a + 3) i) : ofR b g m' := by
  obtain ⟨w1, w2, w3, w4, w5⟩ := w
  refine ⟨f0.trans w1, fun i j hij hj => ?_, fun i hi => ?_, fun i hi => ?_, fun k hk => ?_⟩
  · rw [(f i (by omega)).1, (f i (by omega)).2.1, (f j (by omega)).1, (f j (by omega)).2.1]; exact w2 i j hij hj
  · rw [(f i (by omega)).1, (f i (by omega)).2.1]; exact w3 i hi
  · rw [(f i (by omega)).1, (f i (by omega)).2.2]; exact w4 i hi
  · obtain ⟨i, i1, i2, i3⟩ := w5 k hk
    exact ⟨i, i1, by rw [(f i (by omega)).1]; exact i2, by rw [(f i (by omega)).2.2]; exact i3⟩
theorem Q21_25 {d : Nat} {L : j_B} {g : Nat → Int} {m : j_M0} (w : ofR 9 g m) (h6 : g 6 ≤ 20) : ∃ m', c_call (d + 1) 21 [jR 25, jR 9] (hH L m) = some (none, hH L m') ∧ kpt (fun c _ => 25 ≤ c ∧ c ≤ 28) m m' ∧ ofR 25 g m' := by
  rw [E21, T21_0_25_9]
  refine ⟨_, rfl, fun c z => ?_, ofR_c w h6 ?_ (fun i hi => ?_)⟩
  · by_cases e : 25 ≤ c ∧ c ≤ 28
    · exact Or.inl e
    · right
      rw [cpy_ne (by omega), cpy_ne (by omega), cpy_ne (by omega), up_ne (by omega)]
  · rw [cpy_ne (by omega), cpy_ne (by omega), cpy_ne (by omega), up_eq rfl]
  · simp (disch := omega) only [Nat.reduceAdd, cpy_ne, cpy_at, up_ne, if_pos hi]
    exact ⟨trivial, trivial, trivial⟩
theorem Q32_19 {d : Nat} {L : j_B} {g : Nat → Int} {m : j_M0} (hx : gX g) (st : stR 3 g m) : ∃ m', c_call (d + 2) 32 [jR 19, jR 3] (hH L m) = some (none, hH L m') ∧ kpt (fun c _ => 19 ≤ c ∧ c ≤ 34) m m' ∧ stR 19 g m' := by
  have x4 := hx.2.2.2.1
  have x6 := hx.2.2.2.2.2.1
  have x8 := hx.2.2.2.2.2.2.2.1
  obtain ⟨m1, t1, t2, t3⟩ := Q8_20 (d := d) (L := L) st.1
  have o1 : ofR 9 g m1 := ofR_k st.2.1 (fun b z h h' => kpt_at t2 (by omega))
  obtain ⟨m2, s1, s2, s3⟩ := Q21_25 (d := d) (L := L) o1 x8.2
  have q : ∀ b z : Nat, ¬ (20 ≤ b ∧ b ≤ 28) → m2 b z = m b z := fun b z h => (kpt_at s2 (by omega)).trans (kpt_at t2 (by omega))
  rw [E32, T32_0_19_3, t1]
  simp only [Option.bind_some, Option.toList_some, List.cons_append, List.nil_append, Option.toList_none]
  rw [T32_11_19_3, s1]
  simp only [Option.bind_some, Option.toList_some, List.cons_append, List.nil_append, Option.toList_none]
  rw [T32_22_19_3]
  obtain ⟨st1, st2, st3, st4, st5, st6, st7, st8, st9⟩ := st
  simp only [Nat.reduceAdd] at st3 st7 st9
  refine ⟨_, rfl, fun c z => ?_, ?_⟩
  · by_cases e : 19 ≤ c ∧ c ≤ 34
    · exact Or.inl e
    · right
      simp (disch := omega) only [cpy_ne, up_ne]
      exact q _ _ (by omega)
  · refine ⟨pkR_k t3 (fun b z h h' => ?_), ofR_k s3 (fun b z h h' => ?_), fun r hr => ?_, ?_, ?_, ?_, fun k hk => ?_, ?_, fun k hk => ?_⟩
    · simp (disch := omega) only [cpy_ne, up_ne]
      exact kpt_at s2 (by omega)
    · simp (disch := omega) only [cpy_ne, up_ne]
    · simp (disch := omega) only [Nat.reduceAdd, cpy_ne, cpy_at, up_ne, if_pos hr]
      rw [q _ _ (by omega)]
      exact st3 r hr
    · simp (disch := omega) only [Nat.reduceAdd, cpy_ne, cpy_at, up_ne, up_nj, up_eq]
      rw [q _ _ (by omega)]
      exact st4
    · simp (disch := omega) only [Nat.reduceAdd, cpy_ne, cpy_at, up_ne, up_nj, up_eq]
      rw [q _ _ (by omega)]
      exact st5
    · simp (disch := omega) only [Nat.reduceAdd, cpy_ne, cpy_at, up_ne, up_nj, up_eq]
      rw [q _ _ (by omega)]
      exact st6
    · simp (disch := omega) only [Nat.reduceAdd, cpy_ne, cpy_at, up_ne, if_pos (show k < 5 by omega)]
      rw [q _ _ (by omega), q _ _ (by omega)]
      exact st7 k hk
    · simp (disch := omega) only [Nat.reduceAdd, cpy_ne, cpy_at, up_ne, up_nj, up_eq]
      rw [q _ _ (by omega)]
      exact st8
    · simp (disch := omega) only [Nat.reduceAdd, cpy_ne, cpy_at, up_ne, if_pos (show k < 8 by omega)]
      rw [q _ _ (by omega), q _ _ (by omega), q _ _ (by omega)]
      exact st9 k hk
theorem Q21_9 {d : Nat} {L : j_B} {g : Nat → Int} {m : j_M0} (w : ofR 25 g m) (h6 : g 6 ≤ 20) : ∃ m', c_call (d + 1) 21 [jR 9, jR 25] (hH L m) = some (none, hH L m') ∧ kpt (fun c _ => 9 ≤ c ∧ c ≤ 12) m m' ∧ ofR 9 g m' := by
  rw [E21, T21_0_9_25]
  refine ⟨_, rfl, fun c z => ?_, ofR_c w h6 ?_ (fun i hi => ?_)⟩
  · by_cases e : 9 ≤ c ∧ c ≤ 12
    · exact Or.inl e
    · right
      rw [cpy_ne (by omega), cpy_ne (by omega), cpy_ne (by omega), up_ne (by omega)]
  · rw [cpy_ne (by omega), cpy_ne (by omega), cpy_ne (by omega), up_eq rfl]
  · simp (disch := omega) only [Nat.reduceAdd, cpy_ne, cpy_at, up_ne, if_pos hi]
    exact ⟨trivial, trivial, trivial⟩
theorem Q32_3 {d : Nat} {L : j_B} {g : Nat → Int} {m : j_M0} (hx : gX g) (st : stR 19 g m) : ∃ m', c_call (d + 2) 32 [jR 3, jR 19] (hH L m) = some (none, hH L m') ∧ kpt (fun c _ => 3 ≤ c ∧ c ≤ 18) m m' ∧ stR 3 g m' := by
  have x4 := hx.2.2.2.1
  have x6 := hx.2.2.2.2.2.1
  have x8 := hx.2.2.2.2.2.2.2.1
  obtain ⟨m1, t1, t2, t3⟩ := Q8_4 (d := d) (L := L) st.1
  have o1 : ofR 25 g m1 := ofR_k st.2.1 (fun b z h h' => kpt_at t2 (by omega))
  obtain ⟨m2, s1, s2, s3⟩ := Q21_9 (d := d) (L := L) o1 x8.2
  have q : ∀ b z : Nat, ¬ (4 ≤ b ∧ b ≤ 12) → m2 b z = m b z := fun b z h => (kpt_at s2 (by omega)).trans (kpt_at t2 (by omega))
  rw [E32, T32_0_3_19, t1]
  simp only [Option.bind_some, Option.toList_some, List.cons_append, List.nil_append, Option.toList_none]
  rw [T32_11_3_19, s1]
  simp only [Option.bind_some, Option.toList_some, List.cons_append, List.nil_append, Option.toList_none]
  rw [T32_22_3_19]
  obtain ⟨st1, st2, st3, st4, st5, st6, st7, st8, st9⟩ := st
  simp only [Nat.reduceAdd] at st3 st7 st9
  refine ⟨_, rfl, fun c z => ?_, ?_⟩
  · by_cases e : 3 ≤ c ∧ c ≤ 18
    · exact Or.inl e
    · right
      simp (disch := omega) only [cpy_ne, up_ne]
      exact q _ _ (by omega)
  · refine ⟨pkR_k t3 (fun b z h h' => ?_), ofR_k s3 (fun b z h h' => ?_), fun r hr => ?_, ?_, ?_, ?_, fun k hk => ?_, ?_, fun k hk => ?_⟩
    · simp (disch := omega) only [cpy_ne, up_ne]
      exact kpt_at s2 (by omega)
    · simp (disch := omega) only [cpy_ne, up_ne]
    · simp (disch := omega) only [Nat.reduceAdd, cpy_ne, cpy_at, up_ne, if_pos hr]
      rw [q _ _ (by omega)]
      exact st3 r hr
    · simp (disch := omega) only [Nat.reduceAdd, cpy_ne, cpy_at, up_ne, up_nj, up_eq]
      rw [q _ _ (by omega)]
      exact st4
    · simp (disch := omega) only [Nat.reduceAdd, cpy_ne, cpy_at, up_ne, up_nj, up_eq]
      rw [q _ _ (by omega)]
      exact st5
    · simp (disch := omega) only [Nat.reduceAdd, cpy_ne, cpy_at, up_ne, up_nj, up_eq]
      rw [q _ _ (by omega)]
      exact st6
    · simp (disch := omega) only [Nat.reduceAdd, cpy_ne, cpy_at, up_ne, if_pos (show k < 5 by omega)]
      rw [q _ _ (by omega), q _ _ (by omega)]
      exact st7 k hk
    · simp (disch := omega) only [Nat.reduceAdd, cpy_ne, cpy_at, up_ne, up_nj, up_eq]
      rw [q _ _ (by omega)]
      exact st8
    · simp (disch := omega) only [Nat.reduceAdd, cpy_ne, cpy_at, up_ne, if_pos (show k < 8 by omega)]
      rw [q _ _ (by omega), q _ _ (by omega), q _ _ (by omega)]
      exact st9 k hk
