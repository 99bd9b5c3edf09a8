/-! solve, image, undo, plan. -/
theorem PA97 {L : Nat} {xs : Nat → Int32} {m : j_M0} (w : Rel xs m) (x : Int) : PA L xs 97 193 [jI x] m := by
  have n := Rel_n w
  by_cases g1 : 0 ≤ x ∧ x ≤ 12
  · obtain ⟨k, rfl⟩ : ∃ r : Nat, x = r := ⟨_, (Int.toNat_of_nonneg (by omega)).symm⟩
    have ok := pkG_ok w.2.1
    obtain ⟨m1, t1, t2, t3, t4, t5⟩ := Q29_40 (d := 4) (L := L) (m := j_up m 2 11 1) (vP_of (m := j_up m 2 11 1) w.2.1 (pkR_k w.2.2.2.1.1 (fun b z h h' => up_ne (by omega)))) (k := k) (by omega)
    have e110 : m1 110 = m 110 := funext (fun z => (kpt_at t2 (by omega)).trans (up_ne (by omega)))
    have wG : vG (pkG (m 110)) m1 := by
      rw [← e110]
      exact vG_of (by rw [e110]; exact w.2.1)
    obtain ⟨m2, s1, s2, s3, s4, s5, s6⟩ := Q191_115 (d := 3) (L := L) wG ok (k := k) (by omega)
    have f110 : m2 110 = m 110 := by rw [← e110]; exact funext (fun z => kpt_at s2 (by omega))
    have q : ∀ b z : Nat, ¬ (b = 2 ∧ z = 11 ∨ b = 40 ∧ z = 2 ∨ 41 ≤ b ∧ b ≤ 53 ∨ 115 ≤ b ∧ b ≤ 127) → m2 b z = m b z := fun b z h => by
      rw [kpt_at s2 (by omega), kpt_at t2 (by omega)]
      by_cases e : b = 2
      · rw [e, up_nj (by omega)]
      · rw [up_ne e]
    obtain ⟨p1, p2, p3⟩ := solF_p ok (k := k) (by omega)
    have n5 : pN (pkG (m 110)) ≤ 5 := by
      show (m 110 0).toNat ≤ 5
      omega
    obtain ⟨w1, w2, w3, w4, w5, w6, w7, w8⟩ := w
    refine ⟨jI (solF (pkG (m 110)) k).1, m1, m2, (E97 (d := 9)).trans ?_, (E193 (d := 9)).trans ?_, baR_k w1 (fun b z h => q _ _ (by omega)), by rw [f110]; exact w2, by rw [f110]; exact w3, by rw [f110]; exact stR_k w4 (fun b z h h' => q _ _ (by omega)), imR_k w5 (fun b z h => q _ _ (by omega)), Or.inr ⟨?_, s6, (solF (pkG (m 110)) k).1, (solF (pkG (m 110)) k).2.1, (solF (pkG (m 110)) k).2.2, ?_⟩, teR_k w7 (fun b z h => q _ _ (by omega)), tpR_k w8 (fun b z h => q _ _ (by omega))⟩
    · rw [T97_0, if_neg (by omega), if_neg (by omega), show c_call 9 29 _ _ = _ from t1]
      simp only [Option.bind_some, Option.toList_some, List.cons_append, List.nil_append]
      rw [T97_33]
    · rw [T193_0, Q150]
      simp only [Option.bind_some, Option.toList_some, List.cons_append, List.nil_append]
      rw [bI_t g1, T193_9, if_neg (by decide), show c_call 9 191 _ _ = _ from s1]
      simp only [Option.bind_some, Option.toList_some, List.cons_append, List.nil_append]
      rw [T193_21]
    · rw [kpt_at s2 (by omega), kpt_at t2 (by omega), up_eq rfl]
    · unfold taX
      rw [f110]
      exact ⟨⟨p1.1, p1.2.1, p1.2.2.2.1, p3⟩, vC_k t3 (fun b z h h' => kpt_at s2 (by omega)), s3, uC_j t4 n5 (fun b z h h' => kpt_at s2 (by omega)), s4, (kpt_at s2 (by omega)).trans t5, s5⟩
  · refine PA_r w (v := jI (-2)) ((E97 (d := 9)).trans ?_) ((E193 (d := 9)).trans ?_)
    · rw [T97_0]
      by_cases a : x < 0
      · rw [if_pos a]
      · rw [if_neg a, if_pos (by omega)]
    · rw [T193_0, Q150]
      simp only [Option.bind_some, Option.toList_some, List.cons_append, List.nil_append]
      rw [bI_f g1, T193_9, if_pos rfl]
/-! the image -/
theorem gR_e {g g' : Nat → Int} (h : gR g) (e : ∀ z : Nat, z < 150 → g' z = g z) : gR g' := by
  obtain ⟨h1, h2, h3, h4, h5, h6, h7⟩ := h
  unfold gR
  rw [e 0 (by omega), e 1 (by omega)]
  refine ⟨h1, h2, h3, h4, fun p hp => ?_, fun q hq => ?_, fun q p hq hp => ?_⟩
  · rw [e _ (by omega)]; exact h5 p hp
  · rw [e _ (by omega), e _ (by omega)]; exact h6 q hq
  · rw [e _ (by omega)]; exact h7 q p hq hp
theorem gX_e {g g' : Nat → Int} (hg : gR g) (hx : gX g) (e : ∀ z : Nat, z < 150 → g' z = g z) : gX g' := by
  have kg : ∀ z : Nat, ¬ (150 ≤ z) → g' z = g z := fun z h => e z (by omega)
  obtain ⟨x1, x2, x3, x4, x5, x6, x7, x8, x9, x10⟩ := hx
  refine ⟨?_, ?_, ?_, ?_, ?_, ?_, ?_, ?_, ?_, ?_⟩
  · exact fun r hr => by
      rw [kg _ (by omega)]
      exact x1 r hr
  · exact by
      rw [kg 2 (by omega)]
      exact x2
  · exact by
      rw [kg 3 (by omega)]
      exact x3
  · exact by
      rw [kg 4 (by omega)]
      exact x4
  · exact fun k hk => by
      rw [kg 4 (by omega)] at hk
      rw [kg (76 + 2 * k) (by omega), kg (77 + 2 * k) (by omega), kg 0 (by omega)]
      exact x5 k hk
  · exact by
      rw [kg 5 (by omega)]
      exact x6
  · exact fun k hk => by
      rw [kg 5 (by omega)] at hk
      rw [kg (86 + 3 * k) (by omega), kg (87 + 3 * k) (by omega), kg (88 + 3 * k) (by omega)]
      exact x7 k hk
  · exact by
      rw [kg 6 (by omega)]
      exact x8
  · exact fun k hk => by
      rw [kg 6 (by omega)] at hk
      rw [kg (110 + 2 * k) (by omega), kg (111 + 2 * k) (by omega), kg 0 (by omega)]
      exact x9 k hk
  · exact fun i j hij hj => by
      rw [kg 6 (by omega)] at hj
      rw [kg (110 + 2 * i) (by omega), kg (110 + 2 * j) (by omega)]
      exact x10 i j hij hj
theorem ofR_e {a : Nat} {g g' : Nat → Int} {m : j_M0} (w : ofR a g m) (h0 : g 0 ≤ 5) (h6 : g 6 ≤ 20) (e : ∀ z, z < 150 → g' z = g z) : ofR a g' m := by
  have ec : ∀ x, cosF g' x = cosF g x := fun x => cosF_g h0 (fun z hz => e z (by omega))
  obtain ⟨w1, w2, w3, w4, w5⟩ := w
  have e6 := e 6 (by omega)
  unfold ofR
  rw [e6]
  refine ⟨w1, w2, fun i hi => ?_, fun i hi => ?_, fun k hk => ?_⟩
  · rw [ec]; exact w3 i hi
  · obtain ⟨k, k1, k2, k3⟩ := w4 i hi
    exact ⟨k, k1, by rw [e _ (by omega)]; exact k2, by rw [e _ (by omega)]; exact k3⟩
  · rw [e _ (by omega), e _ (by omega)]; exact w5 k hk
theorem stR_e {a : Nat} {g g' : Nat → Int} {m : j_M0} (hg : gR g) (hx : gX g) (st : stR a g m) (e : ∀ z : Nat, z < 150 → g' z = g z) : stR a g' m := by
  have kg : ∀ z : Nat, ¬ (150 ≤ z) → g' z = g z := fun z h => e z (by omega)
  have km : ∀ b z : Nat, True → m b z = m b z := fun b z _ => rfl
  have h0 := hg.1
  have h5 := hg.2.1
  have h8 := hg.2.2.2.1
  have x4 := hx.2.2.2.1
  have x6 := hx.2.2.2.2.2.1
  have x8 := hx.2.2.2.2.2.2.2.1
  refine ⟨?_, ?_, ?_, ?_, ?_, ?_, ?_, ?_, ?_⟩
  · exact pkR_g (pkR_k st.1 (fun b z h h' => km _ _ trivial)) (fun z hz => kg _ (by omega)) (by omega) (by omega)
  · exact ofR_e st.2.1 h5 x8.2 e
  · exact fun r hr => (km _ _ trivial).trans ((st.2.2.1 r hr).trans (kg _ (by omega)).symm)
  · exact (km _ _ trivial).trans (st.2.2.2.1.trans (kg _ (by omega)).symm)
  · exact (km _ _ trivial).trans (st.2.2.2.2.1.trans (kg _ (by omega)).symm)
  · exact (km _ _ trivial).trans (st.2.2.2.2.2.1.trans (kg _ (by omega)).symm)
  · exact fun k hk => by
      rw [kg 4 (by omega)] at hk
      exact ⟨(km _ _ trivial).trans ((st.2.2.2.2.2.2.1 k hk).1.trans (kg _ (by omega)).symm), (km _ _ trivial).trans ((st.2.2.2.2.2.2.1 k hk).2.trans (kg _ (by omega)).symm)⟩
  · exact (km _ _ trivial).trans (st.2.2.2.2.2.2.2.1.trans (kg _ (by omega)).symm)
  · exact fun k hk => by
      rw [kg 5 (by omega)] at hk
      exact ⟨(km _ _ trivial).trans ((st.2.2.2.2.2.2.2.2 k hk).1.trans (kg _ (by omega)).symm), (km _ _ trivial).trans ((st.2.2.2.2.2.2.2.2 k hk).2.1.trans (kg _ (by omega)).symm), (km _ _ trivial).trans ((st.2.2.2.2.2.2.2.2 k hk).2.2.trans (kg _ (by omega)).symm)⟩
theorem ofR_c {a b : Nat} {g : Nat → Int} {m m' : j_M0} (w : ofR a g m) (h6 : g 6 ≤ 20) (f0 : m' b 0 = m a 0) (f : ∀ i : Nat, i < 20 → m' (b + 1) i = m (a + 1) i ∧ m' (b + 2) i = m (a + 2) i ∧ m' (b + 3) i = m (a + 3) i) : ofR b g m' := by
  obtain ⟨w1, w2, w3, w4, w5⟩ := w
  refine ⟨f0.trans w1, fun i j hij hj => ?_, fun i hi => ?_, fun i hi => ?_, fun k hk => ?_⟩
  · rw [(f i (by omega)).1, (f i (by omega)).2.1, (f j (by omega)).1, (f j (by omega)).2.1]; exact w2 i j hij hj
  · rw [(f i (by omega)).1, (f i (by omega)).2.1]; exact w3 i hi
  · rw [(f i (by omega)).1, (f i (by omega)).2.2]; exact w4 i hi
  · obtain ⟨i, i1, i2, i3⟩ := w5 k hk
    exact ⟨i, i1, by rw [(f i (by omega)).1]; exact i2, by rw [(f i (by omega)).2.2]; exact i3⟩
theorem Q21_25 {d L : Nat} {g : Nat → Int} {m : j_M0} (w : ofR 9 g m) (h6 : g 6 ≤ 20) : ∃ m', c_call (d + 1) 21 [jR 25, jR 9] (hH L m) = some (none, hH L m') ∧ kpt (fun c _ => 25 ≤ c ∧ c ≤ 28) m m' ∧ ofR 25 g m' := by
  rw [E21, T21_0_25_9]
  refine ⟨_, rfl, fun c z => ?_, ofR_c w h6 ?_ (fun i hi => ?_)⟩
  · by_cases e : 25 ≤ c ∧ c ≤ 28
    · exact Or.inl e
    · right
      rw [cpy_ne (by omega), cpy_ne (by omega), cpy_ne (by omega), up_ne (by omega)]
  · rw [cpy_ne (by omega), cpy_ne (by omega), cpy_ne (by omega), up_eq rfl]
  · simp (disch := omega) only [Nat.reduceAdd, cpy_ne, cpy_at, up_ne, if_pos hi]
    exact ⟨trivial, trivial, trivial⟩
theorem Q32_19 {d L : Nat} {g : Nat → Int} {m : j_M0} (hx : gX g) (st : stR 3 g m) : ∃ m', c_call (d + 2) 32 [jR 19, jR 3] (hH L m) = some (none, hH L m') ∧ kpt (fun c _ => 19 ≤ c ∧ c ≤ 34) m m' ∧ stR 19 g m' := by
  have x4 := hx.2.2.2.1
  have x6 := hx.2.2.2.2.2.1
  have x8 := hx.2.2.2.2.2.2.2.1
  obtain ⟨m1, t1, t2, t3⟩ := Q8_20 (d := d) (L := L) st.1
  have o1 : ofR 9 g m1 := ofR_k st.2.1 (fun b z h h' => kpt_at t2 (by omega))
  obtain ⟨m2, s1, s2, s3⟩ := Q21_25 (d := d) (L := L) o1 x8.2
  have q : ∀ b z : Nat, ¬ (20 ≤ b ∧ b ≤ 28) → m2 b z = m b z := fun b z h => (kpt_at s2 (by omega)).trans (kpt_at t2 (by omega))
  rw [E32, T32_0_19_3, t1]
  simp only [Option.bind_some, Option.toList_some, List.cons_append, List.nil_append, Option.toList_none]
  rw [T32_11_19_3, s1]
  simp only [Option.bind_some, Option.toList_some, List.cons_append, List.nil_append, Option.toList_none]
  rw [T32_22_19_3]
  obtain ⟨st1, st2, st3, st4, st5, st6, st7, st8, st9⟩ := st
  simp only [Nat.reduceAdd] at st3 st7 st9
  refine ⟨_, rfl, fun c z => ?_, ?_⟩
  · by_cases e : 19 ≤ c ∧ c ≤ 34
    · exact Or.inl e
    · right
      simp (disch := omega) only [cpy_ne, up_ne]
      exact q _ _ (by omega)
  · refine ⟨pkR_k t3 (fun b z h h' => ?_), ofR_k s3 (fun b z h h' => ?_), fun r hr => ?_, ?_, ?_, ?_, fun k hk => ?_, ?_, fun k hk => ?_⟩
    · simp (disch := omega) only [cpy_ne, up_ne]
      exact kpt_at s2 (by omega)
    · simp (disch := omega) only [cpy_ne, up_ne]
    · simp (disch := omega) only [Nat.reduceAdd, cpy_ne, cpy_at, up_ne, if_pos hr]
      rw [q _ _ (by omega)]
      exact st3 r hr
    · simp (disch := omega) only [Nat.reduceAdd, cpy_ne, cpy_at, up_ne, up_nj, up_eq]
      rw [q _ _ (by omega)]
      exact st4
    · simp (disch := omega) only [Nat.reduceAdd, cpy_ne, cpy_at, up_ne, up_nj, up_eq]
      rw [q _ _ (by omega)]
      exact st5
    · simp (disch := omega) only [Nat.reduceAdd, cpy_ne, cpy_at, up_ne, up_nj, up_eq]
      rw [q _ _ (by omega)]
      exact st6
    · simp (disch := omega) only [Nat.reduceAdd, cpy_ne, cpy_at, up_ne, if_pos (show k < 5 by omega)]
      rw [q _ _ (by omega), q _ _ (by omega)]
      exact st7 k hk
    · simp (disch := omega) only [Nat.reduceAdd, cpy_ne, cpy_at, up_ne, up_nj, up_eq]
      rw [q _ _ (by omega)]
      exact st8
    · simp (disch := omega) only [Nat.reduceAdd, cpy_ne, cpy_at, up_ne, if_pos (show k < 8 by omega)]
      rw [q _ _ (by omega), q _ _ (by omega), q _ _ (by omega)]
      exact st9 k hk
theorem Q21_9 {d L : Nat} {g : Nat → Int} {m : j_M0} (w : ofR 25 g m) (h6 : g 6 ≤ 20) : ∃ m', c_call (d + 1) 21 [jR 9, jR 25] (hH L m) = some (none, hH L m') ∧ kpt (fun c _ => 9 ≤ c ∧ c ≤ 12) m m' ∧ ofR 9 g m' := by
  rw [E21, T21_0_9_25]
  refine ⟨_, rfl, fun c z => ?_, ofR_c w h6 ?_ (fun i hi => ?_)⟩
  · by_cases e : 9 ≤ c ∧ c ≤ 12
    · exact Or.inl e
    · right
      rw [cpy_ne (by omega), cpy_ne (by omega), cpy_ne (by omega), up_ne (by omega)]
  · rw [cpy_ne (by omega), cpy_ne (by omega), cpy_ne (by omega), up_eq rfl]
  · simp (disch := omega) only [Nat.reduceAdd, cpy_ne, cpy_at, up_ne, if_pos hi]
    exact ⟨trivial, trivial, trivial⟩
theorem Q32_3 {d L : Nat} {g : Nat → Int} {m : j_M0} (hx : gX g) (st : stR 19 g m) : ∃ m', c_call (d + 2) 32 [jR 3, jR 19] (hH L m) = some (none, hH L m') ∧ kpt (fun c _ => 3 ≤ c ∧ c ≤ 18) m m' ∧ stR 3 g m' := by
  have x4 := hx.2.2.2.1
  have x6 := hx.2.2.2.2.2.1
  have x8 := hx.2.2.2.2.2.2.2.1
  obtain ⟨m1, t1, t2, t3⟩ := Q8_4 (d := d) (L := L) st.1
  have o1 : ofR 25 g m1 := ofR_k st.2.1 (fun b z h h' => kpt_at t2 (by omega))
  obtain ⟨m2, s1, s2, s3⟩ := Q21_9 (d := d) (L := L) o1 x8.2
  have q : ∀ b z : Nat, ¬ (4 ≤ b ∧ b ≤ 12) → m2 b z = m b z := fun b z h => (kpt_at s2 (by omega)).trans (kpt_at t2 (by omega))
  rw [E32, T32_0_3_19, t1]
  simp only [Option.bind_some, Option.toList_some, List.cons_append, List.nil_append, Option.toList_none]
  rw [T32_11_3_19, s1]
  simp only [Option.bind_some, Option.toList_some, List.cons_append, List.nil_append, Option.toList_none]
  rw [T32_22_3_19]
  obtain ⟨st1, st2, st3, st4, st5, st6, st7, st8, st9⟩ := st
  simp only [Nat.reduceAdd] at st3 st7 st9
  refine ⟨_, rfl, fun c z => ?_, ?_⟩
  · by_cases e : 3 ≤ c ∧ c ≤ 18
    · exact Or.inl e
    · right
      simp (disch := omega) only [cpy_ne, up_ne]
      exact q _ _ (by omega)
  · refine ⟨pkR_k t3 (fun b z h h' => ?_), ofR_k s3 (fun b z h h' => ?_), fun r hr => ?_, ?_, ?_, ?_, fun k hk => ?_, ?_, fun k hk => ?_⟩
    · simp (disch := omega) only [cpy_ne, up_ne]
      exact kpt_at s2 (by omega)
    · simp (disch := omega) only [cpy_ne, up_ne]
    · simp (disch := omega) only [Nat.reduceAdd, cpy_ne, cpy_at, up_ne, if_pos hr]
      rw [q _ _ (by omega)]
      exact st3 r hr
    · simp (disch := omega) only [Nat.reduceAdd, cpy_ne, cpy_at, up_ne, up_nj, up_eq]
      rw [q _ _ (by omega)]
      exact st4
    · simp (disch := omega) only [Nat.reduceAdd, cpy_ne, cpy_at, up_ne, up_nj, up_eq]
      rw [q _ _ (by omega)]
      exact st5
    · simp (disch := omega) only [Nat.reduceAdd, cpy_ne, cpy_at, up_ne, up_nj, up_eq]
      rw [q _ _ (by omega)]
      exact st6
    · simp (disch := omega) only [Nat.reduceAdd, cpy_ne, cpy_at, up_ne, if_pos (show k < 5 by omega)]
      rw [q _ _ (by omega), q _ _ (by omega)]
      exact st7 k hk
    · simp (disch := omega) only [Nat.reduceAdd, cpy_ne, cpy_at, up_ne, up_nj, up_eq]
      rw [q _ _ (by omega)]
      exact st8
    · simp (disch := omega) only [Nat.reduceAdd, cpy_ne, cpy_at, up_ne, if_pos (show k < 8 by omega)]
      rw [q _ _ (by omega), q _ _ (by omega), q _ _ (by omega)]
      exact st9 k hk
theorem L255 {C : Nat → List j_V → j_H → Option j_Z} {L : Nat} {g : Nat → Int} : ∀ j k : Nat, k + j = 150 → ∀ m : j_M0, m 110 = g → (∀ i : Nat, i < k → m 111 i = g i) → ∃ m', j_fin C 255 2 [some (jR 109), some (jI k)] [] (hH L m) = some (some (jI (g 1)), hH L m') ∧ kpt (fun b z => b = 111 ∨ b = 109 ∧ z = 3) m m' ∧ (∀ i : Nat, i < 150 → m' 111 i = g i) ∧ m' 109 3 = 1 := by
  intro j
  induction j with
  | zero =>
    intro k hk m h h2
    rw [T255_2, if_neg (by omega), up_ne (show 110 ≠ 109 by omega), h]
    exact ⟨_, rfl, kpt_up (by omega), fun i hi => (up_ne (by omega)).trans (h2 i (by omega)), up_eq rfl⟩
  | succ j ih =>
    intro k hk m h h2
    rw [T255_2, if_pos (by omega), if_pos (by omega), if_pos (by omega), Int.toNat_natCast, nat1 (by omega), h]
    obtain ⟨m', t1, t2, t3⟩ := ih (k + 1) (by omega) (j_up m 111 k (g k)) (by rw [← h]; funext z; exact up_ne (by omega)) (fun i hi => by
      rw [up_at]
      by_cases e : i = k
      · rw [if_pos e, e]
      · rw [if_neg e]; exact h2 i (by omega))
    exact ⟨m', t1, kpt_tr (kpt_up (by omega)) t2, t3⟩
theorem L256 {C : Nat → List j_V → j_H → Option j_Z} {L : Nat} {g : Nat → Int} : ∀ j k : Nat, k + j = 150 → ∀ m : j_M0, m 111 = g → (∀ i : Nat, i < k → m 110 i = g i) → ∃ m', j_fin C 256 12 [some (jR 109), some (jI k)] [] (hH L m) = some (some (jI (g 1)), hH L m') ∧ kpt (fun b z => b = 110 ∨ b = 115 ∧ z = 18) m m' ∧ (∀ i : Nat, i < 150 → m' 110 i = g i) ∧ m' 115 18 = 0 := by
  intro j
  induction j with
  | zero =>
    intro k hk m h h2
    rw [T256_12, if_neg (by omega), up_ne (show 110 ≠ 115 by omega), h2 1 (by omega)]
    exact ⟨_, rfl, kpt_up (by omega), fun i hi => (up_ne (by omega)).trans (h2 i (by omega)), up_eq rfl⟩
  | succ j ih =>
    intro k hk m h h2
    rw [T256_12, if_pos (by omega), if_pos (by omega), if_pos (by omega), Int.toNat_natCast, nat1 (by omega), h]
    obtain ⟨m', t1, t2, t3⟩ := ih (k + 1) (by omega) (j_up m 110 k (g k)) (by rw [← h]; funext z; exact up_ne (by omega)) (fun i hi => by
      rw [up_at]
      by_cases e : i = k
      · rw [if_pos e, e]
      · rw [if_neg e]; exact h2 i (by omega))
    exact ⟨m', t1, kpt_tr (kpt_up (by omega)) t2, t3⟩
theorem PA128 {L : Nat} {xs : Nat → Int32} {m : j_M0} (w : Rel xs m) : PA L xs 128 255 [] m := by
  have n := Rel_n w
  obtain ⟨w1, w2, w3, w4, w5, w6, w7, w8⟩ := w
  obtain ⟨m1, t1, t2, t3⟩ := Q32_19 (d := 7) (L := L) w3 w4
  have e110 : (j_up m1 2 12 1) 110 = m 110 := by
    rw [e110_up (by decide)]
    exact funext (fun z => kpt_at t2 (by omega))
  obtain ⟨m2, s1, s2, s3, s4⟩ := L255 (C := c_call 9) (L := L) (g := m 110) 150 0 (by omega) (j_up m1 2 12 1) e110 (fun i hi => absurd hi (Nat.not_lt_zero i))
  have q : ∀ b z : Nat, ¬ (19 ≤ b ∧ b ≤ 34 ∨ b = 2 ∧ z = 12 ∨ b = 111 ∨ b = 109 ∧ z = 3) → m2 b z = m b z := fun b z h => by
    rw [kpt_at s2 (by omega)]
    by_cases e : b = 2
    · rw [e, up_nj (by omega)]
      exact kpt_at t2 (by omega)
    · rw [up_ne e]
      exact kpt_at t2 (by omega)
  have f110 : m2 110 = m 110 := funext (fun z => q _ _ (by omega))
  refine ⟨jI (m 110 1), j_up m1 2 12 1, m2, (E128 (d := 9)).trans ?_, (E255 (d := 9)).trans ?_, baR_k w1 (fun b z h => q _ _ (by omega)), by rw [f110]; exact w2, by rw [f110]; exact w3, by rw [f110]; exact stR_k w4 (fun b z h h' => q _ _ (by omega)), Or.inr ⟨?_, s4, gR_e w2 s3, gX_e w2 w3 s3, stR_e w2 w3 (stR_k t3 (fun b z h h' => ?_)) s3⟩, taR_k w6 (by omega) (fun b z h => q _ _ (by omega)), teR_k w7 (fun b z h => q _ _ (by omega)), tpR_k w8 (fun b z h => q _ _ (by omega))⟩
  · rw [T128_0, show c_call 9 32 _ _ = _ from t1]
    simp only [Option.bind_some, Option.toList_some, List.cons_append, List.nil_append, Option.toList_none]
    rw [T128_11, up_ne (show 4 ≠ 2 by omega), kpt_at t2 (by omega), n.2.2.2.2.2]
  · rw [T255_0]
    exact s1
  · rw [kpt_at s2 (by omega), up_eq rfl]
  · exact (kpt_at s2 (by omega)).trans (up_ne (by omega))
theorem PA129 {L : Nat} {xs : Nat → Int32} {m : j_M0} (w : Rel xs m) : PA L xs 129 256 [] m := by
  have n := Rel_n w
  have w5 := w.2.2.2.2.1
  rcases w5 with ⟨a1, a2⟩ | ⟨a1, a2, a3, a4, a5⟩
  · exact PA_r w (v := jI (-3)) ((E129 (d := 9)).trans (by rw [T129_0, if_pos a1])) ((E256 (d := 9)).trans (by rw [T256_0, if_pos a2]))
  · obtain ⟨m1, t1, t2, t3⟩ := Q32_3 (d := 7) (L := L) a4 a5
    have e111 : (j_up m1 2 11 0) 111 = m 111 := funext (fun z => (up_ne (by omega)).trans (kpt_at t2 (by omega)))
    obtain ⟨m2, s1, s2, s3, s4⟩ := L256 (C := c_call 9) (L := L) (g := m 111) 150 0 (by omega) (j_up m1 2 11 0) e111 (fun i hi => absurd hi (Nat.not_lt_zero i))
    have q1 : m1 4 1 = m 111 1 := t3.1.2.2.1
    refine ⟨jI (m 111 1), j_up m1 2 11 0, m2, (E129 (d := 9)).trans ?_, (E256 (d := 9)).trans ?_, Rel_up w (kpt_tr (kpt_w t2 (fun c z h => by unfold uPd; omega)) (kpt_tr (kpt_up (by unfold uPd; omega)) (kpt_w s2 (fun c z h => by unfold uPd; omega)))) (gR_e a3 s3) (gX_e a3 a4 s3) (stR_e a3 a4 (stR_k t3 (fun b z h h' => (kpt_at s2 (by omega)).trans (up_ne (by omega)))) s3) (Or.inl ⟨?_, s4⟩)⟩
    · rw [T129_0, if_neg (by omega), show c_call 9 32 _ _ = _ from t1]
      simp only [Option.bind_some, Option.toList_some, List.cons_append, List.nil_append, Option.toList_none]
      rw [T129_21, up_ne (show 4 ≠ 2 by omega), q1]
    · rw [T256_0, if_neg (show ¬ (j_up m1 2 11 0 109 3 = 0) by rw [up_ne (by omega), kpt_at t2 (by omega), a2]; decide)]
      exact s1
    · rw [kpt_at s2 (by omega), up_eq rfl]
theorem PA125 {L : Nat} {xs : Nat → Int32} {m : j_M0} (w : Rel xs m) (a x v : Int) : PA L xs 125 250 [jI a, jI x, jI v] m := by
  have n := Rel_n w
  have e8 : m 3 8 = m 110 5 := w.2.2.2.1.2.2.2.2.2.2.2.1
  have x6 := w.2.2.1.2.2.2.2.2.1
  by_cases g0 : a = -1
  · subst g0
    have e110 : (j_up m 3 8 0) 110 = m 110 := e110_up (by decide)
    have e2 : (j_up (j_up m 3 8 0) 110 5 0) 110 = gU (m 110) 5 0 := by rw [up_g, e110]
    refine ⟨jI 0, j_up m 3 8 0, j_up (j_up m 3 8 0) 110 5 0, (E125 (d := 9)).trans ?_, (E250 (d := 9)).trans ?_, Rel_up w (kpt_tr (kpt_up (by unfold uPd; omega)) (kpt_up (by unfold uPd; omega))) (by rw [e2]; exact gR_far w.2.1 (by omega)) (by rw [e2]; exact gX_pn0 w.2.1 w.2.2.1) (by rw [e2]; exact stR_pn0 w.2.1 w.2.2.1 w.2.2.2.1 (fun b z h h' => up_ne (by omega))) (Or.inr ⟨?_, ?_, ?_⟩)⟩
    · rw [T125_0, if_pos rfl]
    · rw [T250_0, if_pos rfl]
    · rw [up_ne (by omega), up_ne (by omega)]
    · rw [up_ne (by omega), up_ne (by omega)]
    · rw [e2, gU_ne (by omega)]
  · by_cases g1 : 0 ≤ a ∧ a ≤ 2
    · by_cases g2 : a = 1
      · skip
        by_cases g3 : 0 ≤ x ∧ x < m 110 0
        · by_cases g4 : plN a v = 1
          · obtain ⟨k, hk⟩ : ∃ k : Nat, m 110 5 = k := ⟨_, (Int.toNat_of_nonneg (by omega)).symm⟩
            by_cases g5 : k = 8
            · refine PA_r w (v := jI (-4)) ((E125 (d := 9)).trans ?_) ((E250 (d := 9)).trans ?_)
              · rw [T125_0, if_neg g0, if_neg (by omega), if_neg (by omega), if_pos g2, Rel_q135 (L := L) (d := 8) w x rfl]
                simp only [Option.bind_some, Option.toList_some, List.cons_append, List.nil_append]
                rw [bI_t g3, T125_36, if_neg (by decide), show c_call 9 143 _ (hH L m) = _ from Q143 (d := 7), g4]
                simp only [Option.bind_some, Option.toList_some, List.cons_append, List.nil_append]
                rw [T125_57, if_neg (by decide), if_neg (by omega)]
              · rw [T250_0, if_neg g0, Q150]
                simp only [Option.bind_some, Option.toList_some, List.cons_append, List.nil_append]
                rw [bI_t g1, T250_23, if_neg (by decide), if_pos g2, Rel_q152 (L := L) (d := 7) w x rfl]
                simp only [Option.bind_some, Option.toList_some, List.cons_append, List.nil_append]
                rw [bI_t g3, T250_36, if_neg (by decide), show c_call 9 249 _ (hH L m) = _ from Q249 (d := 7), g4]
                simp only [Option.bind_some, Option.toList_some, List.cons_append, List.nil_append]
                rw [T250_57, if_neg (by decide), if_pos (by omega)]
            · obtain ⟨m1, hm1⟩ : ∃ m1, m1 = j_up (j_up (j_up (j_up m 16 k a) 17 k x) 18 k v) 3 8 ((k + 1 : Nat) : Int) := ⟨_, rfl⟩
              have e110 : m1 110 = m 110 := by rw [hm1, e110_up (by decide), e110_up (by decide), e110_up (by decide), e110_up (by decide)]
              have e2 : (j_up (j_up (j_up (j_up m1 110 (86 + 3 * k) a) 110 (87 + 3 * k) x) 110 (88 + 3 * k) v) 110 5 ((k + 1 : Nat) : Int)) 110 = gU (gU (gU (gU (m 110) (86 + 3 * k) a) (87 + 3 * k) x) (88 + 3 * k) v) 5 ((k + 1 : Nat) : Int) := by rw [up_g, up_g, up_g, up_g, e110]
              have i1 : w32 (86 + w32 (3 * (k : Int))) = 86 + 3 * (k : Int) := by rw [w32_id (x := 3 * (k : Int)) (by omega) (by omega), w32_id (by omega) (by omega)]
              have i2 : w32 (86 + 3 * (k : Int) + 1) = 87 + 3 * (k : Int) := by rw [w32_id (by omega) (by omega)]; omega
              have i3 : w32 (86 + 3 * (k : Int) + 2) = 88 + 3 * (k : Int) := by rw [w32_id (by omega) (by omega)]; omega
              refine ⟨jI ((k + 1 : Nat) : Int), m1, j_up (j_up (j_up (j_up m1 110 (86 + 3 * k) a) 110 (87 + 3 * k) x) 110 (88 + 3 * k) v) 110 5 ((k + 1 : Nat) : Int), (E125 (d := 9)).trans ?_, (E250 (d := 9)).trans ?_, Rel_up w (kpt_tr (by rw [hm1]; exact kpt_tr (kpt_tr (kpt_tr (kpt_up (by unfold uPd; omega)) (kpt_up (by unfold uPd; omega))) (kpt_up (by unfold uPd; omega))) (kpt_up (by unfold uPd; omega))) (kpt_tr (kpt_tr (kpt_tr (kpt_up (by unfold uPd; omega)) (kpt_up (by unfold uPd; omega))) (kpt_up (by unfold uPd; omega))) (kpt_up (by unfold uPd; omega)))) (by rw [e2]; exact gR_far (gR_far (gR_far (gR_far w.2.1 (by omega)) (by omega)) (by omega)) (by omega)) (by rw [e2]; exact gX_plan w.2.1 w.2.2.1 hk (by omega) g1 (by omega) g4) (by rw [e2]; exact stR_plan w.2.1 w.2.2.1 w.2.2.2.1 hk (by omega) g1 (by omega) g4 (fun b z h h' => by rw [up_ne (by omega), up_ne (by omega), up_ne (by omega), up_ne (by omega), hm1])) (Or.inr ⟨?_, ?_, ?_⟩)⟩
              · rw [T125_0, if_neg g0, if_neg (by omega), if_neg (by omega), if_pos g2, Rel_q135 (L := L) (d := 8) w x rfl]
                simp only [Option.bind_some, Option.toList_some, List.cons_append, List.nil_append]
                rw [bI_t g3, T125_36, if_neg (by decide), show c_call 9 143 _ (hH L m) = _ from Q143 (d := 7), g4]
                simp only [Option.bind_some, Option.toList_some, List.cons_append, List.nil_append]
                rw [T125_57, if_neg (by decide), if_pos (by omega), Q35 (e8.trans hk) (by omega)]
                simp only [Option.bind_some, Option.toList_some, List.cons_append, List.nil_append, Option.toList_none]
                rw [T125_88, up_eq rfl, hm1]
              · rw [T250_0, if_neg g0, Q150]
                simp only [Option.bind_some, Option.toList_some, List.cons_append, List.nil_append]
                rw [bI_t g1, T250_23, if_neg (by decide), if_pos g2, Rel_q152 (L := L) (d := 7) w x e110]
                simp only [Option.bind_some, Option.toList_some, List.cons_append, List.nil_append]
                rw [bI_t g3, T250_36, if_neg (by decide), show c_call 9 249 _ (hH L m1) = _ from Q249 (d := 7), g4]
                simp only [Option.bind_some, Option.toList_some, List.cons_append, List.nil_append]
                have u5 : (j_up (j_up (j_up m1 110 (86 + 3 * k) a) 110 (87 + 3 * k) x) 110 (88 + 3 * k) v) 110 5 = (k : Int) := by rw [up_nj (by omega), up_nj (by omega), up_nj (by omega), e110, hk]
                rw [T250_57, if_neg (by decide), e110, hk, i1, i2, i3, if_neg (by omega), if_pos (by omega), if_pos (by omega), if_pos (by omega), show (86 + 3 * (k : Int)).toNat = 86 + 3 * k by omega, show (87 + 3 * (k : Int)).toNat = 87 + 3 * k by omega, show (88 + 3 * (k : Int)).toNat = 88 + 3 * k by omega, u5, nat1 (by omega), up_eq rfl]
              · rw [up_ne (by omega), up_ne (by omega), up_ne (by omega), up_ne (by omega), hm1, up_ne (by omega), up_ne (by omega), up_ne (by omega), up_ne (by omega)]
              · rw [up_ne (by omega), up_ne (by omega), up_ne (by omega), up_ne (by omega), hm1, up_ne (by omega), up_ne (by omega), up_ne (by omega), up_ne (by omega)]
              · rw [e2, gU_ne (by omega), gU_ne (by omega), gU_ne (by omega), gU_ne (by omega)]
          · have g4' : plN a v = 0 := by
              unfold plN bI at g4 ⊢
              grind
            refine PA_r w (v := jI (-2)) ((E125 (d := 9)).trans ?_) ((E250 (d := 9)).trans ?_)
            · rw [T125_0, if_neg g0, if_neg (by omega), if_neg (by omega), if_pos g2, Rel_q135 (L := L) (d := 8) w x rfl]
              simp only [Option.bind_some, Option.toList_some, List.cons_append, List.nil_append]
              rw [bI_t g3, T125_36, if_neg (by decide), show c_call 9 143 _ (hH L m) = _ from Q143 (d := 7), g4']
              simp only [Option.bind_some, Option.toList_some, List.cons_append, List.nil_append]
              rw [T125_57, if_pos rfl]
            · rw [T250_0, if_neg g0, Q150]
              simp only [Option.bind_some, Option.toList_some, List.cons_append, List.nil_append]
              rw [bI_t g1, T250_23, if_neg (by decide), if_pos g2, Rel_q152 (L := L) (d := 7) w x rfl]
              simp only [Option.bind_some, Option.toList_some, List.cons_append, List.nil_append]
              rw [bI_t g3, T250_36, if_neg (by decide), show c_call 9 249 _ (hH L m) = _ from Q249 (d := 7), g4']
              simp only [Option.bind_some, Option.toList_some, List.cons_append, List.nil_append]
              rw [T250_57, if_pos rfl]
        · refine PA_r w (v := jI (-1)) ((E125 (d := 9)).trans ?_) ((E250 (d := 9)).trans ?_)
          · rw [T125_0, if_neg g0, if_neg (by omega), if_neg (by omega), if_pos g2, Rel_q135 (L := L) (d := 8) w x rfl]
            simp only [Option.bind_some, Option.toList_some, List.cons_append, List.nil_append]
            rw [bI_f g3, T125_36, if_pos rfl]
          · rw [T250_0, if_neg g0, Q150]
            simp only [Option.bind_some, Option.toList_some, List.cons_append, List.nil_append]
            rw [bI_t g1, T250_23, if_neg (by decide), if_pos g2, Rel_q152 (L := L) (d := 7) w x rfl]
            simp only [Option.bind_some, Option.toList_some, List.cons_append, List.nil_append]
            rw [bI_f g3, T250_36, if_pos rfl]
      · skip
        by_cases g3 : 0 ≤ x ∧ x < m 110 1
        · by_cases g4 : plN a v = 1
          · obtain ⟨k, hk⟩ : ∃ k : Nat, m 110 5 = k := ⟨_, (Int.toNat_of_nonneg (by omega)).symm⟩
            by_cases g5 : k = 8
            · refine PA_r w (v := jI (-4)) ((E125 (d := 9)).trans ?_) ((E250 (d := 9)).trans ?_)
              · rw [T125_0, if_neg g0, if_neg (by omega), if_neg (by omega), if_neg g2, Rel_q136 (L := L) (d := 8) w x rfl]
                simp only [Option.bind_some, Option.toList_some, List.cons_append, List.nil_append]
                rw [bI_t g3, T125_47, if_neg (by decide), show c_call 9 143 _ (hH L m) = _ from Q143 (d := 7), g4]
                simp only [Option.bind_some, Option.toList_some, List.cons_append, List.nil_append]
                rw [T125_57, if_neg (by decide), if_neg (by omega)]
              · rw [T250_0, if_neg g0, Q150]
                simp only [Option.bind_some, Option.toList_some, List.cons_append, List.nil_append]
                rw [bI_t g1, T250_23, if_neg (by decide), if_neg g2, Rel_q153 (L := L) (d := 7) w x rfl]
                simp only [Option.bind_some, Option.toList_some, List.cons_append, List.nil_append]
                rw [bI_t g3, T250_47, if_neg (by decide), show c_call 9 249 _ (hH L m) = _ from Q249 (d := 7), g4]
                simp only [Option.bind_some, Option.toList_some, List.cons_append, List.nil_append]
                rw [T250_57, if_neg (by decide), if_pos (by omega)]
            · obtain ⟨m1, hm1⟩ : ∃ m1, m1 = j_up (j_up (j_up (j_up m 16 k a) 17 k x) 18 k v) 3 8 ((k + 1 : Nat) : Int) := ⟨_, rfl⟩
              have e110 : m1 110 = m 110 := by rw [hm1, e110_up (by decide), e110_up (by decide), e110_up (by decide), e110_up (by decide)]
              have e2 : (j_up (j_up (j_up (j_up m1 110 (86 + 3 * k) a) 110 (87 + 3 * k) x) 110 (88 + 3 * k) v) 110 5 ((k + 1 : Nat) : Int)) 110 = gU (gU (gU (gU (m 110) (86 + 3 * k) a) (87 + 3 * k) x) (88 + 3 * k) v) 5 ((k + 1 : Nat) : Int) := by rw [up_g, up_g, up_g, up_g, e110]
              have i1 : w32 (86 + w32 (3 * (k : Int))) = 86 + 3 * (k : Int) := by rw [w32_id (x := 3 * (k : Int)) (by omega) (by omega), w32_id (by omega) (by omega)]
              have i2 : w32 (86 + 3 * (k : Int) + 1) = 87 + 3 * (k : Int) := by rw [w32_id (by omega) (by omega)]; omega
              have i3 : w32 (86 + 3 * (k : Int) + 2) = 88 + 3 * (k : Int) := by rw [w32_id (by omega) (by omega)]; omega
              refine ⟨jI ((k + 1 : Nat) : Int), m1, j_up (j_up (j_up (j_up m1 110 (86 + 3 * k) a) 110 (87 + 3 * k) x) 110 (88 + 3 * k) v) 110 5 ((k + 1 : Nat) : Int), (E125 (d := 9)).trans ?_, (E250 (d := 9)).trans ?_, Rel_up w (kpt_tr (by rw [hm1]; exact kpt_tr (kpt_tr (kpt_tr (kpt_up (by unfold uPd; omega)) (kpt_up (by unfold uPd; omega))) (kpt_up (by unfold uPd; omega))) (kpt_up (by unfold uPd; omega))) (kpt_tr (kpt_tr (kpt_tr (kpt_up (by unfold uPd; omega)) (kpt_up (by unfold uPd; omega))) (kpt_up (by unfold uPd; omega))) (kpt_up (by unfold uPd; omega)))) (by rw [e2]; exact gR_far (gR_far (gR_far (gR_far w.2.1 (by omega)) (by omega)) (by omega)) (by omega)) (by rw [e2]; exact gX_plan w.2.1 w.2.2.1 hk (by omega) g1 (by omega) g4) (by rw [e2]; exact stR_plan w.2.1 w.2.2.1 w.2.2.2.1 hk (by omega) g1 (by omega) g4 (fun b z h h' => by rw [up_ne (by omega), up_ne (by omega), up_ne (by omega), up_ne (by omega), hm1])) (Or.inr ⟨?_, ?_, ?_⟩)⟩
              · rw [T125_0, if_neg g0, if_neg (by omega), if_neg (by omega), if_neg g2, Rel_q136 (L := L) (d := 8) w x rfl]
                simp only [Option.bind_some, Option.toList_some, List.cons_append, List.nil_append]
                rw [bI_t g3, T125_47, if_neg (by decide), show c_call 9 143 _ (hH L m) = _ from Q143 (d := 7), g4]
                simp only [Option.bind_some, Option.toList_some, List.cons_append, List.nil_append]
                rw [T125_57, if_neg (by decide), if_pos (by omega), Q35 (e8.trans hk) (by omega)]
                simp only [Option.bind_some, Option.toList_some, List.cons_append, List.nil_append, Option.toList_none]
                rw [T125_88, up_eq rfl, hm1]
              · rw [T250_0, if_neg g0, Q150]
                simp only [Option.bind_some, Option.toList_some, List.cons_append, List.nil_append]
                rw [bI_t g1, T250_23, if_neg (by decide), if_neg g2, Rel_q153 (L := L) (d := 7) w x e110]
                simp only [Option.bind_some, Option.toList_some, List.cons_append, List.nil_append]
                rw [bI_t g3, T250_47, if_neg (by decide), show c_call 9 249 _ (hH L m1) = _ from Q249 (d := 7), g4]
                simp only [Option.bind_some, Option.toList_some, List.cons_append, List.nil_append]
                have u5 : (j_up (j_up (j_up m1 110 (86 + 3 * k) a) 110 (87 + 3 * k) x) 110 (88 + 3 * k) v) 110 5 = (k : Int) := by rw [up_nj (by omega), up_nj (by omega), up_nj (by omega), e110, hk]
                rw [T250_57, if_neg (by decide), e110, hk, i1, i2, i3, if_neg (by omega), if_pos (by omega), if_pos (by omega), if_pos (by omega), show (86 + 3 * (k : Int)).toNat = 86 + 3 * k by omega, show (87 + 3 * (k : Int)).toNat = 87 + 3 * k by omega, show (88 + 3 * (k : Int)).toNat = 88 + 3 * k by omega, u5, nat1 (by omega), up_eq rfl]
              · rw [up_ne (by omega), up_ne (by omega), up_ne (by omega), up_ne (by omega), hm1, up_ne (by omega), up_ne (by omega), up_ne (by omega), up_ne (by omega)]
              · rw [up_ne (by omega), up_ne (by omega), up_ne (by omega), up_ne (by omega), hm1, up_ne (by omega), up_ne (by omega), up_ne (by omega), up_ne (by omega)]
              · rw [e2, gU_ne (by omega), gU_ne (by omega), gU_ne (by omega), gU_ne (by omega)]
          · have g4' : plN a v = 0 := by
              unfold plN bI at g4 ⊢
              grind
            refine PA_r w (v := jI (-2)) ((E125 (d := 9)).trans ?_) ((E250 (d := 9)).trans ?_)
            · rw [T125_0, if_neg g0, if_neg (by omega), if_neg (by omega), if_neg g2, Rel_q136 (L := L) (d := 8) w x rfl]
              simp only [Option.bind_some, Option.toList_some, List.cons_append, List.nil_append]
              rw [bI_t g3, T125_47, if_neg (by decide), show c_call 9 143 _ (hH L m) = _ from Q143 (d := 7), g4']
              simp only [Option.bind_some, Option.toList_some, List.cons_append, List.nil_append]
              rw [T125_57, if_pos rfl]
            · rw [T250_0, if_neg g0, Q150]
              simp only [Option.bind_some, Option.toList_some, List.cons_append, List.nil_append]
              rw [bI_t g1, T250_23, if_neg (by decide), if_neg g2, Rel_q153 (L := L) (d := 7) w x rfl]
              simp only [Option.bind_some, Option.toList_some, List.cons_append, List.nil_append]
              rw [bI_t g3, T250_47, if_neg (by decide), show c_call 9 249 _ (hH L m) = _ from Q249 (d := 7), g4']
              simp only [Option.bind_some, Option.toList_some, List.cons_append, List.nil_append]
              rw [T250_57, if_pos rfl]
        · refine PA_r w (v := jI (-1)) ((E125 (d := 9)).trans ?_) ((E250 (d := 9)).trans ?_)
          · rw [T125_0, if_neg g0, if_neg (by omega), if_neg (by omega), if_neg g2, Rel_q136 (L := L) (d := 8) w x rfl]
            simp only [Option.bind_some, Option.toList_some, List.cons_append, List.nil_append]
            rw [bI_f g3, T125_47, if_pos rfl]
          · rw [T250_0, if_neg g0, Q150]
            simp only [Option.bind_some, Option.toList_some, List.cons_append, List.nil_append]
            rw [bI_t g1, T250_23, if_neg (by decide), if_neg g2, Rel_q153 (L := L) (d := 7) w x rfl]
            simp only [Option.bind_some, Option.toList_some, List.cons_append, List.nil_append]
            rw [bI_f g3, T250_47, if_pos rfl]
    · refine PA_r w (v := jI (-1)) ((E125 (d := 9)).trans ?_) ((E250 (d := 9)).trans ?_)
      · rw [T125_0, if_neg g0]
        by_cases b : a < 0
        · rw [if_pos b]
        · rw [if_neg b, if_pos (by omega)]
      · rw [T250_0, if_neg g0, Q150]
        simp only [Option.bind_some, Option.toList_some, List.cons_append, List.nil_append]
        rw [bI_f g1, T250_23, if_pos rfl]
