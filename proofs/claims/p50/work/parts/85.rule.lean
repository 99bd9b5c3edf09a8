/-! rule, size. -/
/-- a rule comes, of no factors -/
def addG (g : Nat → Int) (s b : Int) : Nat → Int := fun i => if i = 1 then g 1 + 1 else if i = 12 + 7 * (g 1).toNat then s else if i = 13 + 7 * (g 1).toNat then b else if 14 + 7 * (g 1).toNat ≤ i ∧ i < 19 + 7 * (g 1).toNat then 0 else g i
theorem addG_1 {g : Nat → Int} {s b : Int} : addG g s b 1 = g 1 + 1 := if_pos rfl
theorem addG_ne {g : Nat → Int} {s b : Int} {i : Nat} (h : i ≠ 1) (h2 : ¬ (12 + 7 * (g 1).toNat ≤ i ∧ i < 19 + 7 * (g 1).toNat)) : addG g s b i = g i := by
  unfold addG
  rw [if_neg h, if_neg (by omega), if_neg (by omega), if_neg (by omega)]
theorem addG_s {g : Nat → Int} {s b : Int} {i : Nat} (h : i = 12 + 7 * (g 1).toNat) : addG g s b i = s := by
  unfold addG
  rw [if_neg (by omega), if_pos h]
theorem addG_b {g : Nat → Int} {s b : Int} {i : Nat} (h : i = 13 + 7 * (g 1).toNat) : addG g s b i = b := by
  unfold addG
  rw [if_neg (by omega), if_neg (by omega), if_pos h]
theorem addG_f {g : Nat → Int} {s b : Int} {i : Nat} (h : 14 + 7 * (g 1).toNat ≤ i ∧ i < 19 + 7 * (g 1).toNat) : addG g s b i = 0 := by
  unfold addG
  rw [if_neg (by omega), if_neg (by omega), if_neg (by omega), if_pos h]
theorem addG_R {g : Nat → Int} (h : gR g) {s b : Int} (hN : g 1 < 8) (hs : s = 0 ∨ s = 1) (hb : -99 ≤ b ∧ b ≤ 999) : gR (addG g s b) := by
  obtain ⟨h1, h2, h3, h4, h5, h6, h7⟩ := h
  unfold gR
  rw [addG_1, addG_ne (i := 0) (by omega) (by omega)]
  refine ⟨h1, h2, by omega, by omega, fun p hp => ?_, fun q hq => ?_, fun q p hq hp => ?_⟩
  · rw [addG_ne (by omega) (by omega)]; exact h5 p hp
  · by_cases e : q = (g 1).toNat
    · rw [addG_s (by omega), addG_b (by omega)]
      exact ⟨hs, hb⟩
    · rw [addG_ne (by omega) (by omega), addG_ne (by omega) (by omega)]
      exact h6 q hq
  · by_cases e : q = (g 1).toNat
    · rw [addG_f (by omega)]
      omega
    · rw [addG_ne (by omega) (by omega)]
      exact h7 q p hq hp
theorem addG_X {g : Nat → Int} (hg : gR g) (hx : gX g) {s b : Int} (hN : g 1 < 8) : gX (addG g s b) := by
  have h0 := hg.1
  have h3 := hg.2.2.1
  have h5 := hg.2.1
  have kg : ∀ z : Nat, ¬ (z = 1 ∨ 12 ≤ z ∧ z < 68) → addG g s b z = g z := fun z h => addG_ne (by omega) (by omega)
  obtain ⟨x1, x2, x3, x4, x5, x6, x7, x8, x9, x10⟩ := hx
  refine ⟨?_, ?_, ?_, ?_, ?_, ?_, ?_, ?_, ?_, ?_⟩
  · exact fun r hr => by
      rw [kg _ (by omega)]
      exact x1 r hr
  · exact by
      rw [kg 2 (by omega)]
      exact x2
  · exact by
      rw [kg 3 (by omega)]
      exact x3
  · exact by
      rw [kg 4 (by omega)]
      exact x4
  · exact fun k hk => by
      rw [kg 4 (by omega)] at hk
      rw [kg (76 + 2 * k) (by omega), kg (77 + 2 * k) (by omega), kg 0 (by omega)]
      exact x5 k hk
  · exact by
      rw [kg 5 (by omega)]
      exact x6
  · exact fun k hk => by
      rw [kg 5 (by omega)] at hk
      rw [kg (86 + 3 * k) (by omega), kg (87 + 3 * k) (by omega), kg (88 + 3 * k) (by omega)]
      exact x7 k hk
  · exact by
      rw [kg 6 (by omega)]
      exact x8
  · exact fun k hk => by
      rw [kg 6 (by omega)] at hk
      rw [kg (110 + 2 * k) (by omega), kg (111 + 2 * k) (by omega), kg 0 (by omega)]
      exact x9 k hk
  · exact fun i j hij hj => by
      rw [kg 6 (by omega)] at hj
      rw [kg (110 + 2 * i) (by omega), kg (110 + 2 * j) (by omega)]
      exact x10 i j hij hj
theorem L10_4 {d N : Nat} {L : j_B} {s b : Int} (hN : N < 8) : ∀ j k : Nat, k + j = 5 → ∀ m : j_M0, m 4 1 = N → (∀ p : Nat, p < k → m 8 (5 * N + p) = 0) → ∃ m', j_fin (c_call (d + 1)) 10 22 [some (jR 4), some (jI s), some (jI b), some (jI k)] [] (hH L m) = some (none, hH L (j_up m' 4 1 ((N + 1 : Nat) : Int))) ∧ kpt (fun c z => c = 8 ∧ 5 * N ≤ z ∧ z < 5 * N + 5) m m' ∧ ∀ p : Nat, p < 5 → m' 8 (5 * N + p) = 0 := by
  intro j
  induction j with
  | zero =>
    intro k hk m h h2
    rw [T10_22_4, if_neg (by omega), h, nat1 (by omega)]
    exact ⟨m, rfl, kpt_rfl, fun p hp => h2 p (by omega)⟩
  | succ j ih =>
    intro k hk m h h2
    rw [T10_22_4, if_pos (by omega), h, show c_call (d + 1) 12 _ _ = _ from Q12_4 (d := d) (by omega) (by omega) (by omega) (by omega)]
    simp only [Option.bind_some, Option.toList_some, List.cons_append, List.nil_append, Option.toList_none]
    rw [T10_37_4, nat1 (by omega), Int.toNat_natCast, Int.toNat_natCast]
    obtain ⟨m', t1, t2, t3⟩ := ih (k + 1) (by omega) (j_up m 8 (5 * N + k) 0) (by rw [up_ne (by omega)]; exact h) (fun p hp => by
      rw [up_at]
      by_cases e : 5 * N + p = 5 * N + k
      · rw [if_pos e]
      · rw [if_neg e]; exact h2 p (by omega))
    exact ⟨m', t1, kpt_tr (kpt_up (by omega)) t2, t3⟩
theorem Q10_4 {d : Nat} {L : j_B} {g : Nat → Int} {m : j_M0} (hg : gR g) (w : pkR 4 g m) {s b : Int} (h8 : g 1 < 8) (hs : s = 0 ∨ s = 1) (hb : -99 ≤ b ∧ b ≤ 999) : ∃ m', c_call (d + 2) 10 [jR 4, jI s, jI b] (hH L m) = some (none, hH L m') ∧ kpt (fun c z => 4 ≤ c ∧ c ≤ 8 ∧ (c = 4 → z = 1)) m m' ∧ pkR 4 (addG g s b) m' := by
  obtain ⟨w1, w2, w3, w4, w5, w6⟩ := w
  obtain ⟨a1, a2, a3, a4, a5, a6, a7⟩ := w1
  simp only [Nat.reduceAdd] at a5 a6 a7 w4 w5 w6
  have g1 := hg.2.2.1
  have g5 := hg.2.1
  obtain ⟨N, hN⟩ : ∃ N : Nat, g 1 = N := ⟨_, (Int.toNat_of_nonneg (by omega)).symm⟩
  have hN2 : (g 1).toNat = N := by omega
  have e1 : m 4 1 = (N : Int) := w3.trans hN
  obtain ⟨m1, t1, t2, t3⟩ := L10_4 (d := d) (L := L) (N := N) (s := s) (b := b) (by omega) 5 0 (by omega) (j_up (j_up m 6 N s) 7 N b) (by rw [up_ne (by omega), up_ne (by omega)]; exact e1) (fun p hp => absurd hp (Nat.not_lt_zero p))
  have q : ∀ c z : Nat, ¬ (c = 8 ∧ 5 * N ≤ z ∧ z < 5 * N + 5) → m1 c z = j_up (j_up m 6 N s) 7 N b c z := fun c z h => kpt_at t2 h
  refine ⟨j_up m1 4 1 ((N + 1 : Nat) : Int), ?_, kpt_tr (kpt_up (by omega)) (kpt_tr (kpt_up (by omega)) (kpt_tr (kpt_w t2 (fun c z h => by omega)) (kpt_up (by omega)))), ?_⟩
  · rw [E10, T10_0_4, up_ne (show 4 ≠ 6 by omega), e1, if_pos (by omega), if_pos (by omega), Int.toNat_natCast]
    exact t1
  · unfold pkR kP
    rw [addG_1, addG_ne (i := 0) (by omega) (by omega)]
    simp only [Nat.reduceAdd]
    have f2 : ∀ z, m1 6 z = if z = N then s else m 6 z := fun z => by rw [q _ _ (by omega), up_ne (by omega), up_at]
    have f3 : ∀ z, m1 7 z = if z = N then b else m 7 z := fun z => by rw [q _ _ (by omega), up_at, up_ne (by omega)]
    have f4 : ∀ z, m1 8 z = if 5 * N ≤ z ∧ z < 5 * N + 5 then 0 else m 8 z := fun z => by
      by_cases e : 5 * N ≤ z ∧ z < 5 * N + 5
      · have := t3 (z - 5 * N) (by omega)
        rw [show 5 * N + (z - 5 * N) = z by omega] at this
        rw [if_pos e, this]
      · rw [if_neg e, q _ _ (by omega), up_ne (by omega), up_ne (by omega)]
    have f0 : m1 4 0 = m 4 0 := by rw [q _ _ (by omega), up_ne (by omega), up_ne (by omega)]
    have f1 : ∀ z, m1 5 z = m 5 z := fun z => by rw [q _ _ (by omega), up_ne (by omega), up_ne (by omega)]
    simp (disch := omega) only [up_ne, up_nj, up_eq, f0, f1, f2, f3, f4]
    refine ⟨⟨a1, a2, by omega, by omega, a5, fun r hr => ?_, fun i hi => ?_⟩, w2, by omega, fun p hp => ?_, fun r hr => ?_, fun r p hr hp => ?_⟩
    · by_cases e : r = N
      · rw [if_pos e, if_pos e]; exact ⟨hs, hb⟩
      · rw [if_neg e, if_neg e]; exact a6 r hr
    · split
      · omega
      · exact a7 i hi
    · rw [addG_ne (by omega) (by omega)]; exact w4 p hp
    · by_cases e : r = N
      · rw [if_pos e, if_pos e, addG_s (by omega), addG_b (by omega)]; exact ⟨rfl, rfl⟩
      · rw [if_neg e, if_neg e, addG_ne (by omega) (by omega), addG_ne (by omega) (by omega)]; exact w5 r (by omega)
    · by_cases e : r = N
      · rw [if_pos (by omega), addG_f (by omega)]
      · rw [if_neg (by omega), addG_ne (by omega) (by omega)]; exact w6 r p (by omega) hp
theorem L10_35 {d N : Nat} {L : j_B} {s b : Int} (hN : N < 8) : ∀ j k : Nat, k + j = 5 → ∀ m : j_M0, m 35 1 = N → (∀ p : Nat, p < k → m 39 (5 * N + p) = 0) → ∃ m', j_fin (c_call (d + 1)) 10 22 [some (jR 35), some (jI s), some (jI b), some (jI k)] [] (hH L m) = some (none, hH L (j_up m' 35 1 ((N + 1 : Nat) : Int))) ∧ kpt (fun c z => c = 39 ∧ 5 * N ≤ z ∧ z < 5 * N + 5) m m' ∧ ∀ p : Nat, p < 5 → m' 39 (5 * N + p) = 0 := by
  intro j
  induction j with
  | zero =>
    intro k hk m h h2
    rw [T10_22_35, if_neg (by omega), h, nat1 (by omega)]
    exact ⟨m, rfl, kpt_rfl, fun p hp => h2 p (by omega)⟩
  | succ j ih =>
    intro k hk m h h2
    rw [T10_22_35, if_pos (by omega), h, show c_call (d + 1) 12 _ _ = _ from Q12_35 (d := d) (by omega) (by omega) (by omega) (by omega)]
    simp only [Option.bind_some, Option.toList_some, List.cons_append, List.nil_append, Option.toList_none]
    rw [T10_37_35, nat1 (by omega), Int.toNat_natCast, Int.toNat_natCast]
    obtain ⟨m', t1, t2, t3⟩ := ih (k + 1) (by omega) (j_up m 39 (5 * N + k) 0) (by rw [up_ne (by omega)]; exact h) (fun p hp => by
      rw [up_at]
      by_cases e : 5 * N + p = 5 * N + k
      · rw [if_pos e]
      · rw [if_neg e]; exact h2 p (by omega))
    exact ⟨m', t1, kpt_tr (kpt_up (by omega)) t2, t3⟩
theorem Q10_35 {d : Nat} {L : j_B} {g : Nat → Int} {m : j_M0} (hg : gR g) (w : pkR 35 g m) {s b : Int} (h8 : g 1 < 8) (hs : s = 0 ∨ s = 1) (hb : -99 ≤ b ∧ b ≤ 999) : ∃ m', c_call (d + 2) 10 [jR 35, jI s, jI b] (hH L m) = some (none, hH L m') ∧ kpt (fun c z => 35 ≤ c ∧ c ≤ 39 ∧ (c = 35 → z = 1)) m m' ∧ pkR 35 (addG g s b) m' := by
  obtain ⟨w1, w2, w3, w4, w5, w6⟩ := w
  obtain ⟨a1, a2, a3, a4, a5, a6, a7⟩ := w1
  simp only [Nat.reduceAdd] at a5 a6 a7 w4 w5 w6
  have g1 := hg.2.2.1
  have g5 := hg.2.1
  obtain ⟨N, hN⟩ : ∃ N : Nat, g 1 = N := ⟨_, (Int.toNat_of_nonneg (by omega)).symm⟩
  have hN2 : (g 1).toNat = N := by omega
  have e1 : m 35 1 = (N : Int) := w3.trans hN
  obtain ⟨m1, t1, t2, t3⟩ := L10_35 (d := d) (L := L) (N := N) (s := s) (b := b) (by omega) 5 0 (by omega) (j_up (j_up m 37 N s) 38 N b) (by rw [up_ne (by omega), up_ne (by omega)]; exact e1) (fun p hp => absurd hp (Nat.not_lt_zero p))
  have q : ∀ c z : Nat, ¬ (c = 39 ∧ 5 * N ≤ z ∧ z < 5 * N + 5) → m1 c z = j_up (j_up m 37 N s) 38 N b c z := fun c z h => kpt_at t2 h
  refine ⟨j_up m1 35 1 ((N + 1 : Nat) : Int), ?_, kpt_tr (kpt_up (by omega)) (kpt_tr (kpt_up (by omega)) (kpt_tr (kpt_w t2 (fun c z h => by omega)) (kpt_up (by omega)))), ?_⟩
  · rw [E10, T10_0_35, up_ne (show 35 ≠ 37 by omega), e1, if_pos (by omega), if_pos (by omega), Int.toNat_natCast]
    exact t1
  · unfold pkR kP
    rw [addG_1, addG_ne (i := 0) (by omega) (by omega)]
    simp only [Nat.reduceAdd]
    have f2 : ∀ z, m1 37 z = if z = N then s else m 37 z := fun z => by rw [q _ _ (by omega), up_ne (by omega), up_at]
    have f3 : ∀ z, m1 38 z = if z = N then b else m 38 z := fun z => by rw [q _ _ (by omega), up_at, up_ne (by omega)]
    have f4 : ∀ z, m1 39 z = if 5 * N ≤ z ∧ z < 5 * N + 5 then 0 else m 39 z := fun z => by
      by_cases e : 5 * N ≤ z ∧ z < 5 * N + 5
      · have := t3 (z - 5 * N) (by omega)
        rw [show 5 * N + (z - 5 * N) = z by omega] at this
        rw [if_pos e, this]
      · rw [if_neg e, q _ _ (by omega), up_ne (by omega), up_ne (by omega)]
    have f0 : m1 35 0 = m 35 0 := by rw [q _ _ (by omega), up_ne (by omega), up_ne (by omega)]
    have f1 : ∀ z, m1 36 z = m 36 z := fun z => by rw [q _ _ (by omega), up_ne (by omega), up_ne (by omega)]
    simp (disch := omega) only [up_ne, up_nj, up_eq, f0, f1, f2, f3, f4]
    refine ⟨⟨a1, a2, by omega, by omega, a5, fun r hr => ?_, fun i hi => ?_⟩, w2, by omega, fun p hp => ?_, fun r hr => ?_, fun r p hr hp => ?_⟩
    · by_cases e : r = N
      · rw [if_pos e, if_pos e]; exact ⟨hs, hb⟩
      · rw [if_neg e, if_neg e]; exact a6 r hr
    · split
      · omega
      · exact a7 i hi
    · rw [addG_ne (by omega) (by omega)]; exact w4 p hp
    · by_cases e : r = N
      · rw [if_pos e, if_pos e, addG_s (by omega), addG_b (by omega)]; exact ⟨rfl, rfl⟩
      · rw [if_neg e, if_neg e, addG_ne (by omega) (by omega), addG_ne (by omega) (by omega)]; exact w5 r (by omega)
    · by_cases e : r = N
      · rw [if_pos (by omega), addG_f (by omega)]
      · rw [if_neg (by omega), addG_ne (by omega) (by omega)]; exact w6 r p (by omega) hp
theorem stR_add {g : Nat → Int} {m m' : j_M0} (hg : gR g) (hx : gX g) (st : stR 3 g m) {s b : Int} (hN : g 1 < 8) (pk : pkR 4 (addG g s b) m') (km : ∀ b z : Nat, b = 3 ∨ 9 ≤ b ∧ b ≤ 18 → m' b z = m b z) : stR 3 (addG g s b) m' := by
  have kg : ∀ z : Nat, ¬ (z = 1 ∨ 12 ≤ z ∧ z < 68) → addG g s b z = g z := fun z h => addG_ne (by omega) (by have := hg.2.2.1; omega)
  have h0 := hg.1
  have h5 := hg.2.1
  have h8 := hg.2.2.2.1
  have x4 := hx.2.2.2.1
  have x6 := hx.2.2.2.2.2.1
  have x8 := hx.2.2.2.2.2.2.2.1
  refine ⟨?_, ?_, ?_, ?_, ?_, ?_, ?_, ?_, ?_⟩
  · exact pk
  · exact ofR_g (ofR_k st.2.1 (fun b z h h' => km _ _ (by omega))) (by omega) (fun z hz => kg _ (by omega))
  · exact fun r hr => (km _ _ (by omega)).trans ((st.2.2.1 r hr).trans (kg _ (by omega)).symm)
  · exact (km _ _ (by omega)).trans (st.2.2.2.1.trans (kg _ (by omega)).symm)
  · exact (km _ _ (by omega)).trans (st.2.2.2.2.1.trans (kg _ (by omega)).symm)
  · exact (km _ _ (by omega)).trans (st.2.2.2.2.2.1.trans (kg _ (by omega)).symm)
  · exact fun k hk => by
      rw [kg 4 (by omega)] at hk
      exact ⟨(km _ _ (by omega)).trans ((st.2.2.2.2.2.2.1 k hk).1.trans (kg _ (by omega)).symm), (km _ _ (by omega)).trans ((st.2.2.2.2.2.2.1 k hk).2.trans (kg _ (by omega)).symm)⟩
  · exact (km _ _ (by omega)).trans (st.2.2.2.2.2.2.2.1.trans (kg _ (by omega)).symm)
  · exact fun k hk => by
      rw [kg 5 (by omega)] at hk
      exact ⟨(km _ _ (by omega)).trans ((st.2.2.2.2.2.2.2.2 k hk).1.trans (kg _ (by omega)).symm), (km _ _ (by omega)).trans ((st.2.2.2.2.2.2.2.2 k hk).2.1.trans (kg _ (by omega)).symm), (km _ _ (by omega)).trans ((st.2.2.2.2.2.2.2.2 k hk).2.2.trans (kg _ (by omega)).symm)⟩
/-! size -/
def begG (g : Nat → Int) (v : Int) : Nat → Int := fun i => if i = 0 then v else if i = 2 then 1 else if i = 3 then g 3 else if 7 ≤ i ∧ i < 12 then 1 else if i < 150 then 0 else g i
theorem begG_0 {g : Nat → Int} {v : Int} : begG g v 0 = v := if_pos rfl
theorem begG_2 {g : Nat → Int} {v : Int} : begG g v 2 = 1 := rfl
theorem begG_3 {g : Nat → Int} {v : Int} : begG g v 3 = g 3 := rfl
theorem begG_z {g : Nat → Int} {v : Int} {i : Nat} (h : i ≠ 0 ∧ i ≠ 2 ∧ i ≠ 3 ∧ ¬ (7 ≤ i ∧ i < 12) ∧ i < 150) : begG g v i = 0 := by
  unfold begG
  rw [if_neg h.1, if_neg h.2.1, if_neg h.2.2.1, if_neg h.2.2.2.1, if_pos h.2.2.2.2]
theorem begG_c {g : Nat → Int} {v : Int} {i : Nat} (h : 7 ≤ i ∧ i < 12) : begG g v i = 1 := by
  unfold begG
  rw [if_neg (by omega), if_neg (by omega), if_neg (by omega), if_pos h]
theorem begG_R {g : Nat → Int} {v : Int} (hv : 1 ≤ v ∧ v ≤ 5) : gR (begG g v) := by
  unfold gR
  rw [begG_0, begG_z (i := 1) (by omega)]
  refine ⟨hv.1, hv.2, by omega, by omega, fun p hp => ?_, fun r hr => ?_, fun r p hr hp => ?_⟩
  · rw [begG_c (by omega)]; omega
  · rw [begG_z (i := 12 + 7 * r) (by omega), begG_z (i := 13 + 7 * r) (by omega)]; omega
  · rw [begG_z (i := 14 + 7 * r + p) (by omega)]; omega
theorem begG_X {g : Nat → Int} (hx : gX g) {v : Int} : gX (begG g v) := by
  have x3 := hx.2.2.1
  unfold gX
  rw [begG_2, begG_3, begG_z (i := 4) (by omega), begG_z (i := 5) (by omega), begG_z (i := 6) (by omega)]
  refine ⟨fun r hr => ?_, by omega, x3, by omega, fun k hk => by omega, by omega, fun k hk => by omega, by omega, fun k hk => by omega, fun i j hij hj => by omega⟩
  rw [begG_z (i := 68 + r) (by omega)]; omega
theorem L270_5 {C : Nat → List j_V → j_H → Option j_Z} {L : j_B} {x : Int} : ∀ j k : Nat, k + j = 5 → ∀ m : j_M0, (∀ p : Nat, p < k → m 5 p = x) → ∃ m', j_fin C 270 5 [some (jR 5), some (jI x), some (jI k), some (jI 5)] [] (hH L m) = some (none, hH L m') ∧ kpt (fun c z => c = 5 ∧ z < 5) m m' ∧ ∀ p : Nat, p < 5 → m' 5 p = x := by
  intro j
  induction j with
  | zero =>
    intro k hk m h
    rw [T270_5_5, if_neg (by omega)]
    exact ⟨m, rfl, kpt_rfl, fun p hp => h p (by omega)⟩
  | succ j ih =>
    intro k hk m h
    rw [T270_5_5, if_pos (by omega), if_pos (by omega), nat1 (by omega), Int.toNat_natCast]
    obtain ⟨m', t1, t2, t3⟩ := ih (k + 1) (by omega) (j_up m 5 k x) (fun p hp => by
      rw [up_at]
      by_cases e : p = k
      · rw [if_pos e]
      · rw [if_neg e]; exact h p (by omega))
    exact ⟨m', t1, kpt_tr (kpt_up (by omega)) t2, t3⟩
theorem L270_13 {C : Nat → List j_V → j_H → Option j_Z} {L : j_B} {x : Int} : ∀ j k : Nat, k + j = 8 → ∀ m : j_M0, (∀ p : Nat, p < k → m 13 p = x) → ∃ m', j_fin C 270 5 [some (jR 13), some (jI x), some (jI k), some (jI 8)] [] (hH L m) = some (none, hH L m') ∧ kpt (fun c z => c = 13 ∧ z < 8) m m' ∧ ∀ p : Nat, p < 8 → m' 13 p = x := by
  intro j
  induction j with
  | zero =>
    intro k hk m h
    rw [T270_5_13, if_neg (by omega)]
    exact ⟨m, rfl, kpt_rfl, fun p hp => h p (by omega)⟩
  | succ j ih =>
    intro k hk m h
    rw [T270_5_13, if_pos (by omega), if_pos (by omega), nat1 (by omega), Int.toNat_natCast]
    obtain ⟨m', t1, t2, t3⟩ := ih (k + 1) (by omega) (j_up m 13 k x) (fun p hp => by
      rw [up_at]
      by_cases e : p = k
      · rw [if_pos e]
      · rw [if_neg e]; exact h p (by omega))
    exact ⟨m', t1, kpt_tr (kpt_up (by omega)) t2, t3⟩
theorem Q9 {d : Nat} {L : j_B} {m : j_M0} {v : Int} (hv : 1 ≤ v ∧ v ≤ 5) (w : kP 4 m) : ∃ m', c_call (d + 2) 9 [jR 4, jI v] (hH L m) = some (none, hH L m') ∧ kpt (fun c z => c = 4 ∧ z < 2 ∨ c = 5 ∧ z < 5) m m' ∧ ∀ g, pkR 4 (begG g v) m' := by
  obtain ⟨a1, a2, a3, a4, a5, a6, a7⟩ := w
  simp only [Nat.reduceAdd] at a5 a6 a7
  obtain ⟨m1, t1, t2, t3⟩ := L270_5 (C := c_call d) (L := L) (x := 1) 5 0 (by omega) (j_up (j_up m 4 0 v) 4 1 0) (fun p hp => absurd hp (Nat.not_lt_zero p))
  have q : ∀ c z : Nat, ¬ (c = 5 ∧ z < 5) → m1 c z = j_up (j_up m 4 0 v) 4 1 0 c z := fun c z h => kpt_at t2 h
  refine ⟨m1, ?_, kpt_tr (kpt_up (by omega)) (kpt_tr (kpt_up (by omega)) (kpt_w t2 (fun c z h => by omega))), fun g => ?_⟩
  · rw [E9, T9_0, E270, T270_0_5]
    have t1' : j_fin (c_call d) 270 5 [some (jR 5), some (jI 1), some (jI 0), some (jI 5)] [] (hH L (j_up (j_up m 4 0 v) 4 1 0)) = _ := t1
    rw [t1']
    simp only [Option.bind_some, Option.toList_some, List.cons_append, List.nil_append, Option.toList_none]
    rw [T9_18]
  · unfold pkR kP
    simp only [Nat.reduceAdd]
    rw [begG_0, begG_z (i := 1) (by omega)]
    have f1 : m1 4 1 = 0 := by rw [q _ _ (by omega), up_eq rfl]
    have f0 : m1 4 0 = v := by rw [q _ _ (by omega), up_nj (by omega), up_eq rfl]
    have f6 : ∀ b z, 6 ≤ b → m1 b z = m b z := fun b z h => by rw [q _ _ (by omega), up_ne (by omega), up_ne (by omega)]
    rw [f0, f1]
    refine ⟨⟨hv.1, hv.2, by omega, by omega, fun p hp => ?_, fun r hr => ?_, fun i hi => ?_⟩, rfl, rfl, fun p hp => ?_, fun r hr => by omega, fun r p hr hp => by omega⟩
    · rw [t3 p hp]; omega
    · rw [f6 _ _ (by omega), f6 _ _ (by omega)]; exact a6 r hr
    · rw [f6 _ _ (by omega)]; exact a7 i hi
    · rw [t3 p hp, begG_c (by omega)]
theorem Q33 {d : Nat} {L : j_B} {g : Nat → Int} {m : j_M0} {v : Int} (hv : 1 ≤ v ∧ v ≤ 5) (st : stR 3 g m) : ∃ m', c_call (d + 3) 33 [jR 3, jI v] (hH L m) = some (none, hH L m') ∧ kpt (fun c _ => 3 ≤ c ∧ c ≤ 18) m m' ∧ stR 3 (begG g v) m' := by
  obtain ⟨m1, t1, t2, t3⟩ := Q9 (d := d) (L := L) (m := m) hv st.1.1
  obtain ⟨m2, s1, s2, s3⟩ := L270_13 (C := c_call (d + 1)) (L := L) (x := 0) 8 0 (by omega) (j_up m1 9 0 0) (fun p hp => absurd hp (Nat.not_lt_zero p))
  have q : ∀ c z : Nat, ¬ (c = 4 ∧ z < 2 ∨ c = 5 ∧ z < 5) → m1 c z = m c z := fun c z h => kpt_at t2 h
  have q2 : ∀ c z : Nat, ¬ (c = 13 ∧ z < 8) → m2 c z = j_up m1 9 0 0 c z := fun c z h => kpt_at s2 h
  have c22 : c_call (d + 2) 22 [jR 9] (hH L m1) = some (none, hH L (j_up m1 9 0 0)) := by rw [E22, T22_0_9]
  refine ⟨j_up (j_up (j_up m2 3 3 1) 3 5 0) 3 8 0, ?_, kpt_tr (kpt_w t2 (fun c z h => by omega)) (kpt_tr (kpt_up (by omega)) (kpt_tr (kpt_w s2 (fun c z h => by omega)) (kpt_tr (kpt_up (by omega)) (kpt_tr (kpt_up (by omega)) (kpt_up (by omega)))))), ?_⟩
  · rw [E33, T33_0, show c_call (d + 2) 9 _ _ = _ from t1]
    simp only [Option.bind_some, Option.toList_some, List.cons_append, List.nil_append, Option.toList_none]
    rw [T33_8, c22]
    simp only [Option.bind_some, Option.toList_some, List.cons_append, List.nil_append, Option.toList_none]
    rw [T33_15, E270, T270_0_13]
    have s1' : j_fin (c_call (d + 1)) 270 5 [some (jR 13), some (jI 0), some (jI 0), some (jI 8)] [] (hH L (j_up m1 9 0 0)) = _ := s1
    rw [s1']
    simp only [Option.bind_some, Option.toList_some, List.cons_append, List.nil_append, Option.toList_none]
    rw [T33_23]
  · have e4 : m 3 4 = g 3 := st.2.2.2.2.1
    refine ⟨pkR_k (t3 g) (fun b z h h' => ?_), ofR_0 ?_ (begG_z (by omega)), fun r hr => ?_, ?_, ?_, ?_, fun k hk => ?_, ?_, fun k hk => ?_⟩
    · rw [up_ne (by omega), up_ne (by omega), up_ne (by omega), q2 _ _ (by omega), up_ne (by omega)]
    · rw [up_ne (by omega), up_ne (by omega), up_ne (by omega), q2 _ _ (by omega), up_eq rfl]
    · rw [up_ne (by omega), up_ne (by omega), up_ne (by omega)]
      rw [show 3 + 10 = 13 from rfl, s3 r hr, begG_z (by omega)]
    · rw [up_nj (by omega), up_nj (by omega), up_eq rfl, begG_2]
    · rw [up_nj (by omega), up_nj (by omega), up_nj (by omega), q2 _ _ (by omega), up_ne (by omega), q _ _ (by omega), e4, begG_3]
    · rw [up_nj (by omega), up_eq rfl, begG_z (by omega)]
    · rw [begG_z (i := 4) (by omega)] at hk
      omega
    · rw [up_eq rfl, begG_z (by omega)]
    · rw [begG_z (i := 5) (by omega)] at hk
      omega
