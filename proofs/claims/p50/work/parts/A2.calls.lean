/-! read, image, undo, plan, ends, count, mean, fits, tape, item. -/
section A2
variable {L : j_B} {xs : Nat → Int32} {g : Nat → Int} {q : Option (Nat → Int)} {t : Nat → Int} {N : Nat} {m : j_M0}
/-- a text is read: its clauses are rules -/
theorem PB95 (w : Rel xs g q t N m) (o : txO t N) (S : Nat → Int) (e1 : (alF t N (g 0).toNat 4 0 0 S).1 = true) (e2 : g 1 + (((alF t N (g 0).toNat 4 0 0 S).2.2.1 : Nat) : Int) ≤ 8) : ∃ m', c_call 10 95 [jR 2] (hH L m) = some (some (jI (((alF t N (g 0).toNat 4 0 0 S).2.2.1 : Nat) : Int)), hH L m') ∧ Rel xs (rdG g (alF t N (g 0).toNat 4 0 0 S).2.2.2 (alF t N (g 0).toNat 4 0 0 S).2.2.1) q t 0 m' ∧ ∀ b z, 114 ≤ b → m' b z = m b z := by
  have n := RQ_n w
  obtain ⟨nn, hnn⟩ : ∃ nn : Nat, g 0 = nn := ⟨_, (Int.toNat_of_nonneg (by omega)).symm⟩
  have hC := w.2.2.2.2.2.1
  rw [show (g 0).toNat = nn by omega] at e1 e2 ⊢
  obtain ⟨m1, a1, a2, a3⟩ := Q65 (d := 4) (L := L) (n := nn) (S := S) o (by omega) hC
  obtain ⟨m2, hm2⟩ : ∃ m2, m2 = j_up m1 93 0 0 := ⟨_, rfl⟩
  have q2 : ∀ b z : Nat, ¬ (b = 93 ∨ b = 95 ∨ b = 96 ∨ b = 97) → m2 b z = m b z := fun b z h => by
    rw [hm2, up_ne (by omega)]
    exact kpt_at a2 (by omega)
  obtain ⟨r1, r2⟩ := alF_p (t := t) (N := N) (n := nn) (by omega) 4 0 0 S (by omega) (Nat.zero_le N) (fun q hq => absurd hq (Nat.not_lt_zero q))
  have cls : c_call 10 95 [jR 2] (hH L m) = j_fin (c_call 9) 95 17 [some (jR 2), none] [jI (if (alF t N nn 4 0 0 S).1 = true then -1 else (((alF t N nn 4 0 0 S).2.1 : Nat) : Int))] (hH L m1) := by
    refine (E95 (d := 9)).trans ?_
    rw [T95_0, n.2.2.2.2.1, hnn, show c_call 9 65 _ (hH L m) = _ from a1]
    simp only [Option.bind_some, Option.toList_some, List.cons_append, List.nil_append]
  generalize alF t N nn 4 0 0 S = R at a1 a3 r1 r2 cls e1 e2 ⊢
  obtain ⟨b1, b2, b3⟩ := r2 e1
  obtain ⟨c1, c2⟩ := a3 e1
  have d1 : m2 93 1 = ((R.2.2.1 : Nat) : Int) := by rw [hm2, up_nj (by omega)]; exact c1
  have d4 : m2 4 1 = g 1 := (q2 _ _ (by omega)).trans n.2.2.2.2.2
  have w8 : w32 (m2 4 1 + m2 93 1) = g 1 + ((R.2.2.1 : Nat) : Int) := by rw [d1, d4, w32_id (by omega) (by omega)]
  rw [if_pos e1, T95_17, if_pos (by decide), ← hm2, w8, if_neg (by omega)] at cls
  have pk2 : pkR 4 (rdG g R.2.2.2 0) m2 := pkR_k w.2.2.2.1.1 (fun b z h h' => q2 _ _ (by omega))
  have cc2 : cC R.2.2.1 R.2.2.2 m2 := fun q hq => by
    obtain ⟨y1, y2, y3⟩ := c2 q hq
    have a : ∀ b z : Nat, b ≠ 93 → m2 b z = m1 b z := fun b z hb => by rw [hm2, up_ne hb]
    exact ⟨(a _ _ (by omega)).trans y1, (a _ _ (by omega)).trans y2, fun p hp => (a _ _ (by omega)).trans (y3 p hp)⟩
  obtain ⟨m3, u1, u2, u3⟩ := L66 (d := 6) (L := L) (g := g) (S := R.2.2.2) (cc := R.2.2.1) w.2.1 (by omega) b2 b3 R.2.2.1 0 (by omega) m2 none pk2 d1 cc2
  have q66 : c_call 9 66 [jR 93, jR 4] (hH L m2) = _ := (E66 (d := 8)).trans (T66_0.trans u1)
  rw [q66] at cls
  simp only [Option.bind_some, Option.toList_some, List.cons_append, List.nil_append, Option.toList_none] at cls
  obtain ⟨m4, hm4⟩ : ∃ m4, m4 = j_up m3 2 11 0 := ⟨_, rfl⟩
  have q4 : ∀ b z : Nat, ¬ (b = 2 ∧ z = 11 ∨ 4 ≤ b ∧ b ≤ 8 ∨ b = 93 ∨ b = 95 ∨ b = 96 ∨ b = 97) → m4 b z = m b z := fun b z h => by
    rw [hm4]
    by_cases e : b = 2
    · rw [e, up_nj (by omega), kpt_at u2 (by omega)]
      exact q2 _ _ (by omega)
    · rw [up_ne (by omega), kpt_at u2 (by omega)]
      exact q2 _ _ (by omega)
  have e931 : m4 93 1 = ((R.2.2.1 : Nat) : Int) := by rw [hm4, up_ne (by omega), kpt_at u2 (by omega)]; exact d1
  rw [T95_75, ← hm4, e931] at cls
  have kg : ∀ z : Nat, ¬ (z = 1 ∨ 12 ≤ z ∧ z < 68) → rdG g R.2.2.2 R.2.2.1 z = g z := fun z h => rdG_ne n.2.2.1 h R.2.2.1 (by omega)
  refine ⟨m4, cls, ⟨baR_k w.1 (fun b z h => q4 _ _ (by omega)), rdG_R w.2.1 _ (by omega) b3, gX_k w.2.1 w.2.2.1 kg, stR_pk w.2.1 w.2.2.1 w.2.2.2.1 kg (pkR_k u3 (fun b z h h' => by rw [hm4, up_ne (by omega)])) (fun b z h => q4 _ _ (by omega)), imQ_k w.2.2.2.2.1 (fun b z h => q4 _ _ (by omega)), ⟨?_, fun i hi => absurd hi (Nat.not_lt_zero i)⟩, (q4 _ _ (by omega)).trans w.2.2.2.2.2.2⟩, fun b z h => q4 _ _ (by omega)⟩
  rw [hm4, up_ne (by omega), kpt_at u2 (by omega), hm2, up_eq rfl]
  rfl
/-- a text that is no clause: the place is told, nothing changes -/
theorem PB95f (w : Rel xs g q t N m) (o : txO t N) (S : Nat → Int) (e1 : (alF t N (g 0).toNat 4 0 0 S).1 ≠ true) : ∃ m', c_call 10 95 [jR 2] (hH L m) = some (some (jI (-10 - (((alF t N (g 0).toNat 4 0 0 S).2.1 : Nat) : Int))), hH L m') ∧ Rel xs g q t 0 m' ∧ ∀ b z, 114 ≤ b → m' b z = m b z := by
  have n := RQ_n w
  obtain ⟨nn, hnn⟩ : ∃ nn : Nat, g 0 = nn := ⟨_, (Int.toNat_of_nonneg (by omega)).symm⟩
  have hC := w.2.2.2.2.2.1
  rw [show (g 0).toNat = nn by omega] at e1 ⊢
  obtain ⟨m1, a1, a2, a3⟩ := Q65 (d := 4) (L := L) (n := nn) (S := S) o (by omega) hC
  obtain ⟨m2, hm2⟩ : ∃ m2, m2 = j_up m1 93 0 0 := ⟨_, rfl⟩
  have q2 : ∀ b z : Nat, ¬ (b = 93 ∨ b = 95 ∨ b = 96 ∨ b = 97) → m2 b z = m b z := fun b z h => by
    rw [hm2, up_ne (by omega)]
    exact kpt_at a2 (by omega)
  obtain ⟨r1, -⟩ := alF_p (t := t) (N := N) (n := nn) (by omega) 4 0 0 S (by omega) (Nat.zero_le N) (fun q hq => absurd hq (Nat.not_lt_zero q))
  have h80 := o.1
  refine ⟨m2, (E95 (d := 9)).trans ?_, ⟨baR_k w.1 (fun b z h => q2 _ _ (by omega)), w.2.1, w.2.2.1, stR_k w.2.2.2.1 (fun b z h h' => q2 _ _ (by omega)), imQ_k w.2.2.2.2.1 (fun b z h => q2 _ _ (by omega)), ⟨?_, fun i hi => absurd hi (Nat.not_lt_zero i)⟩, (q2 _ _ (by omega)).trans w.2.2.2.2.2.2⟩, fun b z h => q2 _ _ (by omega)⟩
  · rw [T95_0, n.2.2.2.2.1, hnn, show c_call 9 65 _ (hH L m) = _ from a1]
    simp only [Option.bind_some, Option.toList_some, List.cons_append, List.nil_append]
    rw [if_neg e1, T95_17, if_neg (by omega), ← hm2, w32_id (by omega) (by omega)]
  · rw [hm2, up_eq rfl]
    rfl
/-- an image -/
theorem PB128 (w : Rel xs g q t N m) : ∃ m', c_call 10 128 [jR 2] (hH L m) = some (some (jI (g 1)), hH L m') ∧ Rel xs g (some g) t N m' ∧ ∀ b z, 114 ≤ b → m' b z = m b z := by
  have n := RQ_n w
  obtain ⟨w1, w2, w3, w4, w5, w6, w7⟩ := w
  obtain ⟨m1, t1, t2, t3⟩ := Q32_19 (d := 7) (L := L) w3 w4
  have e : ∀ b z : Nat, ¬ (19 ≤ b ∧ b ≤ 34 ∨ b = 2 ∧ z = 12) → j_up m1 2 12 1 b z = m b z := fun b z h => by
    by_cases e : b = 2
    · rw [e, up_nj (by omega)]
      exact kpt_at t2 (by omega)
    · rw [up_ne e]
      exact kpt_at t2 (by omega)
  refine ⟨j_up m1 2 12 1, (E128 (d := 9)).trans ?_, ⟨baR_k w1 (fun b z h => e _ _ (by omega)), w2, w3, stR_k w4 (fun b z h h' => e _ _ (by omega)), ⟨up_eq rfl, w2, w3, stR_k t3 (fun b z h h' => up_ne (by omega))⟩, tC_k w6 (fun b z h => e _ _ (by omega)), (e _ _ (by omega)).trans w7⟩, fun b z h => e _ _ (by omega)⟩
  rw [T128_0, show c_call 9 32 _ _ = _ from t1]
  simp only [Option.bind_some, Option.toList_some, List.cons_append, List.nil_append, Option.toList_none]
  rw [T128_11, up_ne (show 4 ≠ 2 by omega), kpt_at t2 (by omega), n.2.2.2.2.2]
/-- gone on from as it was -/
theorem PB129 {g1 : Nat → Int} (w : Rel xs g (some g1) t N m) : ∃ m', c_call 10 129 [jR 2] (hH L m) = some (some (jI (g1 1)), hH L m') ∧ Rel xs g1 (some g1) t N m' ∧ ∀ b z, 114 ≤ b → m' b z = m b z := by
  obtain ⟨a1, a3, a4, a5⟩ := w.2.2.2.2.1
  obtain ⟨m1, t1, t2, t3⟩ := Q32_3 (d := 7) (L := L) a4 a5
  have k : kpt uPQ m (j_up m1 2 11 0) := kpt_tr (kpt_w t2 (fun c z h => by unfold uPQ; omega)) (kpt_up (by unfold uPQ scQ; omega))
  refine ⟨j_up m1 2 11 0, (E129 (d := 9)).trans ?_, RQ_up w k a3 a4 (stR_k t3 (fun b z h h' => up_ne (by omega))), RQ_fr k⟩
  have q1 : m1 4 1 = g1 1 := t3.1.2.2.1
  rw [T129_0, if_neg (by omega), show c_call 9 32 _ _ = _ from t1]
  simp only [Option.bind_some, Option.toList_some, List.cons_append, List.nil_append, Option.toList_none]
  rw [T129_21, up_ne (show 4 ≠ 2 by omega), q1]
/-- nothing planned -/
theorem PB125z (w : Rel xs g q t N m) (x v : Int) : PB L xs q t N m 125 [jI (-1), jI x, jI v] (jI 0) (gU g 5 0) := by
  refine PB_u w (m' := j_up m 3 8 0) ((E125 (d := 9)).trans ?_) (kpt_up (by unfold uPQ; omega)) (gR_far w.2.1 (by omega)) (gX_pn0 w.2.1 w.2.2.1) (stR_pn0 w.2.1 w.2.2.1 w.2.2.2.1 (fun b z h h' => rfl))
  rw [T125_0, if_pos rfl]
/-- planned: a rule's bound or sort -/
theorem PB125 (w : Rel xs g q t N m) {a x v : Int} {k : Nat} (hk : g 5 = k) (h8 : k < 8) (g1 : a = 0 ∨ a = 2) (g3 : 0 ≤ x ∧ x < g 1) (g4 : plN a v = 1) : PB L xs q t N m 125 [jI a, jI x, jI v] (jI ((k + 1 : Nat) : Int)) (gU (gU (gU (gU g (86 + 3 * k) a) (87 + 3 * k) x) (88 + 3 * k) v) 5 ((k + 1 : Nat) : Int)) := by
  have n := RQ_n w
  have e8 : m 3 8 = g 5 := w.2.2.2.1.2.2.2.2.2.2.2.1
  refine PB_u w (m' := j_up (j_up (j_up (j_up m 16 k a) 17 k x) 18 k v) 3 8 ((k + 1 : Nat) : Int)) ((E125 (d := 9)).trans ?_) (kpt_tr (kpt_tr (kpt_tr (kpt_up (by unfold uPQ; omega)) (kpt_up (by unfold uPQ; omega))) (kpt_up (by unfold uPQ; omega))) (kpt_up (by unfold uPQ; omega))) (gR_far (gR_far (gR_far (gR_far w.2.1 (by omega)) (by omega)) (by omega)) (by omega)) (gX_plan w.2.1 w.2.2.1 hk h8 (by omega) (by omega) g4) (stR_plan w.2.1 w.2.2.1 w.2.2.2.1 hk h8 (by omega) (by omega) g4 (fun b z h h' => rfl))
  rw [T125_0, if_neg (by omega), if_neg (by omega), if_neg (by omega), if_neg (by omega), RQ_136 (L := L) (d := 8) w x (m' := m) rfl]
  simp only [Option.bind_some, Option.toList_some, List.cons_append, List.nil_append]
  rw [bI_t g3, T125_47, if_neg (by decide), show c_call 9 143 _ (hH L m) = _ from Q143 (d := 7), g4]
  simp only [Option.bind_some, Option.toList_some, List.cons_append, List.nil_append]
  rw [T125_57, if_neg (by decide), if_pos (by omega), Q35 (e8.trans hk) (by omega)]
  simp only [Option.bind_some, Option.toList_some, List.cons_append, List.nil_append, Option.toList_none]
  rw [T125_88, up_eq rfl]
/-- planned: a pack's cost -/
theorem PB125c (w : Rel xs g q t N m) {x v : Int} {k : Nat} (hk : g 5 = k) (h8 : k < 8) (g3 : 0 ≤ x ∧ x < g 0) (g4 : plN 1 v = 1) : PB L xs q t N m 125 [jI 1, jI x, jI v] (jI ((k + 1 : Nat) : Int)) (gU (gU (gU (gU g (86 + 3 * k) 1) (87 + 3 * k) x) (88 + 3 * k) v) 5 ((k + 1 : Nat) : Int)) := by
  have n := RQ_n w
  have e8 : m 3 8 = g 5 := w.2.2.2.1.2.2.2.2.2.2.2.1
  refine PB_u w (m' := j_up (j_up (j_up (j_up m 16 k 1) 17 k x) 18 k v) 3 8 ((k + 1 : Nat) : Int)) ((E125 (d := 9)).trans ?_) (kpt_tr (kpt_tr (kpt_tr (kpt_up (by unfold uPQ; omega)) (kpt_up (by unfold uPQ; omega))) (kpt_up (by unfold uPQ; omega))) (kpt_up (by unfold uPQ; omega))) (gR_far (gR_far (gR_far (gR_far w.2.1 (by omega)) (by omega)) (by omega)) (by omega)) (gX_plan w.2.1 w.2.2.1 hk h8 (by omega) (by omega) g4) (stR_plan w.2.1 w.2.2.1 w.2.2.2.1 hk h8 (by omega) (by omega) g4 (fun b z h h' => rfl))
  rw [T125_0, if_neg (by omega), if_neg (by omega), if_neg (by omega), if_pos rfl, RQ_135 (L := L) (d := 8) w x (m' := m) rfl]
  simp only [Option.bind_some, Option.toList_some, List.cons_append, List.nil_append]
  rw [bI_t g3, T125_36, if_neg (by decide), show c_call 9 143 _ (hH L m) = _ from Q143 (d := 7), g4]
  simp only [Option.bind_some, Option.toList_some, List.cons_append, List.nil_append]
  rw [T125_57, if_neg (by decide), if_pos (by omega), Q35 (e8.trans hk) (by omega)]
  simp only [Option.bind_some, Option.toList_some, List.cons_append, List.nil_append, Option.toList_none]
  rw [T125_88, up_eq rfl]
/-- no such plan -/
theorem PB125w (w : Rel xs g q t N m) {a x v : Int} (h : 2 < a) : PB L xs q t N m 125 [jI a, jI x, jI v] (jI (-1)) g := by
  refine PB_r w ((E125 (d := 9)).trans ?_)
  rw [T125_0, if_neg (by omega), if_neg (by omega), if_pos (by omega)]
theorem PB125r (w : Rel xs g q t N m) {x v : Int} (h : ¬ (0 ≤ x ∧ x < g 1)) : PB L xs q t N m 125 [jI 0, jI x, jI v] (jI (-1)) g := by
  refine PB_r w ((E125 (d := 9)).trans ?_)
  rw [T125_0, if_neg (by omega), if_neg (by omega), if_neg (by omega), if_neg (by omega), RQ_136 (L := L) (d := 8) w x (m' := m) rfl]
  simp only [Option.bind_some, Option.toList_some, List.cons_append, List.nil_append]
  rw [bI_f h, T125_47, if_pos rfl]
theorem PB125v (w : Rel xs g q t N m) {x v : Int} (h : 0 ≤ x ∧ x < g 0) (g4 : plN 1 v = 0) : PB L xs q t N m 125 [jI 1, jI x, jI v] (jI (-2)) g := by
  refine PB_r w ((E125 (d := 9)).trans ?_)
  rw [T125_0, if_neg (by omega), if_neg (by omega), if_neg (by omega), if_pos rfl, RQ_135 (L := L) (d := 8) w x (m' := m) rfl]
  simp only [Option.bind_some, Option.toList_some, List.cons_append, List.nil_append]
  rw [bI_t h, T125_36, if_neg (by decide), show c_call 9 143 _ (hH L m) = _ from Q143 (d := 7), g4]
  simp only [Option.bind_some, Option.toList_some, List.cons_append, List.nil_append]
  rw [T125_57, if_pos rfl]
/-- where the plan ends -/
theorem PB126 (w : Rel xs g q t N m) : PB L xs q t N m 126 [] (jI (worF (pkG (plG g g (g 5).toNat)))) g := by
  have st := w.2.2.2.1
  have h5 := w.2.2.1.2.2.2.2.2.1
  obtain ⟨m1, p1, p2, p3⟩ := Q8_35 (d := 8) (L := L) w.2.2.2.1.1
  obtain ⟨m2, s1, s2⟩ := L126 (d := 3) (L := L) (p := g) (g := g) w.2.1 w.2.2.1 (g 5).toNat 0 (by omega) m1 p3 ((kpt_at p2 (by omega)).trans st.2.2.2.2.2.2.2.1) (fun i hi => ⟨(kpt_at p2 (by omega)).trans (st.2.2.2.2.2.2.2.2 i hi).1, (kpt_at p2 (by omega)).trans (st.2.2.2.2.2.2.2.2 i hi).2.1, (kpt_at p2 (by omega)).trans (st.2.2.2.2.2.2.2.2 i hi).2.2⟩)
  refine PB_s w ((E126 (d := 9)).trans ?_) (kpt_tr (kpt_w p2 (fun c z h => by unfold scQ; omega)) (kpt_w s2 (fun c z h => by unfold scQ; omega)))
  rw [T126_0, p1]
  simp only [Option.bind_some, Option.toList_some, List.cons_append, List.nil_append, Option.toList_none]
  rw [T126_14]
  exact s1
/-- counts -/
theorem PB130 (w : Rel xs g q t N m) {x v : Int} (h : (x = 0 ∧ v = g 0) ∨ (x = 1 ∧ v = g 1) ∨ (x = 6 ∧ v = g 5) ∨ (x = 7 ∧ v = g 6) ∨ (x = 8 ∧ v = N) ∨ (x = 10 ∧ v = -2)) : PB L xs q t N m 130 [jI x] (jI v) g := by
  have n := RQ_n w
  have e8 : m 3 8 = g 5 := w.2.2.2.1.2.2.2.2.2.2.2.1
  have e9 : m 9 0 = g 6 := w.2.2.2.1.2.1.1
  have e93 : m 93 0 = N := w.2.2.2.2.2.1.1
  refine PB_r w ((E130 (d := 9)).trans ?_)
  rw [T130_0, n.2.2.2.2.1, n.2.2.2.2.2, e8, e9, e93]
  rcases h with ⟨rfl, rfl⟩ | ⟨rfl, rfl⟩ | ⟨rfl, rfl⟩ | ⟨rfl, rfl⟩ | ⟨rfl, rfl⟩ | ⟨rfl, rfl⟩ <;> rfl
/-- the mean of the costs -/
theorem LB119 {d : Nat} {p : Int} (w : Rel xs g q t N m) : ∀ j k : Nat, ((k + j : Nat) : Int) = g 0 → j_fin (c_call (d + 2)) 119 15 [some (jR 2), some (jI p), some (jI (meS g k)), some (jI k)] [] (hH L m) = some (some (jL (lwF (meS g (g 0).toNat) (g 0) p)), hH L m) := by
  have n := RQ_n w
  intro j
  induction j with
  | zero =>
    intro k hk
    have a := meS_r w.2.1 k (by omega)
    rw [T119_15, if_neg (by omega), n.2.2.2.2.1, Q146 (by omega) (by omega) (by omega) (by omega)]
    simp only [Option.bind_some, Option.toList_some, List.cons_append, List.nil_append]
    rw [T119_67, show (g 0).toNat = k by omega]
  | succ j ih =>
    intro k hk
    have a := meS_r w.2.1 k (by omega)
    have b := w.2.1.2.2.2.2.1 k (by omega)
    have c : m 5 k = g (7 + k) := w.2.2.2.1.1.2.2.2.1 k (by omega)
    have this := ih (k + 1) (by omega)
    rw [meS] at this
    rw [T119_15, if_pos (by omega), if_pos (by omega), Int.toNat_natCast, c, nat1 (by omega), w32_id (by omega) (by omega)]
    exact this
theorem PB119 (w : Rel xs g q t N m) {p : Int} (h : p = 0 ∨ p = 1) : PB L xs q t N m 119 [jI p] (jL (lwF (meS g (g 0).toNat) (g 0) p)) g := by
  have n := RQ_n w
  refine PB_r w ((E119 (d := 9)).trans ?_)
  rw [T119_0, Q141]
  simp only [Option.bind_some, Option.toList_some, List.cons_append, List.nil_append]
  rw [bI_t h, T119_4, if_neg (by decide)]
  exact LB119 (d := 7) w (g 0).toNat 0 (by omega)
/-- bounds that fit what is seen -/
theorem PB117 (w : Rel xs g q t N m) {r : Nat} {y : Int} (g1 : (r : Int) < g 1) (g2 : 0 ≤ y ∧ y ≤ 1) {p : Nat → Bool} (hp : ∀ k : Nat, k < 10 → (p k = true ↔ fitP g (pkG (gU g (13 + 7 * r) (5 * (k : Int)))))) : PB L xs q t N m 117 [jI r, jI y] (jI (if y = 0 then cnV p 10 0 else fsV p 10 0)) g := by
  have n := RQ_n w
  have st := w.2.2.2.1
  obtain ⟨m1, p1, p2, p3⟩ := Q8_35 (d := 8) (L := L) w.2.2.2.1.1
  obtain ⟨m2, s1, s2⟩ := L117 (d := 3) (L := L) (g := g) (r := r) (x2 := y) (p := p) w.2.1 w.2.2.1 (by omega) hp 10 0 (by omega) m1 ⟨_, by rw [gU_s]; exact p3⟩ ((kpt_at p2 (by omega)).trans st.2.2.2.2.2.1) (fun k hk => ⟨(kpt_at p2 (by omega)).trans (st.2.2.2.2.2.2.1 k hk).1, (kpt_at p2 (by omega)).trans (st.2.2.2.2.2.2.1 k hk).2⟩)
  refine PB_s w (m' := m2) ((E117 (d := 9)).trans ?_) (kpt_tr (kpt_w p2 (fun c z h => by unfold scQ; omega)) (kpt_w s2 (fun c z h => by unfold scQ; omega)))
  rw [T117_0, RQ_136 (L := L) (d := 8) w (r : Int) (m' := m) rfl]
  simp only [Option.bind_some, Option.toList_some, List.cons_append, List.nil_append]
  rw [bI_t (by omega), T117_5, if_neg (by decide), if_neg (by omega), if_neg (by omega), p1]
  simp only [Option.bind_some, Option.toList_some, List.cons_append, List.nil_append, Option.toList_none]
  rw [T117_39]
  exact s1
theorem PB117n (w : Rel xs g q t N m) {x y : Int} (h : ¬ (0 ≤ x ∧ x < g 1)) : PB L xs q t N m 117 [jI x, jI y] (jI (-1)) g := by
  refine PB_r w ((E117 (d := 9)).trans ?_)
  rw [T117_0, RQ_136 (L := L) (d := 8) w x (m' := m) rfl]
  simp only [Option.bind_some, Option.toList_some, List.cons_append, List.nil_append]
  rw [bI_f h, T117_5, if_pos rfl]
end A2
