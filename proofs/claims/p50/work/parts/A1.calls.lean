/-! size, cost, factor, bound, less, feed, ruleOf, see. -/
section A1
variable {L : j_B} {xs : Nat → Int32} {g : Nat → Int} {q : Option (Nat → Int)} {t : Nat → Int} {N : Nat} {m : j_M0}
theorem PB88 (w : Rel xs g q t N m) {v : Int} (hv : 1 ≤ v ∧ v ≤ 5) : PB L xs q t N m 88 [jI v] (jI (g 0)) (begG g v) := by
  have n := RQ_n w
  obtain ⟨m1, t1, t2, t3⟩ := Q33 (d := 6) (L := L) (v := v) hv w.2.2.2.1
  refine PB_u w (m' := j_up m1 2 11 0) ((E88 (d := 9)).trans ?_) (kpt_tr (kpt_w t2 (fun c z h => by unfold uPQ; omega)) (kpt_up (by unfold uPQ scQ; omega))) (begG_R hv) (begG_X w.2.2.1) (stR_k t3 (fun b z h h' => up_ne (by omega)))
  rw [T88_0, if_neg (by omega), if_neg (by omega), show c_call 9 33 _ (hH L m) = _ from t1]
  simp only [Option.bind_some, Option.toList_some, List.cons_append, List.nil_append, Option.toList_none]
  rw [T88_32, n.2.2.2.2.1]
theorem PB88n (w : Rel xs g q t N m) {v : Int} (hv : ¬ (1 ≤ v ∧ v ≤ 5)) : PB L xs q t N m 88 [jI v] (jI (-2)) g := by
  refine PB_r w ((E88 (d := 9)).trans ?_)
  rw [T88_0]
  by_cases a : v < 1
  · rw [if_pos a]
  · rw [if_neg a, if_pos (by omega)]
theorem PB89 (w : Rel xs g q t N m) {c : Nat} {v : Int} (g1 : (c : Int) < g 0) (g2 : 0 ≤ v ∧ v ≤ 99) : PB L xs q t N m 89 [jI c, jI v] (jI (g (7 + c))) (gU (gU g (7 + c) v) 6 0) := by
  have n := RQ_n w
  have q1 := RQ_135 (L := L) (d := 8) w (c : Int) (m' := m) rfl
  have e1 : m 5 c = g (7 + c) := w.2.2.2.1.1.2.2.2.1 c (by omega)
  have q3 : c_call 9 22 [jR 9] (hH L (j_up m 5 c v)) = some (none, hH L (j_up (j_up m 5 c v) 9 0 0)) := by rw [E22, T22_0_9]
  refine PB_u w (m' := j_up (j_up (j_up m 5 c v) 9 0 0) 2 11 0) ((E89 (d := 9)).trans ?_) (kpt_tr (kpt_tr (kpt_up (by unfold uPQ; omega)) (kpt_up (by unfold uPQ; omega))) (kpt_up (by unfold uPQ scQ; omega))) (gR_far (gR_cost w.2.1 (by omega) g2) (by omega)) (gX_cost w.2.1 w.2.2.1 (by omega) g2) (stR_cost w.2.1 w.2.2.1 w.2.2.2.1 (by omega) g2 (fun b z h h' => by rw [up_ne (by omega)]))
  rw [T89_0, q1]
  simp only [Option.bind_some, Option.toList_some, List.cons_append, List.nil_append]
  rw [bI_t (by omega), T89_5, if_neg (by decide), if_neg (by omega), if_neg (by omega), if_pos (by omega), if_pos (by omega), Int.toNat_natCast, q3]
  simp only [Option.bind_some, Option.toList_some, List.cons_append, List.nil_append, Option.toList_none]
  rw [T89_59, e1]
theorem PB91 (w : Rel xs g q t N m) {r c : Nat} {v : Int} (g1 : (r : Int) < g 1) (g1' : (c : Int) < g 0) (g2 : -9 ≤ v ∧ v ≤ 9) : PB L xs q t N m 91 [jI r, jI c, jI v] (jI (g (14 + 7 * r + c) + 100)) (gU g (14 + 7 * r + c) v) := by
  have n := RQ_n w
  have q1 := RQ_136 (L := L) (d := 8) w (r : Int) (m' := m) rfl
  have q1' := RQ_135 (L := L) (d := 8) w (c : Int) (m' := m) rfl
  have e1 : m 8 (5 * r + c) = g (14 + 7 * r + c) := w.2.2.2.1.1.2.2.2.2.2 r c (by omega) (by omega)
  have r1 := w.2.1.2.2.2.2.2.2 r c (by omega) (by omega)
  refine PB_u w (m' := j_up (j_up m 8 (5 * r + c) v) 2 11 0) ((E91 (d := 9)).trans ?_) (kpt_tr (kpt_up (by unfold uPQ; omega)) (kpt_up (by unfold uPQ scQ; omega))) (gR_fac w.2.1 (by omega) (by omega) g2) (gX_fac w.2.1 w.2.2.1 g1 (by omega) g2) (stR_fac w.2.1 w.2.2.1 w.2.2.2.1 g1 (by omega) g2 (fun b z h h' => by rw [up_ne (by omega)]))
  rw [T91_0, q1]
  simp only [Option.bind_some, Option.toList_some, List.cons_append, List.nil_append]
  rw [bI_t (by omega), T91_5, if_neg (by decide), q1']
  simp only [Option.bind_some, Option.toList_some, List.cons_append, List.nil_append]
  rw [bI_t (by omega), T91_13, if_neg (by decide), show c_call 9 140 _ (hH L m) = _ from Q140 (d := 8)]
  simp only [Option.bind_some, Option.toList_some, List.cons_append, List.nil_append]
  rw [bI_t g2, T91_22, if_neg (by decide), Q11_4 (d := 8) (by omega) (by omega) (by omega) (by omega), Int.toNat_natCast, Int.toNat_natCast, e1]
  simp only [Option.bind_some, Option.toList_some, List.cons_append, List.nil_append]
  rw [T91_40, Q12_4 (d := 8) (by omega) (by omega) (by omega) (by omega), Int.toNat_natCast, Int.toNat_natCast]
  simp only [Option.bind_some, Option.toList_some, List.cons_append, List.nil_append, Option.toList_none]
  rw [T91_55, w32_id (by omega) (by omega)]
theorem PB92 (w : Rel xs g q t N m) {r : Nat} {v : Int} (g1 : (r : Int) < g 1) (g2 : -99 ≤ v ∧ v ≤ 999) : PB L xs q t N m 92 [jI r, jI v] (jI (g (13 + 7 * r) + 1000)) (gU g (13 + 7 * r) v) := by
  have n := RQ_n w
  have q1 := RQ_136 (L := L) (d := 8) w (r : Int) (m' := m) rfl
  have e1 : m 6 r = g (12 + 7 * r) ∧ m 7 r = g (13 + 7 * r) := w.2.2.2.1.1.2.2.2.2.1 r (by omega)
  have r1 := w.2.1.2.2.2.2.2.1 r (by omega)
  refine PB_u w (m' := j_up (j_up m 7 r v) 2 11 0) ((E92 (d := 9)).trans ?_) (kpt_tr (kpt_up (by unfold uPQ; omega)) (kpt_up (by unfold uPQ scQ; omega))) (gR_bound w.2.1 (by omega) g2) (gX_bound w.2.1 w.2.2.1 g1 g2) (stR_bound w.2.1 w.2.2.1 w.2.2.2.1 g1 g2 (fun b z h h' => by rw [up_ne (by omega)]))
  rw [T92_0, q1]
  simp only [Option.bind_some, Option.toList_some, List.cons_append, List.nil_append]
  rw [bI_t (by omega), T92_5, if_neg (by decide), show c_call 9 139 _ (hH L m) = _ from Q139 (d := 8)]
  simp only [Option.bind_some, Option.toList_some, List.cons_append, List.nil_append]
  rw [bI_t g2, T92_14, if_neg (by decide), if_pos (by omega), if_pos (by omega), Int.toNat_natCast, e1.2, w32_id (by omega) (by omega)]
theorem PB93 (w : Rel xs g q t N m) {r : Nat} (hr : g 1 = ((r + 1 : Nat) : Int)) : PB L xs q t N m 93 [] (jI (r : Int)) (gU (gU g 1 (r : Int)) (68 + r) 0) := by
  have n := RQ_n w
  have i0 : w32 (((r + 1 : Nat) : Int) - 1) = (r : Int) := by rw [w32_id (by omega) (by omega)]; omega
  refine PB_u w (m' := j_up (j_up (j_up m 4 1 (r : Int)) 13 r 0) 2 11 0) ((E93 (d := 9)).trans ?_) (kpt_tr (kpt_tr (kpt_up (by unfold uPQ; omega)) (kpt_up (by unfold uPQ; omega))) (kpt_up (by unfold uPQ scQ; omega))) (gR_far (gR_many w.2.1 (by omega)) (by omega)) (gX_less w.2.1 w.2.2.1 hr) (stR_less w.2.1 w.2.2.1 w.2.2.2.1 hr (fun b z h h' => by rw [up_ne (by omega)]))
  rw [T93_0, n.2.2.2.2.2, hr, i0, up_eq rfl, Int.toNat_natCast, if_pos (by omega), if_pos (by omega), up_ne (show 4 ≠ 2 by omega), up_ne (show 4 ≠ 13 by omega), up_eq rfl]
theorem PB96 (w : Rel xs g q t N m) {r k : Nat} (g1 : (r : Int) < g 1) (g2 : (k : Int) ≤ g 0 + 1) : PB L xs q t N m 96 [jI r, jI k] (jI (1000 + g (12 + 7 * r + k))) g := by
  have n := RQ_n w
  have q1 := RQ_136 (L := L) (d := 8) w (r : Int) (m' := m) rfl
  have e1 : m 6 r = g (12 + 7 * r) ∧ m 7 r = g (13 + 7 * r) := w.2.2.2.1.1.2.2.2.2.1 r (by omega)
  have r1 := w.2.1.2.2.2.2.2.1 r (by omega)
  have rg : -99 ≤ g (12 + 7 * r + k) ∧ g (12 + 7 * r + k) ≤ 999 := by
    rcases Nat.lt_or_ge k 2 with h | h
    · rcases Nat.lt_or_ge k 1 with h' | h'
      · rw [show 12 + 7 * r + k = 12 + 7 * r by omega]; omega
      · rw [show 12 + 7 * r + k = 13 + 7 * r by omega]; omega
    · have := w.2.1.2.2.2.2.2.2 r (k - 2) (by omega) (by omega)
      rw [show 14 + 7 * r + (k - 2) = 12 + 7 * r + k by omega] at this
      omega
  refine PB_r w ((E96 (d := 9)).trans ?_)
  rw [T96_0, q1]
  simp only [Option.bind_some, Option.toList_some, List.cons_append, List.nil_append]
  rw [bI_t (by omega), T96_5, if_neg (by decide), if_neg (by omega), n.2.2.2.2.1, w32_id (x := g 0 + 1) (by omega) (by omega), if_neg (by omega)]
  by_cases a1 : (k : Int) = 0
  · rw [if_pos a1, if_pos (by omega), Int.toNat_natCast, e1.1, w32_id (by omega) (by omega), show 12 + 7 * r + k = 12 + 7 * r by omega, Int.add_comm]
  · rw [if_neg a1]
    by_cases a2 : (k : Int) = 1
    · rw [if_pos a2, if_pos (by omega), Int.toNat_natCast, e1.2, w32_id (by omega) (by omega), show 12 + 7 * r + k = 13 + 7 * r by omega, Int.add_comm]
    · have e2 : m 8 (5 * r + (k - 2)) = g (14 + 7 * r + (k - 2)) := w.2.2.2.1.1.2.2.2.2.2 r (k - 2) (by omega) (by omega)
      rw [if_neg a2, w32_id (x := (k : Int) - 2) (by omega) (by omega), Q11_4 (d := 8) (x := (r : Int)) (p := (k : Int) - 2) (by omega) (by omega) (by omega) (by omega), Int.toNat_natCast, show ((k : Int) - 2).toNat = k - 2 by omega, e2, show 14 + 7 * r + (k - 2) = 12 + 7 * r + k by omega]
      simp only [Option.bind_some, Option.toList_some, List.cons_append, List.nil_append]
      rw [T96_87, w32_id (by omega) (by omega), Int.add_comm]
/-- seen: more -/
theorem PB116 (w : Rel xs g q t N m) {k : Nat} {x v : Int} (hk : g 4 = k) (h5 : k < 5) (g1 : 0 ≤ x ∧ x < g 0) (g2 : 0 ≤ v ∧ v ≤ 999) : PB L xs q t N m 116 [jI x, jI v] (jI ((k + 1 : Nat) : Int)) (gU (gU (gU g (76 + 2 * k) x) (77 + 2 * k) v) 4 ((k + 1 : Nat) : Int)) := by
  have n := RQ_n w
  have q1 := RQ_135 (L := L) (d := 8) w x (m' := m) rfl
  have e5 : m 3 5 = g 4 := w.2.2.2.1.2.2.2.2.2.1
  refine PB_u w (m' := j_up (j_up (j_up m 14 k x) 15 k v) 3 5 ((k + 1 : Nat) : Int)) ((E116 (d := 9)).trans ?_) (kpt_tr (kpt_tr (kpt_up (by unfold uPQ; omega)) (kpt_up (by unfold uPQ; omega))) (kpt_up (by unfold uPQ; omega))) (gR_far (gR_far (gR_far w.2.1 (by omega)) (by omega)) (by omega)) (gX_see w.2.1 w.2.2.1 hk h5 g1 g2) (stR_see w.2.1 w.2.2.1 w.2.2.2.1 hk h5 g1 g2 (fun b z h h' => rfl))
  rw [T116_0, if_neg (by omega), q1]
  simp only [Option.bind_some, Option.toList_some, List.cons_append, List.nil_append]
  rw [bI_t g1, T116_20, if_neg (by decide), if_neg (by omega), if_neg (by omega), if_pos (by omega), Q34 (e5.trans hk) (by omega)]
  simp only [Option.bind_some, Option.toList_some, List.cons_append, List.nil_append, Option.toList_none]
  rw [T116_62, up_eq rfl]
/-- seen: nothing -/
theorem PB116z (w : Rel xs g q t N m) (v : Int) : PB L xs q t N m 116 [jI (-1), jI v] (jI 0) (gU g 4 0) := by
  refine PB_u w (m' := j_up m 3 5 0) ((E116 (d := 9)).trans ?_) (kpt_up (by unfold uPQ; omega)) (gR_far w.2.1 (by omega)) (gX_sn0 w.2.1 w.2.2.1) (stR_sn0 w.2.1 w.2.2.1 w.2.2.2.1 (fun b z h h' => rfl))
  rw [T116_0, if_pos rfl]
theorem PB116p (w : Rel xs g q t N m) {x v : Int} (h : x ≠ -1) (h' : ¬ (0 ≤ x ∧ x < g 0)) : PB L xs q t N m 116 [jI x, jI v] (jI (-1)) g := by
  refine PB_r w ((E116 (d := 9)).trans ?_)
  rw [T116_0, if_neg h, RQ_135 (L := L) (d := 8) w x (m' := m) rfl]
  simp only [Option.bind_some, Option.toList_some, List.cons_append, List.nil_append]
  rw [bI_f h', T116_20, if_pos rfl]
theorem PB116v (w : Rel xs g q t N m) {x v : Int} (g1 : 0 ≤ x ∧ x < g 0) (h' : ¬ (0 ≤ v ∧ v ≤ 999)) : PB L xs q t N m 116 [jI x, jI v] (jI (-2)) g := by
  refine PB_r w ((E116 (d := 9)).trans ?_)
  rw [T116_0, if_neg (by omega), RQ_135 (L := L) (d := 8) w x (m' := m) rfl]
  simp only [Option.bind_some, Option.toList_some, List.cons_append, List.nil_append]
  rw [bI_t g1, T116_20, if_neg (by decide)]
  by_cases a : v < 0
  · rw [if_pos a]
  · rw [if_neg a, if_pos (by omega)]
/-- a letter -/
theorem PB94 (w : Rel xs g q t N m) {x : Int} (g1 : 0 ≤ x ∧ x ≤ 127) (h80 : N < 80) {d : Nat} : ∃ m', c_call (d + 1) 94 [jR 2, jI x] (hH L m) = some (some (jI ((N + 1 : Nat) : Int)), hH L m') ∧ Rel xs g q (fun i => if i = N then x else t i) (N + 1) m' ∧ ∀ b z, 114 ≤ b → m' b z = m b z := by
  obtain ⟨w1, w2, w3, w4, w5, w6, w7⟩ := w
  have hk : m 93 0 = (N : Int) := w6.1
  have e : ∀ b z : Nat, b ≠ 94 → b ≠ 93 → j_up (j_up m 94 N x) 93 0 ((N + 1 : Nat) : Int) b z = m b z := fun b z h h' => by rw [up_ne h', up_ne h]
  refine ⟨j_up (j_up m 94 N x) 93 0 ((N + 1 : Nat) : Int), E94.trans ?_, ⟨baR_k w1 (fun b z h => e _ _ (by omega) (by omega)), w2, w3, stR_k w4 (fun b z h h' => e _ _ (by omega) (by omega)), imQ_k w5 (fun b z h => e _ _ (by omega) (by omega)), ⟨up_eq rfl, fun i hi => ?_⟩, (e _ _ (by omega) (by omega)).trans w7⟩, fun b z h => e _ _ (by omega) (by omega)⟩
  · rw [T94_0, if_neg (by omega), if_neg (by omega), if_pos (by omega), if_pos (by omega), hk, Int.toNat_natCast, w8_id (x := x) g1.1 g1.2, w8_id (x := x) g1.1 g1.2, up_ne (show 93 ≠ 94 by omega), hk, nat1 (by omega), up_eq rfl]
  · rw [up_ne (show 94 ≠ 93 by omega), up_at]
    show _ = if i = N then x else t i
    by_cases h : i = N
    · rw [if_pos h, if_pos h]
    · rw [if_neg h, if_neg h]
      exact w6.2 i (by omega)
/-- solved, and what is read of it -/
theorem PB97 (w : Rel xs g q t N m) {k : Nat} (hk : k ≤ 12) : ∃ m', c_call 10 97 [jR 2, jI k] (hH L m) = some (some (jI (solF (pkG g) k).1), hH L m') ∧ Rel xs g q t N m' ∧ (∀ b z, 114 ≤ b → m' b z = m b z) ∧ m' 2 11 = 1 ∧ vC 41 (solF (pkG g) k).2.1 m' ∧ tOK (solF (pkG g) k).2.1 := by
  have ok := pkG_ok w.2.1
  obtain ⟨m1, t1, t2, t3, t4, t5⟩ := Q29_40 (d := 4) (L := L) (m := j_up m 2 11 1) (vP_of (m := j_up m 2 11 1) w.2.1 (pkR_k w.2.2.2.1.1 (fun b z h h' => up_ne (by omega)))) (k := k) (by omega)
  have k1 : kpt scQ m m1 := kpt_tr (kpt_up (by unfold scQ; omega)) (kpt_w t2 (fun c z h => by unfold scQ; omega))
  obtain ⟨p1, p2, p3⟩ := solF_p ok (k := k) (by omega)
  refine ⟨m1, (E97 (d := 9)).trans ?_, RQ_sc w k1, RQ_fr (kpt_w k1 (fun b z h => Or.inr h)), (kpt_at t2 (by omega)).trans (up_eq rfl), t3, p1.1⟩
  rw [T97_0, if_neg (by omega), if_neg (by omega), show c_call 9 29 _ _ = _ from t1]
  simp only [Option.bind_some, Option.toList_some, List.cons_append, List.nil_append]
  rw [T97_33]
/-- what a bound would be worth -/
theorem PB115 (w : Rel xs g q t N m) {r : Nat} {v : Int} (g1 : (r : Int) < g 1) (g2 : -99 ≤ v ∧ v ≤ 999) : PB L xs q t N m 115 [jI r, jI v] (jI (worF (pkG (gU g (13 + 7 * r) v)))) g := by
  have n := RQ_n w
  obtain ⟨m1, p1, p2, p3⟩ := Q8_35 (d := 8) (L := L) w.2.2.2.1.1
  have p4 := pkR_bound p3 (r := r) (v := v) (by omega) g2
  obtain ⟨m2, s1, s2⟩ := Q30b (d := 3) (L := L) (gR_bound w.2.1 (r := r) (by omega) g2) p4
  refine PB_s w (m' := m2) ((E115 (d := 9)).trans ?_) (kpt_tr (kpt_w p2 (fun c z h => by unfold scQ; omega)) (kpt_tr (kpt_up (by unfold scQ; omega)) (kpt_w s2 (fun c z h => by unfold scQ; omega))))
  rw [T115_0, RQ_136 (L := L) (d := 8) w (r : Int) (m' := m) rfl]
  simp only [Option.bind_some, Option.toList_some, List.cons_append, List.nil_append]
  rw [bI_t (by omega), T115_5, if_neg (by decide), show c_call 9 139 _ (hH L m) = _ from Q139 (d := 8)]
  simp only [Option.bind_some, Option.toList_some, List.cons_append, List.nil_append]
  rw [bI_t g2, T115_14, if_neg (by decide), p1]
  simp only [Option.bind_some, Option.toList_some, List.cons_append, List.nil_append, Option.toList_none]
  rw [T115_34, if_pos (by omega), Int.toNat_natCast, s1]
  simp only [Option.bind_some, Option.toList_some, List.cons_append, List.nil_append]
  rw [T115_55]
end A1
