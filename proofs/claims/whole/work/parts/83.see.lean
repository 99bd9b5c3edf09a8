/-! by, box, hand, see. -/
theorem PA105 {L : Nat} {xs : Nat → Int32} {m : j_M0} (w : Rel xs m) (x v : Int) : PA L xs 105 206 [jI x, jI v] m := by
  have n := Rel_n w
  have q1 := Rel_q136 (L := L) (d := 8) w x (m' := m) rfl
  by_cases g1 : 0 ≤ x ∧ x < m 110 1
  · by_cases g2 : 0 ≤ v ∧ v ≤ 9
    · obtain ⟨r, rfl⟩ : ∃ r : Nat, x = r := ⟨_, (Int.toNat_of_nonneg (by omega)).symm⟩
      have e110 : (j_up m 13 r v) 110 = m 110 := e110_up (by decide)
      have q2 := Rel_q153 (L := L) (d := 7) w (r : Int) e110
      have e2 : (j_up (j_up m 13 r v) 110 (68 + r) v) 110 = gU (m 110) (68 + r) v := by rw [up_g, e110]
      refine ⟨jI (m 110 (68 + r)), j_up m 13 r v, j_up (j_up m 13 r v) 110 (68 + r) v, (E105 (d := 9)).trans ?_, (E206 (d := 9)).trans ?_, Rel_up w (kpt_tr (kpt_up (by unfold uPd; omega)) (kpt_up (by unfold uPd; omega))) (by rw [e2]; exact gR_far w.2.1 (by omega)) (by rw [e2]; exact gX_hand w.2.1 w.2.2.1 (by omega) g2) (by rw [e2]; exact stR_hand w.2.1 w.2.2.1 w.2.2.2.1 (by omega) g2 (fun b z h h' => up_ne (by omega))) (Or.inr ⟨?_, ?_, ?_⟩)⟩
      · rw [T105_0, q1]
        simp only [Option.bind_some, Option.toList_some, List.cons_append, List.nil_append]
        rw [bI_t g1, T105_5, if_neg (by decide), if_neg (by omega), if_neg (by omega), if_pos (by omega), if_pos (by omega), Int.toNat_natCast, w.2.2.2.1.2.2.1 r (by omega)]
      · rw [T206_0, q2]
        simp only [Option.bind_some, Option.toList_some, List.cons_append, List.nil_append]
        rw [bI_t g1, T206_5, if_neg (by decide), Q150]
        simp only [Option.bind_some, Option.toList_some, List.cons_append, List.nil_append]
        rw [bI_t g2, T206_19, if_neg (by decide), w32_id (x := 68 + (r : Int)) (by omega) (by omega), if_pos (by omega), if_pos (by omega), show (68 + (r : Int)).toNat = 68 + r by omega, e110]
      · rw [up_ne (by omega), up_ne (by omega)]
      · rw [up_ne (by omega), up_ne (by omega)]
      · rw [e2, gU_ne (by omega)]
    · refine PA_r w (v := jI (-2)) ((E105 (d := 9)).trans ?_) ((E206 (d := 9)).trans ?_)
      · rw [T105_0, q1]
        simp only [Option.bind_some, Option.toList_some, List.cons_append, List.nil_append]
        rw [bI_t g1, T105_5, if_neg (by decide)]
        by_cases a : v < 0
        · rw [if_pos a]
        · rw [if_neg a, if_pos (by omega)]
      · rw [T206_0, Rel_q153 w x rfl]
        simp only [Option.bind_some, Option.toList_some, List.cons_append, List.nil_append]
        rw [bI_t g1, T206_5, if_neg (by decide), Q150]
        simp only [Option.bind_some, Option.toList_some, List.cons_append, List.nil_append]
        rw [bI_f g2, T206_19, if_pos rfl]
  · refine PA_r w (v := jI (-1)) ((E105 (d := 9)).trans ?_) ((E206 (d := 9)).trans ?_)
    · rw [T105_0, q1]
      simp only [Option.bind_some, Option.toList_some, List.cons_append, List.nil_append]
      rw [bI_f g1, T105_5, if_pos rfl]
    · rw [T206_0, Rel_q153 w x rfl]
      simp only [Option.bind_some, Option.toList_some, List.cons_append, List.nil_append]
      rw [bI_f g1, T206_5, if_pos rfl]
theorem PA106 {L : Nat} {xs : Nat → Int32} {m : j_M0} (w : Rel xs m) (v : Int) : PA L xs 106 207 [jI v] m := by
  have n := Rel_n w
  by_cases g2 : 1 ≤ v ∧ v ≤ 10
  · have e110 : (j_up m 3 3 v) 110 = m 110 := e110_up (by decide)
    have e2 : (j_up (j_up m 3 3 v) 110 2 v) 110 = gU (m 110) 2 v := by rw [up_g, e110]
    refine ⟨jI (m 110 2), j_up m 3 3 v, j_up (j_up m 3 3 v) 110 2 v, (E106 (d := 9)).trans ?_, (E207 (d := 9)).trans ?_, Rel_up w (kpt_tr (kpt_up (by unfold uPd; omega)) (kpt_up (by unfold uPd; omega))) (by rw [e2]; exact gR_far w.2.1 (by omega)) (by rw [e2]; exact gX_by w.2.1 w.2.2.1 g2) (by rw [e2]; exact stR_by w.2.1 w.2.2.1 w.2.2.2.1 g2 (fun b z h h' => up_ne (by omega))) (Or.inr ⟨?_, ?_, ?_⟩)⟩
    · rw [T106_0, if_neg (by omega), if_neg (by omega), show m 3 3 = m 110 2 from w.2.2.2.1.2.2.2.1]
    · rw [T207_0, Q150]
      simp only [Option.bind_some, Option.toList_some, List.cons_append, List.nil_append]
      rw [bI_t g2, T207_9, if_neg (by decide), e110]
    · rw [up_ne (by omega), up_ne (by omega)]
    · rw [up_ne (by omega), up_ne (by omega)]
    · rw [e2, gU_ne (by omega)]
  · refine PA_r w (v := jI (-2)) ((E106 (d := 9)).trans ?_) ((E207 (d := 9)).trans ?_)
    · rw [T106_0]
      by_cases a : v < 1
      · rw [if_pos a]
      · rw [if_neg a, if_pos (by omega)]
    · rw [T207_0, Q150]
      simp only [Option.bind_some, Option.toList_some, List.cons_append, List.nil_append]
      rw [bI_f g2, T207_9, if_pos rfl]
theorem PA109 {L : Nat} {xs : Nat → Int32} {m : j_M0} (w : Rel xs m) (v : Int) : PA L xs 109 217 [jI v] m := by
  have n := Rel_n w
  by_cases g2 : 0 ≤ v ∧ v ≤ 6
  · have e110 : (j_up m 3 4 v) 110 = m 110 := e110_up (by decide)
    have e2 : (j_up (j_up m 3 4 v) 110 3 v) 110 = gU (m 110) 3 v := by rw [up_g, e110]
    refine ⟨jI (m 110 3), j_up m 3 4 v, j_up (j_up m 3 4 v) 110 3 v, (E109 (d := 9)).trans ?_, (E217 (d := 9)).trans ?_, Rel_up w (kpt_tr (kpt_up (by unfold uPd; omega)) (kpt_up (by unfold uPd; omega))) (by rw [e2]; exact gR_far w.2.1 (by omega)) (by rw [e2]; exact gX_box w.2.1 w.2.2.1 g2) (by rw [e2]; exact stR_box w.2.1 w.2.2.1 w.2.2.2.1 g2 (fun b z h h' => up_ne (by omega))) (Or.inr ⟨?_, ?_, ?_⟩)⟩
    · rw [T109_0, if_neg (by omega), if_neg (by omega), show m 3 4 = m 110 3 from w.2.2.2.1.2.2.2.2.1]
    · rw [T217_0, Q150]
      simp only [Option.bind_some, Option.toList_some, List.cons_append, List.nil_append]
      rw [bI_t g2, T217_9, if_neg (by decide), e110]
    · rw [up_ne (by omega), up_ne (by omega)]
    · rw [up_ne (by omega), up_ne (by omega)]
    · rw [e2, gU_ne (by omega)]
  · refine PA_r w (v := jI (-2)) ((E109 (d := 9)).trans ?_) ((E217 (d := 9)).trans ?_)
    · rw [T109_0]
      by_cases a : v < 0
      · rw [if_pos a]
      · rw [if_neg a, if_pos (by omega)]
    · rw [T217_0, Q150]
      simp only [Option.bind_some, Option.toList_some, List.cons_append, List.nil_append]
      rw [bI_f g2, T217_9, if_pos rfl]
theorem Q34 {d L : Nat} {m : j_M0} {k : Nat} {x v : Int} (h : m 3 5 = k) (hk : k < 5) : c_call (d + 1) 34 [jR 3, jI x, jI v] (hH L m) = some (none, hH L (j_up (j_up (j_up m 14 k x) 15 k v) 3 5 ((k + 1 : Nat) : Int))) := by
  rw [E34, T34_0]
  simp (disch := omega) only [up_ne, h, Int.toNat_natCast]
  rw [if_pos (by omega), if_pos (by omega), nat1 (by omega)]
theorem Q35 {d L : Nat} {m : j_M0} {k : Nat} {w x v : Int} (h : m 3 8 = k) (hk : k < 8) : c_call (d + 1) 35 [jR 3, jI w, jI x, jI v] (hH L m) = some (none, hH L (j_up (j_up (j_up (j_up m 16 k w) 17 k x) 18 k v) 3 8 ((k + 1 : Nat) : Int))) := by
  rw [E35, T35_0]
  simp (disch := omega) only [up_ne, h, Int.toNat_natCast]
  rw [if_pos (by omega), if_pos (by omega), if_pos (by omega), nat1 (by omega)]
theorem PA116 {L : Nat} {xs : Nat → Int32} {m : j_M0} (w : Rel xs m) (x v : Int) : PA L xs 116 232 [jI x, jI v] m := by
  have n := Rel_n w
  have q1 := Rel_q135 (L := L) (d := 8) w x (m' := m) rfl
  have e5 : m 3 5 = m 110 4 := w.2.2.2.1.2.2.2.2.2.1
  have x4 := w.2.2.1.2.2.2.1
  by_cases g0 : x = -1
  · subst g0
    have e110 : (j_up m 3 5 0) 110 = m 110 := e110_up (by decide)
    have e2 : (j_up (j_up m 3 5 0) 110 4 0) 110 = gU (m 110) 4 0 := by rw [up_g, e110]
    refine ⟨jI 0, j_up m 3 5 0, j_up (j_up m 3 5 0) 110 4 0, (E116 (d := 9)).trans ?_, (E232 (d := 9)).trans ?_, Rel_up w (kpt_tr (kpt_up (by unfold uPd; omega)) (kpt_up (by unfold uPd; omega))) (by rw [e2]; exact gR_far w.2.1 (by omega)) (by rw [e2]; exact gX_sn0 w.2.1 w.2.2.1) (by rw [e2]; exact stR_sn0 w.2.1 w.2.2.1 w.2.2.2.1 (fun b z h h' => up_ne (by omega))) (Or.inr ⟨?_, ?_, ?_⟩)⟩
    · rw [T116_0, if_pos rfl]
    · rw [T232_0, if_pos rfl]
    · rw [up_ne (by omega), up_ne (by omega)]
    · rw [up_ne (by omega), up_ne (by omega)]
    · rw [e2, gU_ne (by omega)]
  · by_cases g1 : 0 ≤ x ∧ x < m 110 0
    · by_cases g2 : 0 ≤ v ∧ v ≤ 999
      · obtain ⟨k, hk⟩ : ∃ k : Nat, m 110 4 = k := ⟨_, (Int.toNat_of_nonneg (by omega)).symm⟩
        by_cases g3 : k = 5
        · refine PA_r w (v := jI (-4)) ((E116 (d := 9)).trans ?_) ((E232 (d := 9)).trans ?_)
          · rw [T116_0, if_neg g0, q1]
            simp only [Option.bind_some, Option.toList_some, List.cons_append, List.nil_append]
            rw [bI_t g1, T116_20, if_neg (by decide), if_neg (by omega), if_neg (by omega), if_neg (by omega)]
          · rw [T232_0, if_neg g0, Rel_q152 w x rfl]
            simp only [Option.bind_some, Option.toList_some, List.cons_append, List.nil_append]
            rw [bI_t g1, T232_19, if_neg (by decide), Q150]
            simp only [Option.bind_some, Option.toList_some, List.cons_append, List.nil_append]
            rw [bI_t g2, T232_33, if_neg (by decide), if_pos (by omega)]
        · have e110 : (j_up (j_up (j_up m 14 k x) 15 k v) 3 5 ((k + 1 : Nat) : Int)) 110 = m 110 := by rw [e110_up (by decide), e110_up (by decide), e110_up (by decide)]
          obtain ⟨m1, hm1⟩ : ∃ m1, m1 = j_up (j_up (j_up m 14 k x) 15 k v) 3 5 ((k + 1 : Nat) : Int) := ⟨_, rfl⟩
          rw [← hm1] at e110
          have e2 : (j_up (j_up (j_up m1 110 (76 + 2 * k) x) 110 (77 + 2 * k) v) 110 4 ((k + 1 : Nat) : Int)) 110 = gU (gU (gU (m 110) (76 + 2 * k) x) (77 + 2 * k) v) 4 ((k + 1 : Nat) : Int) := by rw [up_g, up_g, up_g, e110]
          refine ⟨jI ((k + 1 : Nat) : Int), m1, j_up (j_up (j_up m1 110 (76 + 2 * k) x) 110 (77 + 2 * k) v) 110 4 ((k + 1 : Nat) : Int), (E116 (d := 9)).trans ?_, (E232 (d := 9)).trans ?_, Rel_up w (kpt_tr (by rw [hm1]; exact kpt_tr (kpt_tr (kpt_up (by unfold uPd; omega)) (kpt_up (by unfold uPd; omega))) (kpt_up (by unfold uPd; omega))) (kpt_tr (kpt_tr (kpt_up (by unfold uPd; omega)) (kpt_up (by unfold uPd; omega))) (kpt_up (by unfold uPd; omega)))) (by rw [e2]; exact gR_far (gR_far (gR_far w.2.1 (by omega)) (by omega)) (by omega)) (by rw [e2]; exact gX_see w.2.1 w.2.2.1 hk (by omega) g1 g2) (by rw [e2]; exact stR_see w.2.1 w.2.2.1 w.2.2.2.1 hk (by omega) g1 g2 (fun b z h h' => by rw [up_ne (by omega), up_ne (by omega), up_ne (by omega), hm1])) (Or.inr ⟨?_, ?_, ?_⟩)⟩
          · rw [T116_0, if_neg g0, q1]
            simp only [Option.bind_some, Option.toList_some, List.cons_append, List.nil_append]
            rw [bI_t g1, T116_20, if_neg (by decide), if_neg (by omega), if_neg (by omega), if_pos (by omega), Q34 (e5.trans hk) (by omega)]
            simp only [Option.bind_some, Option.toList_some, List.cons_append, List.nil_append, Option.toList_none]
            rw [T116_62, up_eq rfl, hm1]
          · rw [T232_0, if_neg g0, Rel_q152 w x e110]
            simp only [Option.bind_some, Option.toList_some, List.cons_append, List.nil_append]
            rw [bI_t g1, T232_19, if_neg (by decide), Q150]
            simp only [Option.bind_some, Option.toList_some, List.cons_append, List.nil_append]
            rw [bI_t g2, T232_33, if_neg (by decide), e110, hk, if_neg (by omega)]
            rw [w32_id (x := 2 * (k : Int)) (by omega) (by omega), w32_id (x := 76 + 2 * (k : Int)) (by omega) (by omega), show (76 + 2 * (k : Int)).toNat = 76 + 2 * k by omega, up_nj (m := m1) (show 4 ≠ 76 + 2 * k by omega), e110, hk, w32_id (x := 2 * (k : Int)) (by omega) (by omega), w32_id (x := 76 + 2 * (k : Int)) (by omega) (by omega), w32_id (x := 76 + 2 * (k : Int) + 1) (by omega) (by omega), show (76 + 2 * (k : Int) + 1).toNat = 77 + 2 * k by omega, up_nj (show 4 ≠ 77 + 2 * k by omega), up_nj (m := m1) (show 4 ≠ 76 + 2 * k by omega), e110, hk, nat1 (by omega), if_pos (by omega), if_pos (by omega), up_eq rfl]
          · rw [up_ne (by omega), up_ne (by omega), up_ne (by omega), hm1, up_ne (by omega), up_ne (by omega), up_ne (by omega)]
          · rw [up_ne (by omega), up_ne (by omega), up_ne (by omega), hm1, up_ne (by omega), up_ne (by omega), up_ne (by omega)]
          · rw [e2, gU_ne (by omega), gU_ne (by omega), gU_ne (by omega)]
      · refine PA_r w (v := jI (-2)) ((E116 (d := 9)).trans ?_) ((E232 (d := 9)).trans ?_)
        · rw [T116_0, if_neg g0, q1]
          simp only [Option.bind_some, Option.toList_some, List.cons_append, List.nil_append]
          rw [bI_t g1, T116_20, if_neg (by decide)]
          by_cases a : v < 0
          · rw [if_pos a]
          · rw [if_neg a, if_pos (by omega)]
        · rw [T232_0, if_neg g0, Rel_q152 w x rfl]
          simp only [Option.bind_some, Option.toList_some, List.cons_append, List.nil_append]
          rw [bI_t g1, T232_19, if_neg (by decide), Q150]
          simp only [Option.bind_some, Option.toList_some, List.cons_append, List.nil_append]
          rw [bI_f g2, T232_33, if_pos rfl]
    · refine PA_r w (v := jI (-1)) ((E116 (d := 9)).trans ?_) ((E232 (d := 9)).trans ?_)
      · rw [T116_0, if_neg g0, q1]
        simp only [Option.bind_some, Option.toList_some, List.cons_append, List.nil_append]
        rw [bI_f g1, T116_20, if_pos rfl]
      · rw [T232_0, if_neg g0, Rel_q152 w x rfl]
        simp only [Option.bind_some, Option.toList_some, List.cons_append, List.nil_append]
        rw [bI_f g1, T232_19, if_pos rfl]
