/-! peek, item, tape. -/
def tpW (b z : Nat) : Prop := b = 99 ∨ b = 100 ∨ (102 ≤ b ∧ b ≤ 107) ∨ (151 ≤ b ∧ b ≤ 154)
theorem Rel_tp {xs : Nat → Int32} {m m' : j_M0} (w : Rel xs m) (k : kpt tpW m m') (t : tpR m') : Rel xs m' := by
  have q : ∀ b z, ¬ tpW b z → m' b z = m b z := fun b z h => kpt_at k h
  unfold tpW at q
  have h5 := (Rel_n w).2.1
  obtain ⟨w1, w2, w3, w4, w5, w6, w7, w8⟩ := w
  have e : m' 110 = m 110 := funext (fun z => q _ _ (by omega))
  exact ⟨baR_k w1 (fun b z h => q _ _ (by omega)), by rw [e]; exact w2, by rw [e]; exact w3, by rw [e]; exact stR_k w4 (fun b z h h' => q _ _ (by omega)), imR_k w5 (fun b z h => q _ _ (by omega)), taR_k w6 h5 (fun b z h => q _ _ (by omega)), teR_k w7 (fun b z h => q _ _ (by omega)), t⟩
theorem Rel_q142 {L : Nat} {m : j_M0} (x : Int) : c_call 9 142 [jI x] (hH L m) = some (some (jI (bI (0 ≤ x ∧ x < 6))), hH L m) := Q142 (d := 8)
theorem Rel_q253 {L : Nat} {m : j_M0} (x : Int) : c_call 9 253 [jI x] (hH L m) = some (some (jI (bI (0 ≤ x ∧ x < 6))), hH L m) := Q253 (d := 7)
theorem PA133 {L : Nat} {xs : Nat → Int32} {m : j_M0} (w : Rel xs m) (x i : Int) : PA L xs 133 261 [jI x, jI i] m := by
  have tp := w.2.2.2.2.2.2.2
  by_cases g1 : 0 ≤ x ∧ x < 6
  · obtain ⟨t, rfl⟩ : ∃ r : Nat, x = r := ⟨_, (Int.toNat_of_nonneg (by omega)).symm⟩
    obtain ⟨a1, a2, a3, a4, a5, a6, a7⟩ := tp.1 t (by omega)
    have ht : 0 ≤ (t : Int) ∧ (t : Int) < 6 := g1
    by_cases g2 : 0 ≤ i ∧ i < m 100 t
    · have z := (tp.2 t i.toNat (by omega) (by omega)).1
      refine PA_r w (v := jL (m (102 + t) i.toNat)) ((E133 (d := 9)).trans ?_) ((E261 (d := 9)).trans ?_)
      · rw [T133_0, Rel_q142]
        simp only [Option.bind_some, Option.toList_some, List.cons_append, List.nil_append]
        rw [bI_t g1, T133_4, if_neg (by decide), if_neg (by omega)]
        simp only [Int.toNat_natCast, if_pos ht]
        rw [if_pos (by omega), if_pos (by omega)]
      · rw [T261_0, Rel_q253]
        simp only [Option.bind_some, Option.toList_some, List.cons_append, List.nil_append]
        rw [bI_t g1, T261_4, if_neg (by decide)]
        simp only [Int.toNat_natCast, if_pos ht]
        rw [if_neg (by omega), w32_id (by omega) (by omega), Q150]
        simp only [Option.bind_some, Option.toList_some, List.cons_append, List.nil_append]
        rw [bI_t (by omega), T261_31, if_neg (by decide), w32_id (x := 60 * (t : Int)) (by omega) (by omega), w32_id (by omega) (by omega), if_pos (by omega), z, show (60 * (t : Int) + i).toNat = 60 * t + i.toNat by omega]
    · refine PA_r w (v := jL (-9223372036854775808)) ((E133 (d := 9)).trans ?_) ((E261 (d := 9)).trans ?_)
      · rw [T133_0, Rel_q142]
        simp only [Option.bind_some, Option.toList_some, List.cons_append, List.nil_append]
        rw [bI_t g1, T133_4, if_neg (by decide)]
        by_cases c : i < 0
        · rw [if_pos c]
        · rw [if_neg c]
          simp only [Int.toNat_natCast, if_pos ht]
          rw [if_neg (by omega)]
      · rw [T261_0, Rel_q253]
        simp only [Option.bind_some, Option.toList_some, List.cons_append, List.nil_append]
        rw [bI_t g1, T261_4, if_neg (by decide)]
        simp only [Int.toNat_natCast, if_pos ht]
        by_cases c : m 151 t < 0
        · rw [if_pos c]
        · rw [if_neg c, w32_id (by omega) (by omega), Q150]
          simp only [Option.bind_some, Option.toList_some, List.cons_append, List.nil_append]
          rw [bI_f (by omega), T261_31, if_pos rfl]
  · refine PA_r w (v := jL (-9223372036854775808)) ((E133 (d := 9)).trans ?_) ((E261 (d := 9)).trans ?_)
    · rw [T133_0, Rel_q142]
      simp only [Option.bind_some, Option.toList_some, List.cons_append, List.nil_append]
      rw [bI_f g1, T133_4, if_pos rfl]
    · rw [T261_0, Rel_q253]
      simp only [Option.bind_some, Option.toList_some, List.cons_append, List.nil_append]
      rw [bI_f g1, T261_4, if_pos rfl]
/-! item -/
def heF (s v : Int) : Int := if s = 0 then w8 (w32 v) else if s = 1 then w16 (w32 v) else if s = 2 then w32 v else if s = 3 then v else if v = 0 then 0 else 1
theorem heF_r {s v : Int} (hv : -9223372036854775808 ≤ v ∧ v ≤ 9223372036854775807) : itR s (heF s v) := by
  have h2 := w32_r v
  have h1 : ∀ y : Int, -32768 ≤ w16 y ∧ w16 y ≤ 32767 := fun y => by
    unfold w16 Int.bmod
    simp only
    omega
  have h0 : ∀ y : Int, -128 ≤ w8 y ∧ w8 y ≤ 127 := fun y => by
    unfold w8 Int.bmod
    simp only
    omega
  have a0 := h0 (w32 v)
  have a1 := h1 (w32 v)
  unfold itR heF
  split
  · omega
  · split
    · omega
    · split
      · omega
      · split
        · omega
        · split <;> omega
theorem PA132 {L : Nat} {xs : Nat → Int32} {m : j_M0} (w : Rel xs m) (x i v : Int) (hv : -9223372036854775808 ≤ v ∧ v ≤ 9223372036854775807) : PA L xs 132 260 [jI x, jI i, jL v] m := by
  have tp := w.2.2.2.2.2.2.2
  by_cases g1 : 0 ≤ x ∧ x < 6
  · obtain ⟨t, rfl⟩ : ∃ r : Nat, x = r := ⟨_, (Int.toNat_of_nonneg (by omega)).symm⟩
    obtain ⟨a1, a2, a3, a4, a5, a6, a7⟩ := tp.1 t (by omega)
    have ht : 0 ≤ (t : Int) ∧ (t : Int) < 6 := g1
    by_cases g3 : m 99 t = -1
    · refine PA_r w (v := jI (-11)) ((E132 (d := 9)).trans ?_) ((E260 (d := 9)).trans ?_)
      · rw [T132_0, Rel_q142]
        simp only [Option.bind_some, Option.toList_some, List.cons_append, List.nil_append]
        rw [bI_t g1, T132_4, if_neg (by decide)]
        simp only [Int.toNat_natCast, if_pos ht, if_pos g3]
      · rw [T260_0, Rel_q253]
        simp only [Option.bind_some, Option.toList_some, List.cons_append, List.nil_append]
        rw [bI_t g1, T260_4, if_neg (by decide)]
        simp only [Int.toNat_natCast, if_pos ht]
        rw [if_pos (by omega)]
    · by_cases g2 : 0 ≤ i ∧ i < m 100 t
      · obtain ⟨k, rfl⟩ : ∃ r : Nat, i = r := ⟨_, (Int.toNat_of_nonneg (by omega)).symm⟩
        have q62 : c_call 9 62 [jR 98, jI (m 99 t), jL v] (hH L m) = some (some (jL (heF (m 99 t) v)), hH L m) := by
          rw [E62, T62_0]
          simp only [cmp_eq]
          unfold heF
          grind
        have q259 : c_call 9 259 [jI (m 151 t), jL v] (hH L (j_up m (102 + t) k (heF (m 99 t) v))) = some (some (jL (heF (m 99 t) v)), hH L (j_up m (102 + t) k (heF (m 99 t) v))) := by
          rw [E259, T259_0, ← a1]
          simp only [cmp_eq]
          unfold heF
          grind
        have e1 : ∀ b z : Nat, b ≠ 102 + t → j_up m (102 + t) k (heF (m 99 t) v) b z = m b z := fun b z h => up_ne h
        refine ⟨jI 1, j_up m (102 + t) k (heF (m 99 t) v), j_up (j_up m (102 + t) k (heF (m 99 t) v)) 153 (60 * t + k) (heF (m 99 t) v), (E132 (d := 9)).trans ?_, (E260 (d := 9)).trans ?_, Rel_tp w (kpt_tr (kpt_up (by unfold tpW; omega)) (kpt_up (by unfold tpW; omega))) ⟨fun u hu => ?_, fun u z hu hz => ?_⟩⟩
        · rw [T132_0, Rel_q142]
          simp only [Option.bind_some, Option.toList_some, List.cons_append, List.nil_append]
          rw [bI_t g1, T132_4, if_neg (by decide)]
          simp only [Int.toNat_natCast, if_pos ht, if_neg g3]
          rw [if_neg (by omega), if_pos (by omega), q62]
          simp only [Option.bind_some, Option.toList_some, List.cons_append, List.nil_append]
          rw [T132_72 (by omega), if_pos (by omega), Int.toNat_natCast]
        · rw [T260_0, Rel_q253]
          simp only [Option.bind_some, Option.toList_some, List.cons_append, List.nil_append]
          rw [bI_t g1, T260_4, if_neg (by decide)]
          simp only [Int.toNat_natCast, if_pos ht]
          rw [e1 151 t (by omega), e1 152 t (by omega), if_neg (by omega), w32_id (by omega) (by omega), Q150]
          simp only [Option.bind_some, Option.toList_some, List.cons_append, List.nil_append]
          rw [bI_t (by omega), T260_36, if_neg (by decide)]
          simp only [Int.toNat_natCast, if_pos ht]
          rw [e1 151 t (by omega), q259]
          simp only [Option.bind_some, Option.toList_some, List.cons_append, List.nil_append]
          rw [T260_62, w32_id (x := 60 * (t : Int)) (by omega) (by omega), w32_id (by omega) (by omega), if_pos (by omega), show (60 * (t : Int) + (k : Int)).toNat = 60 * t + k by omega]
        · simp (disch := omega) only [up_ne]
          exact tp.1 u hu
        · rw [up_ne (show 100 ≠ 153 by omega), up_ne (show 100 ≠ 102 + t by omega)] at hz
          rw [up_ne (show 102 + u ≠ 153 by omega), up_ne (show 99 ≠ 153 by omega), up_ne (show 99 ≠ 102 + t by omega), up_at]
          have z0 := tp.2 u z hu hz
          have z1 := (tp.1 u hu).2.2.2.2.2.1
          by_cases e : u = t
          · subst e
            rw [up_at]
            by_cases e2 : z = k
            · rw [if_pos e2, if_pos (by omega)]
              exact ⟨rfl, heF_r hv⟩
            · rw [if_neg e2, if_neg (by omega), up_ne (show 153 ≠ 102 + u by omega)]
              exact z0
          · rw [up_ne (show 102 + u ≠ 102 + t by omega), if_neg (by omega), up_ne (show 153 ≠ 102 + t by omega)]
            exact z0
      · refine PA_r w (v := jI (-13)) ((E132 (d := 9)).trans ?_) ((E260 (d := 9)).trans ?_)
        · rw [T132_0, Rel_q142]
          simp only [Option.bind_some, Option.toList_some, List.cons_append, List.nil_append]
          rw [bI_t g1, T132_4, if_neg (by decide)]
          simp only [Int.toNat_natCast, if_pos ht, if_neg g3]
          by_cases c : i < 0
          · rw [if_pos c]
          · rw [if_neg c, if_neg (by omega)]
        · rw [T260_0, Rel_q253]
          simp only [Option.bind_some, Option.toList_some, List.cons_append, List.nil_append]
          rw [bI_t g1, T260_4, if_neg (by decide)]
          simp only [Int.toNat_natCast, if_pos ht]
          rw [if_neg (by omega), w32_id (by omega) (by omega), Q150]
          simp only [Option.bind_some, Option.toList_some, List.cons_append, List.nil_append]
          rw [bI_f (by omega), T260_36, if_pos rfl]
  · refine PA_r w (v := jI (-1)) ((E132 (d := 9)).trans ?_) ((E260 (d := 9)).trans ?_)
    · rw [T132_0, Rel_q142]
      simp only [Option.bind_some, Option.toList_some, List.cons_append, List.nil_append]
      rw [bI_f g1, T132_4, if_pos rfl]
    · rw [T260_0, Rel_q253]
      simp only [Option.bind_some, Option.toList_some, List.cons_append, List.nil_append]
      rw [bI_f g1, T260_4, if_pos rfl]
/-! tape -/
theorem L269 {C : Nat → List j_V → j_H → Option j_Z} {L t : Nat} (ht : t < 6) : ∀ j k : Nat, k + j = 60 → ∀ m : j_M0, (∀ p : Nat, p < k → m (102 + t) p = 0) → ∃ m', j_fin C 269 6 [some (jR (102 + t)), some (jL 0), none, some (jI k), some (jI 60)] [] (hH L m) = some (none, hH L m') ∧ kpt (fun b _ => b = 102 + t) m m' ∧ ∀ p : Nat, p < 60 → m' (102 + t) p = 0 := by
  intro j
  induction j with
  | zero =>
    intro k hk m h
    rw [T269_6 ht, if_neg (by omega)]
    exact ⟨m, rfl, kpt_rfl, fun p hp => h p (by omega)⟩
  | succ j ih =>
    intro k hk m h
    rw [T269_6 ht, if_pos (by omega), if_pos (by omega), nat1 (by omega), Int.toNat_natCast]
    obtain ⟨m', t1, t2, t3⟩ := ih (k + 1) (by omega) (j_up m (102 + t) k 0) (fun p hp => by
      rw [up_at]
      by_cases e : p = k
      · rw [if_pos e]
      · rw [if_neg e]; exact h p (by omega))
    exact ⟨m', t1, kpt_tr (kpt_up rfl) t2, t3⟩
theorem Q61 {d L t : Nat} {m : j_M0} {s v : Int} (ht : t < 6) : ∃ m', c_call (d + 2) 61 [jR 98, jI t, jI s, jI v] (hH L m) = some (none, hH L m') ∧ kpt (fun b z => (b = 99 ∨ b = 100) ∧ z = t ∨ b = 102 + t) m m' ∧ m' 99 t = s ∧ m' 100 t = v ∧ ∀ p : Nat, p < 60 → m' (102 + t) p = 0 := by
  obtain ⟨m1, t1, t2, t3⟩ := L269 (C := c_call d) (L := L) ht 60 0 (by omega) (j_up (j_up m 99 t s) 100 t v) (fun p hp => absurd hp (Nat.not_lt_zero p))
  have t1' : j_fin (c_call d) 269 6 [some (jR (102 + t)), some (jL 0), none, some (jI 0), some (jI 60)] [] (hH L (j_up (j_up m 99 t s) 100 t v)) = _ := t1
  refine ⟨m1, ?_, kpt_tr (kpt_up (by omega)) (kpt_tr (kpt_up (by omega)) (kpt_w t2 (fun b z h => by omega))), ?_, ?_, t3⟩
  · rw [E61, T61_0, if_pos (by omega), if_pos (by omega), if_pos (by omega), Int.toNat_natCast, E269, T269_0 ht, t1']
    simp only [Option.bind_some, Option.toList_some, List.cons_append, List.nil_append, Option.toList_none]
    rw [T61_24]
  · rw [kpt_at t2 (by omega), up_ne (by omega), up_eq rfl]
  · rw [kpt_at t2 (by omega), up_eq rfl]
theorem L258 {C : Nat → List j_V → j_H → Option j_Z} {L t : Nat} {s v : Int} {n : Nat} (ht : t < 6) (hn : n ≤ 60) : ∀ j k : Nat, k + j = n → ∀ m : j_M0, m 152 t = n → (∀ p : Nat, p < k → m 153 (60 * t + p) = 0) → ∃ m', j_fin C 258 72 [some (jR 109), some (jI t), some (jI s), some (jI v), some (jI k)] [] (hH L m) = some (some (jI 1), hH L m') ∧ kpt (fun b z => b = 153 ∧ 60 * t ≤ z ∧ z < 60 * t + 60) m m' ∧ ∀ p : Nat, p < n → m' 153 (60 * t + p) = 0 := by
  have ht' : 0 ≤ (t : Int) ∧ (t : Int) < 6 := by omega
  intro j
  induction j with
  | zero =>
    intro k hk m h h2
    rw [T258_72]
    simp only [Int.toNat_natCast, if_pos ht']
    rw [if_neg (by omega)]
    exact ⟨m, rfl, kpt_rfl, fun p hp => h2 p (by omega)⟩
  | succ j ih =>
    intro k hk m h h2
    rw [T258_72]
    simp only [Int.toNat_natCast, if_pos ht']
    rw [if_pos (by omega), w32_id (x := 60 * (t : Int)) (by omega) (by omega), w32_id (x := 60 * (t : Int) + k) (by omega) (by omega), if_pos (by omega), show (60 * (t : Int) + (k : Int)).toNat = 60 * t + k by omega, nat1 (by omega)]
    obtain ⟨m', t1, t2, t3⟩ := ih (k + 1) (by omega) (j_up m 153 (60 * t + k) 0) (by rw [up_ne (by omega)]; exact h) (fun p hp => by
      rw [up_at]
      by_cases e : p = k
      · rw [if_pos (by omega)]
      · rw [if_neg (by omega)]; exact h2 p (by omega))
    exact ⟨m', t1, kpt_tr (kpt_up (by omega)) t2, t3⟩
/-- a tape is laid -/
theorem tpR_lay {m m1 m2 : j_M0} {t n : Nat} {s : Int} (tp : tpR m) (ht : t < 6) (hn : n ≤ 60) (hs : -1 ≤ s ∧ s ≤ 4) (h0 : s = -1 → n = 0) (k1 : kpt (fun b z => (b = 99 ∨ b = 100) ∧ z = t ∨ b = 102 + t) m m1) (f1 : m1 99 t = s) (f2 : m1 100 t = n) (f3 : ∀ p : Nat, p < 60 → m1 (102 + t) p = 0) (k2 : kpt (fun b z => b = 153 ∧ 60 * t ≤ z ∧ z < 60 * t + 60) (j_up (j_up m1 151 t s) 152 t (n : Int)) m2) (f4 : ∀ p : Nat, p < n → m2 153 (60 * t + p) = 0) : tpR m2 := by
  have q : ∀ b z : Nat, ¬ (b = 153 ∧ 60 * t ≤ z ∧ z < 60 * t + 60) → m2 b z = j_up (j_up m1 151 t s) 152 t (n : Int) b z := fun b z h => kpt_at k2 h
  have q1 : ∀ b z : Nat, ¬ ((b = 99 ∨ b = 100) ∧ z = t ∨ b = 102 + t) → m1 b z = m b z := fun b z h => kpt_at k1 h
  refine ⟨fun u hu => ?_, fun u z hu hz => ?_⟩
  · by_cases e : u = t
    · subst e
      rw [q 99 u (by omega), q 100 u (by omega), q 151 u (by omega), q 152 u (by omega)]
      simp (disch := omega) only [up_ne, up_eq]
      omega
    · rw [q 99 u (by omega), q 100 u (by omega), q 151 u (by omega), q 152 u (by omega)]
      simp (disch := omega) only [up_ne, up_nj]
      rw [q1 99 u (by omega), q1 100 u (by omega), q1 151 u (by omega), q1 152 u (by omega)]
      exact tp.1 u hu
  · by_cases e : u = t
    · subst e
      rw [q 100 u (by omega)] at hz
      simp (disch := omega) only [up_ne] at hz
      rw [q 99 u (by omega), q (102 + u) z (by omega), f4 z (by omega)]
      simp (disch := omega) only [up_ne]
      rw [f3 z (by omega)]
      unfold itR
      omega
    · rw [q 100 u (by omega)] at hz
      simp (disch := omega) only [up_ne] at hz
      rw [q1 100 u (by omega)] at hz
      have z1 := (tp.1 u hu).2.2.2.2.2.1
      rw [q 99 u (by omega), q (102 + u) z (by omega), q 153 _ (by omega)]
      simp (disch := omega) only [up_ne]
      rw [q1 99 u (by omega), q1 (102 + u) z (by omega), q1 153 _ (by omega)]
      exact tp.2 u z hu hz
theorem PA131 {L : Nat} {xs : Nat → Int32} {m : j_M0} (w : Rel xs m) (x s v : Int) : PA L xs 131 258 [jI x, jI s, jI v] m := by
  have tp := w.2.2.2.2.2.2.2
  by_cases g1 : 0 ≤ x ∧ x < 6
  · obtain ⟨t, rfl⟩ : ∃ r : Nat, x = r := ⟨_, (Int.toNat_of_nonneg (by omega)).symm⟩
    have ht : 0 ≤ (t : Int) ∧ (t : Int) < 6 := g1
    by_cases g2 : -1 ≤ s ∧ s ≤ 4
    · have b1 : ¬ s < -1 := by omega
      have b2 : ¬ 4 < s := by omega
      have main : ∀ n : Nat, n ≤ 60 → (s = -1 → n = 0) → (s ≠ -1 → v = n) → PA L xs 131 258 [jI (t : Int), jI s, jI v] m := fun n hn h0 h1 => by
        obtain ⟨m1, p1, p2, p3, p4, p5⟩ := Q61 (d := 7) (L := L) (m := m) (t := t) (s := s) (v := (n : Int)) (by omega)
        obtain ⟨m2, r1, r2, r3⟩ := L258 (C := c_call 9) (L := L) (t := t) (s := s) (v := v) (n := n) (by omega) hn n 0 (by omega) (j_up (j_up m1 151 t s) 152 t (n : Int)) (up_eq rfl) (fun p hp => absurd hp (Nat.not_lt_zero p))
        have r1' : j_fin (c_call 9) 258 72 [some (jR 109), some (jI t), some (jI s), some (jI v), some (jI 0)] [] (hH L (j_up (j_up m1 151 t s) 152 t (n : Int))) = _ := r1
        have p1' : c_call 9 61 [jR 98, jI t, jI s, jI (n : Int)] (hH L m) = _ := p1
        refine ⟨jI 1, m1, m2, (E131 (d := 9)).trans ?_, (E258 (d := 9)).trans ?_, Rel_tp w (kpt_tr (kpt_w p2 (fun b z h => by unfold tpW; omega)) (kpt_tr (kpt_up (by unfold tpW; omega)) (kpt_tr (kpt_up (by unfold tpW; omega)) (kpt_w r2 (fun b z h => by unfold tpW; omega))))) (tpR_lay tp (by omega) hn g2 h0 p2 p3 p4 p5 r2 r3)⟩
        · rw [T131_0, Rel_q142]
          simp only [Option.bind_some, Option.toList_some, List.cons_append, List.nil_append]
          rw [bI_t g1, T131_4, if_neg (by decide)]
          by_cases c : s = -1
          · have en := h0 c
            subst en
            have p1'' : c_call 9 61 [jR 98, jI t, jI s, jI 0] (hH L m) = _ := p1
            simp only [if_neg b1, if_neg b2, if_pos c, p1'', Option.bind_some, Option.toList_some, List.cons_append, List.nil_append, Option.toList_none]
            rw [T131_67]
          · have ev := h1 c
            have b3 : ¬ 60 < v := by omega
            have b4 : ¬ v < 0 := by omega
            simp only [if_neg b1, if_neg b2, if_neg c, if_neg b3, if_neg b4]
            rw [ev, p1']
            simp only [Option.bind_some, Option.toList_some, List.cons_append, List.nil_append, Option.toList_none]
            rw [T131_67]
        · rw [T258_0, Rel_q253]
          simp only [Option.bind_some, Option.toList_some, List.cons_append, List.nil_append]
          rw [bI_t g1, T258_4, if_neg (by decide), Q150]
          simp only [Option.bind_some, Option.toList_some, List.cons_append, List.nil_append]
          rw [bI_t g2, T258_20, if_neg (by decide)]
          by_cases c : s = -1
          · have en := h0 c
            subst en
            have c1 : s < 0 := by omega
            simp only [if_pos c1, if_pos ht, Int.toNat_natCast]
            exact r1'
          · have ev := h1 c
            have c1 : ¬ s < 0 := by omega
            have b3 : ¬ 60 < v := by omega
            have b4 : ¬ v < 0 := by omega
            simp only [if_neg c1, if_neg b3, if_neg b4, if_pos ht, Int.toNat_natCast]
            rw [← ev] at r1'
            exact r1'
      by_cases c : s = -1
      · exact main 0 (by omega) (fun _ => rfl) (fun h => absurd c h)
      · have c1 : ¬ s < 0 := by omega
        by_cases b3 : 60 < v
        · refine PA_r w (v := jI (-2)) ((E131 (d := 9)).trans ?_) ((E258 (d := 9)).trans ?_)
          · rw [T131_0, Rel_q142]
            simp only [Option.bind_some, Option.toList_some, List.cons_append, List.nil_append]
            rw [bI_t g1, T131_4, if_neg (by decide)]
            simp only [if_neg b1, if_neg b2, if_neg c, if_pos b3]
          · rw [T258_0, Rel_q253]
            simp only [Option.bind_some, Option.toList_some, List.cons_append, List.nil_append]
            rw [bI_t g1, T258_4, if_neg (by decide), Q150]
            simp only [Option.bind_some, Option.toList_some, List.cons_append, List.nil_append]
            rw [bI_t g2, T258_20, if_neg (by decide)]
            simp only [if_neg c1, if_pos b3]
        · by_cases b4 : v < 0
          · refine PA_r w (v := jI (-14)) ((E131 (d := 9)).trans ?_) ((E258 (d := 9)).trans ?_)
            · rw [T131_0, Rel_q142]
              simp only [Option.bind_some, Option.toList_some, List.cons_append, List.nil_append]
              rw [bI_t g1, T131_4, if_neg (by decide)]
              simp only [if_neg b1, if_neg b2, if_neg c, if_neg b3, if_pos b4]
            · rw [T258_0, Rel_q253]
              simp only [Option.bind_some, Option.toList_some, List.cons_append, List.nil_append]
              rw [bI_t g1, T258_4, if_neg (by decide), Q150]
              simp only [Option.bind_some, Option.toList_some, List.cons_append, List.nil_append]
              rw [bI_t g2, T258_20, if_neg (by decide)]
              simp only [if_neg c1, if_neg b3, if_pos b4]
          · exact main v.toNat (by omega) (fun h => absurd h c) (fun _ => by omega)
    · refine PA_r w (v := jI (-2)) ((E131 (d := 9)).trans ?_) ((E258 (d := 9)).trans ?_)
      · rw [T131_0, Rel_q142]
        simp only [Option.bind_some, Option.toList_some, List.cons_append, List.nil_append]
        rw [bI_t g1, T131_4, if_neg (by decide)]
        by_cases a : s < -1
        · rw [if_pos a]
        · rw [if_neg a, if_pos (by omega)]
      · rw [T258_0, Rel_q253]
        simp only [Option.bind_some, Option.toList_some, List.cons_append, List.nil_append]
        rw [bI_t g1, T258_4, if_neg (by decide), Q150]
        simp only [Option.bind_some, Option.toList_some, List.cons_append, List.nil_append]
        rw [bI_f g2, T258_20, if_pos rfl]
  · refine PA_r w (v := jI (-1)) ((E131 (d := 9)).trans ?_) ((E258 (d := 9)).trans ?_)
    · rw [T131_0, Rel_q142]
      simp only [Option.bind_some, Option.toList_some, List.cons_append, List.nil_append]
      rw [bI_f g1, T131_4, if_pos rfl]
    · rw [T258_0, Rel_q253]
      simp only [Option.bind_some, Option.toList_some, List.cons_append, List.nil_append]
      rw [bI_f g1, T258_4, if_pos rfl]
