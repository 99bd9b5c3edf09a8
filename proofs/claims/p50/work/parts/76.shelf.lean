/-! Shelves. -/
/-- where a mix comes on a shelf: looked for from the end -/
def posL (cost code : Int) (c x : Nat → Int) : Nat → Nat
  | 0 => 0
  | j + 1 => if cost < c j ∨ (cost = c j ∧ code < x j) then posL cost code c x j else j + 1
def insA (f : Nat → Int) (p : Nat) (v : Int) : Nat → Int := fun i => if i < p then f i else if i = p then v else f (i - 1)
theorem insA_lt {f : Nat → Int} {p i : Nat} {v : Int} (h : i < p) : insA f p v i = f i := if_pos h
theorem insA_eq {f : Nat → Int} {p i : Nat} {v : Int} (h : i = p) : insA f p v i = v := by unfold insA; rw [if_neg (by omega), if_pos h]
theorem insA_gt {f : Nat → Int} {p i : Nat} {v : Int} (h : p < i) : insA f p v i = f (i - 1) := by unfold insA; rw [if_neg (by omega), if_neg (by omega)]
theorem posL_b (cost code : Int) (c x : Nat → Int) : ∀ N : Nat, posL cost code c x N ≤ N ∧ (∀ i : Nat, posL cost code c x N ≤ i → i < N → cost < c i ∨ (cost = c i ∧ code < x i)) ∧ (0 < posL cost code c x N → ¬ (cost < c (posL cost code c x N - 1) ∨ (cost = c (posL cost code c x N - 1) ∧ code < x (posL cost code c x N - 1)))) := by
  intro N
  induction N with
  | zero =>
    unfold posL
    exact ⟨Nat.le_refl _, fun i h h' => absurd h' (Nat.not_lt_zero i), fun h => absurd h (Nat.lt_irrefl 0)⟩
  | succ N ih =>
    unfold posL
    by_cases e : cost < c N ∨ (cost = c N ∧ code < x N)
    · rw [if_pos e]
      refine ⟨by omega, fun i h h' => ?_, ih.2.2⟩
      by_cases e2 : i = N
      · subst e2; exact e
      · exact ih.2.1 i h (by omega)
    · rw [if_neg e]
      exact ⟨Nat.le_refl _, fun i h h' => by omega, fun _ => by rw [Nat.add_sub_cancel]; exact e⟩
/-- the shelf at a -/
def shD (a N : Nat) (x c q : Nat → Int) (m : j_M0) : Prop := m a 0 = N ∧ ∀ i : Nat, i < N → m (a + 1) i = x i ∧ m (a + 2) i = c i ∧ m (a + 3) i = q i
theorem shD_k {a N : Nat} {x c q : Nat → Int} {m m' : j_M0} (s : shD a N x c q m) (k : ∀ b z, a ≤ b → b ≤ a + 3 → m' b z = m b z) : shD a N x c q m' := ⟨(k _ _ (by omega) (by omega)).trans s.1, fun i hi => ⟨(k _ _ (by omega) (by omega)).trans (s.2 i hi).1, (k _ _ (by omega) (by omega)).trans (s.2 i hi).2.1, (k _ _ (by omega) (by omega)).trans (s.2 i hi).2.2⟩⟩
theorem shD_e {a N : Nat} {x c q x' c' q' : Nat → Int} {m : j_M0} (s : shD a N x c q m) (e : ∀ i : Nat, i < N → x i = x' i ∧ c i = c' i ∧ q i = q' i) : shD a N x' c' q' m := ⟨s.1, fun i hi => ⟨(s.2 i hi).1.trans (e i hi).1, (s.2 i hi).2.1.trans (e i hi).2.1, (s.2 i hi).2.2.trans (e i hi).2.2⟩⟩
theorem Q27_9 {d : Nat} {L : j_B} {m : j_M0} {x k : Int} {j : Nat} (hj : j < 20) : c_call (d + 1) 27 [jR 9, jI x, jI k, jI j] (hH L m) = some (some (jI (bI (k < m 11 j ∨ (k = m 11 j ∧ x < m 10 j)))), hH L m) := by
  have h : (0 : Int) ≤ (j : Int) ∧ (j : Int) < 20 := by omega
  rw [E27, T27_0_9]
  simp only [if_pos h, Int.toNat_natCast]
  unfold bI
  grind
theorem L25_9 {d M : Nat} {L : j_B} {x c q : Nat → Int} {code cost ask : Int} (hM : M < 20) : ∀ (j : Nat) (m : j_M0), j ≤ M → m 9 0 = M → (∀ i : Nat, i < j → m 10 i = x i ∧ m 11 i = c i ∧ m 12 i = q i) → (∀ i : Nat, j < i → i ≤ M → m 10 i = x (i - 1) ∧ m 11 i = c (i - 1) ∧ m 12 i = q (i - 1)) → ∃ m', j_fin (c_call (d + 1)) 25 6 [some (jR 9), some (jI code), some (jI cost), some (jI ask), some (jI j)] [] (hH L m) = some (none, hH L m') ∧ kpt (fun b _ => 9 ≤ b ∧ b ≤ 12) m m' ∧ shD 9 (M + 1) (insA x (posL cost code c x j) code) (insA c (posL cost code c x j) cost) (insA q (posL cost code c x j) ask) m' := by
  intro j
  induction j with
  | zero =>
    intro m hj h0 h1 h2
    rw [T25_6_9, if_neg (by omega), if_pos (by omega), if_pos (by omega), if_pos (by omega), Int.toNat_natCast]
    refine ⟨_, rfl, kpt_tr (kpt_tr (kpt_tr (kpt_up (by omega)) (kpt_up (by omega))) (kpt_up (by omega))) (kpt_up (by omega)), ?_, fun i hi => ?_⟩
    · rw [up_eq rfl]
      simp (disch := omega) only [up_ne, h0, nat1]
    · unfold posL
      simp (disch := omega) only [Nat.reduceAdd, up_ne, up_at]
      by_cases e : i = 0
      · simp only [if_pos e, insA_eq e]
        exact ⟨trivial, trivial, trivial⟩
      · simp only [if_neg e, insA_gt (show 0 < i by omega)]
        exact h2 i (by omega) (by omega)
  | succ j ih =>
    intro m hj h0 h1 h2
    have hj1 := h1 j (by omega)
    have e0 : w32 (((j + 1 : Nat) : Int) - 1) = (j : Int) := by
      rw [w32_id (by omega) (by omega)]
      omega
    rw [T25_6_9, if_pos (by omega), e0, Q27_9 (show j < 20 by omega)]
    simp only [Option.bind_some, Option.toList_some, List.cons_append, List.nil_append]
    rw [T25_21_9, e0, hj1.1, hj1.2.1]
    unfold posL
    by_cases e : cost < c j ∨ (cost = c j ∧ code < x j)
    · rw [if_pos e, bI_t e, if_neg (by decide), if_pos (by omega), if_pos (by omega), if_pos (by omega), if_pos (by omega), if_pos (by omega), if_pos (by omega)]
      simp (disch := omega) only [Int.toNat_natCast, up_ne, hj1.1, hj1.2.1, hj1.2.2]
      rw [w32_id (by omega) (by omega), show ((j + 1 : Nat) : Int) + (-1) = (j : Int) by omega]
      obtain ⟨m', t1, t2, t3⟩ := ih (j_up (j_up (j_up m 10 (j + 1) (x j)) 11 (j + 1) (c j)) 12 (j + 1) (q j)) (by omega) (by simp (disch := omega) only [up_ne]; exact h0) (fun i hi => by
        simp (disch := omega) only [up_ne, up_nj]
        exact h1 i (by omega)) (fun i hi hi2 => by
        simp (disch := omega) only [up_ne, up_at]
        by_cases e2 : i = j + 1
        · subst e2
          simp only [if_true, Nat.add_sub_cancel]
          exact ⟨trivial, trivial, trivial⟩
        · simp only [if_neg e2]
          exact h2 i (by omega) hi2)
      exact ⟨m', t1, kpt_tr (kpt_tr (kpt_tr (kpt_up (by omega)) (kpt_up (by omega))) (kpt_up (by omega))) t2, t3⟩
    · rw [if_neg e, bI_f e, if_pos rfl, if_pos (by omega), if_pos (by omega), if_pos (by omega), Int.toNat_natCast]
      refine ⟨_, rfl, kpt_tr (kpt_tr (kpt_tr (kpt_up (by omega)) (kpt_up (by omega))) (kpt_up (by omega))) (kpt_up (by omega)), ?_, fun i hi => ?_⟩
      · rw [up_eq rfl]
        simp (disch := omega) only [up_ne, h0, nat1]
      · simp (disch := omega) only [Nat.reduceAdd, up_ne, up_at]
        by_cases e2 : i = j + 1
        · simp only [if_pos e2, insA_eq e2]
          exact ⟨trivial, trivial, trivial⟩
        · simp only [if_neg e2]
          by_cases e3 : i < j + 1
          · simp only [insA_lt e3]
            exact h1 i e3
          · simp only [insA_gt (show j + 1 < i by omega)]
            exact h2 i (by omega) (by omega)
theorem Q25_9 {d N : Nat} {L : j_B} {x c q : Nat → Int} {code cost ask : Int} {m : j_M0} (s : shD 9 N x c q m) (hN : N < 20) : ∃ m', c_call (d + 2) 25 [jR 9, jI code, jI cost, jI ask] (hH L m) = some (none, hH L m') ∧ kpt (fun b _ => 9 ≤ b ∧ b ≤ 12) m m' ∧ shD 9 (N + 1) (insA x (posL cost code c x N) code) (insA c (posL cost code c x N) cost) (insA q (posL cost code c x N) ask) m' := by
  have h0 := s.1
  rw [E25, T25_0_9, h0]
  exact L25_9 hN N m (Nat.le_refl N) h0 (fun i hi => s.2 i hi) (fun i h h' => by omega)
/-! nth -/
/-- the cheapest so far, by cost, then by code: how many, costs, codes -/
abbrev NS : Type := Nat × (Nat → Int) × (Nat → Int)
def nsI (s : NS) (cost code : Int) : NS := (s.1 + 1, insA s.2.1 (posL cost code s.2.1 s.2.2 s.1) cost, insA s.2.2 (posL cost code s.2.1 s.2.2 s.1) code)
noncomputable def nthF (K : PK) (b : Int) : Nat → NS
  | 0 => (0, fun _ => 0, fun _ => 0)
  | k + 1 => @ite _ (obyF K (boxD b (pN K) k)) (Classical.propDecidable _) (nsI (nthF K b k) (cstF (pC K) (boxD b (pN K) k) (pN K)) (horF 10 (boxD b (pN K) k) (pN K))) (nthF K b k)
/-- sorted by cost; codes below y -/
def nsO (s : NS) (y : Int) : Prop := (∀ i j : Nat, i < j → j < s.1 → s.2.1 i ≤ s.2.1 j) ∧ (∀ i : Nat, i < s.1 → s.2.2 i < y)
theorem nsO_a {s : NS} {y : Int} (o : nsO s y) {cost : Int} {i : Nat} (hi : i < s.1) : (cost < s.2.1 i ∨ (cost = s.2.1 i ∧ y < s.2.2 i)) ↔ cost < s.2.1 i := by
  have := o.2 i hi
  omega
theorem nsO_p {s : NS} {y : Int} (o : nsO s y) (cost : Int) : posL cost y s.2.1 s.2.2 s.1 ≤ s.1 ∧ (∀ i : Nat, posL cost y s.2.1 s.2.2 s.1 ≤ i → i < s.1 → cost < s.2.1 i) ∧ (∀ i : Nat, i < posL cost y s.2.1 s.2.2 s.1 → s.2.1 i ≤ cost) := by
  obtain ⟨p1, p2, p3⟩ := posL_b cost y s.2.1 s.2.2 s.1
  refine ⟨p1, fun i h h' => (nsO_a o h').mp (p2 i h h'), fun i h => ?_⟩
  have q : s.2.1 (posL cost y s.2.1 s.2.2 s.1 - 1) ≤ cost := Int.not_lt.mp (fun h' => p3 (by omega) (Or.inl h'))
  by_cases e : i = posL cost y s.2.1 s.2.2 s.1 - 1
  · rw [e]; exact q
  · have := o.1 i (posL cost y s.2.1 s.2.2 s.1 - 1) (by omega) (by omega)
    omega
theorem nsO_i {s : NS} {y z : Int} (o : nsO s y) (hz : y < z) (cost : Int) : nsO (nsI s cost y) z := by
  obtain ⟨p1, p2, p3⟩ := nsO_p o cost
  have e1 : (nsI s cost y).1 = s.1 + 1 := rfl
  have e2 : (nsI s cost y).2.1 = insA s.2.1 (posL cost y s.2.1 s.2.2 s.1) cost := rfl
  have e3 : (nsI s cost y).2.2 = insA s.2.2 (posL cost y s.2.1 s.2.2 s.1) y := rfl
  unfold nsO
  rw [e1, e2, e3]
  generalize posL cost y s.2.1 s.2.2 s.1 = p at p1 p2 p3
  refine ⟨fun i j hij hj => ?_, fun i hi => ?_⟩
  · unfold insA
    by_cases a1 : i < p
    · have b1 := p3 i a1
      rw [if_pos a1]
      by_cases a2 : j < p
      · rw [if_pos a2]; exact o.1 i j hij (by omega)
      · rw [if_neg a2]
        by_cases a3 : j = p
        · rw [if_pos a3]; exact b1
        · rw [if_neg a3]
          have := p2 (j - 1) (by omega) (by omega)
          omega
    · rw [if_neg a1, if_neg (show ¬ j < p by omega), if_neg (show ¬ j = p by omega)]
      by_cases a3 : i = p
      · rw [if_pos a3]
        have := p2 (j - 1) (by omega) (by omega)
        omega
      · rw [if_neg a3]
        exact o.1 (i - 1) (j - 1) (by omega) (by omega)
  · unfold insA
    split
    · have := o.2 i (by omega)
      omega
    · split
      · exact hz
      · have := o.2 (i - 1) (by omega)
        omega
theorem nsO_w {s : NS} {y z : Int} (o : nsO s y) (h : y ≤ z) : nsO s z := ⟨o.1, fun i hi => by have := o.2 i hi; omega⟩
theorem incF_l {b : Int} (hb : b ≤ 9) : ∀ (n : Nat) (δ : Nat → Int), (∀ q, q < n → 0 ≤ δ q ∧ δ q ≤ b) → (incF b n δ).2 = false → horF 10 δ n < horF 10 (incF b n δ).1 n := by
  intro n
  induction n with
  | zero => intro δ _ h; exact absurd (show true = false from h) (by decide)
  | succ n ih =>
    intro δ h
    have a := h n (by omega)
    unfold incF
    by_cases e : δ n < b
    · rw [if_pos e]
      intro _
      show horF 10 δ n * 10 + δ n < horF 10 (setL δ n (δ n + 1)) n * 10 + setL δ n (δ n + 1) n
      rw [setL_eq, horF_g (δ := δ) n (fun q hq => setL_ne (by omega))]
      omega
    · rw [if_neg e]
      intro h2
      have i := ih (setL δ n 0) (fun q hq => by rw [setL_ne (by omega)]; exact h q (by omega)) h2
      rw [horF_g (ε := setL δ n 0) (δ := δ) n (fun q hq => setL_ne (by omega))] at i
      have z : (incF b n (setL δ n 0)).1 n = 0 := by rw [incF_ge n _ n (Nat.le_refl n), setL_eq]
      show horF 10 δ n * 10 + δ n < horF 10 (incF b n (setL δ n 0)).1 n * 10 + (incF b n (setL δ n 0)).1 n
      rw [z]
      omega
theorem nthF_o {K : PK} {b : Int} {N : Nat} (hb : 0 ≤ b ∧ b ≤ 6) (hN : (N : Int) = (b + 1) ^ (pN K)) : ∀ k : Nat, k < N → nsO (nthF K b k) (horF 10 (boxD b (pN K) k) (pN K)) := by
  intro k
  induction k with
  | zero =>
    intro _
    exact ⟨fun i j _ h => absurd h (Nat.not_lt_zero j), fun i h => absurd h (Nat.not_lt_zero i)⟩
  | succ k ih =>
    intro hk
    have i := ih (by omega)
    have c := boxD_c hb.1 (pN K) k (by omega)
    have e : (incF b (pN K) (boxD b (pN K) k)).2 = false := by
      cases h : (incF b (pN K) (boxD b (pN K) k)).2 with
      | false => rfl
      | true => have := c.mp h; omega
    have l := incF_l (by omega) (pN K) (boxD b (pN K) k) (boxD_r hb.1 (pN K) k) e
    have l' : horF 10 (boxD b (pN K) k) (pN K) < horF 10 (boxD b (pN K) (k + 1)) (pN K) := l
    unfold nthF
    split
    · exact nsO_i i l' _
    · exact nsO_w i (by omega)
/-- the class's shelf holds the first 20 -/
def nsC (s : NS) (m : j_M0) : Prop := shD 89 (min s.1 20) s.2.2 s.2.1 (fun _ => 0) m
theorem posL_u {cost code : Int} {c x : Nat → Int} {p : Nat} : ∀ M : Nat, p ≤ M → (∀ i : Nat, p ≤ i → i < M → cost < c i ∨ (cost = c i ∧ code < x i)) → (0 < p → ¬ (cost < c (p - 1) ∨ (cost = c (p - 1) ∧ code < x (p - 1)))) → posL cost code c x M = p := by
  intro M
  induction M with
  | zero => intro h _ _; unfold posL; omega
  | succ M ih =>
    intro h h1 h2
    unfold posL
    by_cases e : p = M + 1
    · rw [if_neg (by have := h2 (by omega); rw [e, Nat.add_sub_cancel] at this; exact this)]
      exact e.symm
    · rw [if_pos (h1 M (by omega) (by omega))]
      exact ih (by omega) (fun i a b => h1 i a (by omega)) h2
theorem insA_0 (p i : Nat) : insA (fun _ => 0) p 0 i = 0 := by
  unfold insA
  split
  · rfl
  · split
    · rfl
    · rfl
