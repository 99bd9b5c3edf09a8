/-! The class's walk. -/
theorem Q11_155 {d L : Nat} {m : j_M0} {x p : Int} (h1 : 0 ≤ x) (h2 : x < 8) (h3 : 0 ≤ p) (h4 : p < 5) : c_call (d + 1) 11 [jR 155, jI x, jI p] (hH L m) = some (some (jI (m 159 (5 * x.toNat + p.toNat))), hH L m) := by
  rw [E11]
  simp (disch := omega) only [T11_0_155, w32_id]
  rw [if_pos (by omega), show (x * 5 + p).toNat = 5 * x.toNat + p.toNat by omega]
theorem Q13_155 {d L : Nat} {m : j_M0} {x p : Int} (h : kP 155 m) (h1 : 0 ≤ x) (h2 : x < 8) (h3 : 0 ≤ p) (h4 : p < m 155 0) : c_call (d + 2) 13 [jR 155, jI x, jI p] (hH L m) = some (some (jI (ptC 155 m x.toNat p.toNat)), hH L m) := by
  have e := h.2.1
  have e1 := h.2.2.2.2.2.2 (5 * x.toNat + p.toNat) (by omega)
  simp only [Nat.reduceAdd] at e1
  rw [E13]
  simp (disch := omega) only [T13_0_155, T13_23_155, Q11_155, Option.bind_some, Option.toList_some, List.cons_append, List.nil_append, bI_0, bI_1, bI_01, if_true, cmp_lt, cmp_gt, cmp_le, cmp_ge, cmp_eq, w32_id]
  unfold ptC
  grind
theorem Q13n_155 {d L : Nat} {m : j_M0} {x p : Int} (h : kP 155 m) (h1 : 0 ≤ x) (h2 : x < 8) (h4 : p = m 155 0) : c_call (d + 2) 13 [jR 155, jI x, jI p] (hH L m) = some (some (jI (liC 155 m x.toNat)), hH L m) := by
  have e1 := h.2.2.2.2.2.1 x.toNat (by omega)
  simp only [Nat.reduceAdd] at e1
  rw [E13]
  simp (disch := omega) only [T13_0_155, T13_23_155, Option.bind_some, Option.toList_some, List.cons_append, List.nil_append, bI_0, bI_1, bI_01, if_true, cmp_lt, cmp_gt, cmp_le, cmp_ge, cmp_eq, w32_id]
  unfold liC
  grind
theorem Q13f_155 {d L : Nat} {K : PK} {m : j_M0} (w : vP 155 K m) {r p : Nat} (hr : r < pR K) (hp : p ≤ pN K) : c_call (d + 2) 13 [jR 155, jI r, jI p] (hH L m) = some (some (jI (pF K r p)), hH L m) := by
  have o := vP_ok w
  have o1 := o.2.1
  have o2 := o.2.2.1
  have k1 := w.2.1
  unfold pF
  by_cases e : p = pN K
  · rw [if_pos e, Q13n_155 w.1 (by omega) (by omega) (by omega), Int.toNat_natCast, w.2.2.2.2.2 r hr]
  · rw [if_neg e, Q13_155 w.1 (by omega) (by omega) (by omega) (by omega), Int.toNat_natCast, Int.toNat_natCast, w.2.2.2.2.1 r p hr (by omega)]
theorem Q8_155 {d L : Nat} {K : PK} {m : j_M0} (w : vP 4 K m) : ∃ m', c_call (d + 1) 8 [jR 155, jR 4] (hH L m) = some (none, hH L m') ∧ kpt (fun c _ => 155 ≤ c ∧ c ≤ 159) m m' ∧ vP 155 K m' := by
  have ok := vP_ok w
  obtain ⟨o1, o2, o3, -⟩ := ok
  obtain ⟨⟨a1, a2, a3, a4, a5, a6, a7⟩, w2, w3, w4, w5, w6⟩ := w
  unfold ptC at w5
  unfold liC at w6
  simp only [Nat.reduceAdd] at a5 a6 a7 w4 w5 w6
  rw [E8, T8_0_155_4]
  refine ⟨_, rfl, fun c z => ?_, ?_⟩
  · by_cases e : 155 ≤ c ∧ c ≤ 159
    · exact Or.inl e
    · right
      rw [cpy_ne (by omega), cpy_ne (by omega), cpy_ne (by omega), cpy_ne (by omega), up_ne (by omega), up_ne (by omega)]
  · unfold vP kP ptC liC
    simp (disch := omega) only [Nat.reduceAdd, cpy_ne, cpy_at, up_ne, up_nj, up_eq]
    refine ⟨⟨a1, a2, a3, a4, fun p hp => ?_, fun r hr => ?_, fun i hi => ?_⟩, w2, w3, fun p hp => ?_, fun r p hr hp => ?_, fun r hr => ?_⟩
    · rw [if_pos hp]; exact a5 p hp
    · rw [if_pos hr, if_pos hr]; exact a6 r hr
    · rw [if_pos hi]; exact a7 i hi
    · rw [if_pos (by omega)]; exact w4 p hp
    · rw [if_pos (show r < 8 by omega), if_pos (show 5 * r + p < 40 by omega)]; exact w5 r p hr hp
    · rw [if_pos (show r < 8 by omega), if_pos (show r < 8 by omega)]; exact w6 r hr
theorem pw_r {b : Int} (hb : 0 ≤ b ∧ b ≤ 6) : ∀ k : Nat, k < 6 → 1 ≤ (b + 1) ^ k ∧ (b + 1) ^ k ≤ 16807 := by
  have h : b = 0 ∨ b = 1 ∨ b = 2 ∨ b = 3 ∨ b = 4 ∨ b = 5 ∨ b = 6 := by omega
  rcases h with rfl | rfl | rfl | rfl | rfl | rfl | rfl <;> decide
/-- the class's walk stands at a mix -/
def wkR (K : PK) (b : Int) (δ : Nat → Int) (m : j_M0) : Prop := m 86 1 = horF 10 δ (pN K) ∧ m 86 2 = cstF (pC K) δ (pN K) ∧ m 86 3 = b ∧ (∀ p : Nat, p < pN K → m 87 p = δ p) ∧ (∀ r : Nat, r < pR K → m 88 r = pF K r (pN K) - cstF (pF K r) δ (pN K))
def d9 (n : Nat) (δ : Nat → Int) : Prop := ∀ q : Nat, q < n → 0 ≤ δ q ∧ δ q ≤ 9
theorem wkR_k {K : PK} {b : Int} {δ : Nat → Int} {m m' : j_M0} (w : wkR K b δ m) (k : ∀ c z, 86 ≤ c → c ≤ 88 → m' c z = m c z) : wkR K b δ m' := by
  unfold wkR at w ⊢
  simp (disch := omega) only [k]
  exact w
theorem cst_R {K : PK} (ok : pOK K) {δ : Nat → Int} (hδ : d9 (pN K) δ) : (0 ≤ horF 10 δ (pN K) ∧ horF 10 δ (pN K) < 100000) ∧ (-5000 ≤ cstF (pC K) δ (pN K) ∧ cstF (pC K) δ (pN K) ≤ 5000) ∧ ∀ r : Nat, r < pR K → (-50000 ≤ cstF (pF K r) δ (pN K) ∧ cstF (pF K r) δ (pN K) ≤ 50000) := by
  have n5 := ok.2.1
  have a := horF_r (pN K) hδ
  have t := tenF_r (pN K) n5
  have c := cstF_r (c := pC K) (δ := δ) (M := 99) (pN K) (fun q hq => ⟨hδ q hq, by have := ok.2.2.2.1 q hq; omega⟩)
  refine ⟨by omega, by omega, fun r hr => ?_⟩
  have f := cstF_r (c := pF K r) (δ := δ) (M := 999) (pN K) (fun q hq => ⟨hδ q hq, by have := pF_r ok hr (p := q) (by omega); omega⟩)
  omega
theorem L83 {d L : Nat} {K : PK} {p : Nat} {x : Int} {a : Nat → Int} (hp : p < pN K) (hx : -9 ≤ x ∧ x ≤ 9) (ha : ∀ r : Nat, r < pR K → -100000 ≤ a r ∧ a r ≤ 100000) : ∀ j k : Nat, k + j = pR K → ∀ m : j_M0, vP 155 K m → (∀ r : Nat, r < pR K → m 88 r = if r < k then a r - x * pF K r p else a r) → ∃ m', j_fin (c_call (d + 2)) 83 58 [some (jR 86), some (jI p), some (jI x), some (jI k)] [] (hH L m) = some (none, hH L m') ∧ kpt (fun b _ => b = 88) m m' ∧ (∀ r : Nat, r < pR K → m' 88 r = a r - x * pF K r p) := by
  intro j
  induction j with
  | zero =>
    intro k hk m w h
    have k1 := w.2.2.1
    rw [T83_58, if_neg (by omega)]
    refine ⟨m, rfl, kpt_rfl, fun r hr => ?_⟩
    rw [h r hr, if_pos (by omega)]
  | succ j ih =>
    intro k hk m w h
    have k1 := w.2.2.1
    have ok := vP_ok w
    have n8 := ok.2.2.1
    have f := pF_r ok (r := k) (by omega) (p := p) (by omega)
    have g := mul_r (x := x) (y := pF K k p) (a := 9) (b := 999) (by omega) (by omega) (by omega) (by omega)
    have ak := ha k (by omega)
    have hk0 := h k (by omega)
    rw [if_neg (by omega)] at hk0
    rw [T83_58, if_pos (by omega), if_pos (by omega), Int.toNat_natCast, hk0, Q13f_155 w (show k < pR K by omega) (show p ≤ pN K by omega)]
    simp only [Option.bind_some, Option.toList_some, List.cons_append, List.nil_append]
    rw [T83_86, if_pos (by omega), Int.toNat_natCast, nat1 (by omega), w32_id (x := x * pF K k p) (by omega) (by omega), w32_id (by omega) (by omega)]
    obtain ⟨m', t1, t2, t3⟩ := ih (k + 1) (by omega) (j_up m 88 k (a k - x * pF K k p)) (vP_k w (fun b z h h' => up_ne (by omega))) (fun r hr => by
      rw [up_at]
      by_cases e : r = k
      · subst e; rw [if_pos rfl, if_pos (by omega)]
      · rw [if_neg e, h r hr]
        by_cases e2 : r < k
        · rw [if_pos e2, if_pos (by omega)]
        · rw [if_neg e2, if_neg (by omega)])
    exact ⟨m', t1, kpt_tr (kpt_up rfl) t2, t3⟩
theorem Q83 {d L : Nat} {K : PK} {b : Int} {δ : Nat → Int} {m : j_M0} (w : vP 155 K m) (ht : ∀ i : Nat, i < 6 → m 1 i = tenF i) (s : wkR K b δ m) (hδ : d9 (pN K) δ) {p : Nat} {x : Int} (hp : p < pN K) (hx : 0 ≤ δ p + x ∧ δ p + x ≤ 9) : ∃ m', c_call (d + 3) 83 [jR 86, jI p, jI x] (hH L m) = some (none, hH L m') ∧ kpt (fun c z => 86 ≤ c ∧ c ≤ 88) m m' ∧ wkR K b (setL δ p (δ p + x)) m' := by
  have ok := vP_ok w
  have n5 := ok.2.1
  obtain ⟨s1, s2, s3, s4, s5⟩ := s
  have k0 := w.2.1
  have kc := w.2.2.2.1 p hp
  simp only [Nat.reduceAdd] at kc
  have s4p := s4 p hp
  have h9 := hδ p hp
  have hδ' : d9 (pN K) (setL δ p (δ p + x)) := fun q hq => by
    by_cases e : q = p
    · subst e; rw [setL_eq]; exact hx
    · rw [setL_ne e]; exact hδ q hq
  obtain ⟨c1, c2, c3⟩ := cst_R ok hδ
  obtain ⟨e1, e2, e3⟩ := cst_R ok hδ'
  have hs := horF_set (δ := δ) (p := p) (v := δ p + x) (pN K) hp
  have cs := cstF_set (c := pC K) (δ := δ) (p := p) (v := δ p + x) (pN K) hp
  rw [show δ p + x - δ p = x by omega] at hs cs
  have t6 := ht (pN K - 1 - p) (by omega)
  have cp := ok.2.2.2.1 p hp
  have tb := tenF_r (pN K - 1 - p) (by omega)
  have x9 : -9 ≤ x ∧ x ≤ 9 := by omega
  have g1 := mul_r (x := x) (y := pC K p) (a := 9) (b := 99) (by omega) (by omega) (by omega) (by omega)
  have g2 := mul_r (x := x) (y := tenF (pN K - 1 - p)) (a := 9) (b := 100000) (by omega) (by omega) (by omega) (by omega)
  have i1 : w32 (w32 ((pN K : Int) - 1) - (p : Int)) = (pN K : Int) - 1 - (p : Int) := by rw [w32_id (x := (pN K : Int) - 1) (by omega) (by omega), w32_id (by omega) (by omega)]
  have i2 : ((pN K : Int) - 1 - (p : Int)).toNat = pN K - 1 - p := by omega
  rw [E83, T83_0]
  simp (disch := omega) only [up_ne, Int.toNat_natCast, k0, i1, i2, t6, s1, s2, s4p, kc, w32_id (x := δ p + x), w32_id (x := x * tenF (pN K - 1 - p)), w32_id (x := x * pC K p), up_nj]
  rw [if_pos (by omega), if_pos (by omega), if_pos (by omega), if_pos (by omega), ← hs, ← cs, w32_id (x := horF 10 _ _) (by omega) (by omega), w32_id (x := cstF _ _ _) (by omega) (by omega)]
  generalize hm1 : j_up (j_up (j_up m 87 p (δ p + x)) 86 1 (horF 10 (setL δ p (δ p + x)) (pN K))) 86 2 (cstF (pC K) (setL δ p (δ p + x)) (pN K)) = m1
  have z : ∀ c y, c ≠ 86 → c ≠ 87 → m1 c y = m c y := fun c y h h' => by
    rw [← hm1]
    simp (disch := omega) only [up_ne]
  obtain ⟨m2, q1, q2, q3⟩ := L83 (d := d) (L := L) (K := K) (p := p) (x := x) (a := fun r => pF K r (pN K) - cstF (pF K r) δ (pN K)) hp x9 (fun r hr => by
    have := c3 r hr
    have := pF_r ok hr (p := pN K) (Nat.le_refl _)
    show -100000 ≤ pF K r (pN K) - cstF (pF K r) δ (pN K) ∧ pF K r (pN K) - cstF (pF K r) δ (pN K) ≤ 100000
    omega) (pR K) 0 (by omega) m1 (vP_k w (fun b z' h h' => z _ _ (by omega) (by omega))) (fun r hr => by
    rw [z _ _ (by omega) (by omega), if_neg (by omega)]
    exact s5 r hr)
  refine ⟨m2, q1, fun c y => ?_, ?_⟩
  · by_cases e : 86 ≤ c ∧ c ≤ 88
    · exact Or.inl e
    · right
      rw [kpt_at q2 (by omega), z _ _ (by omega) (by omega)]
  · refine ⟨?_, ?_, ?_, fun q hq => ?_, fun r hr => ?_⟩
    · rw [kpt_at q2 (by omega), ← hm1, up_nj (by omega), up_eq rfl]
    · rw [kpt_at q2 (by omega), ← hm1, up_eq rfl]
    · rw [kpt_at q2 (by omega), ← hm1, up_nj (by omega), up_nj (by omega), up_ne (by omega)]
      exact s3
    · rw [kpt_at q2 (by omega), ← hm1, up_ne (by omega), up_ne (by omega), up_at]
      by_cases e : q = p
      · subst e; rw [if_pos rfl, setL_eq]
      · rw [if_neg e, setL_ne e]; exact s4 q hq
    · rw [q3 r hr, cstF_set (pN K) hp, show δ p + x - δ p = x by omega]
      show pF K r (pN K) - cstF (pF K r) δ (pN K) - x * pF K r p = _
      omega
theorem L82 {d L : Nat} {K : PK} {b : Int} (hb : 0 ≤ b ∧ b ≤ 6) : ∀ (j : Nat) (δ : Nat → Int) (m : j_M0), j ≤ pN K → vP 155 K m → (∀ i : Nat, i < 6 → m 1 i = tenF i) → wkR K b δ m → (∀ q : Nat, q < pN K → 0 ≤ δ q ∧ δ q ≤ b) → ∃ m', j_fin (c_call (d + 3)) 82 10 [some (jR 86), some (jI ((j : Int) - 1))] [] (hH L m) = some (none, hH L m') ∧ kpt (fun c z => 86 ≤ c ∧ c ≤ 88) m m' ∧ wkR K b (incF b j δ).1 m' := by
  intro j
  induction j with
  | zero =>
    intro δ m hj w ht s hδ
    rw [T82_10, if_pos (by omega)]
    exact ⟨m, rfl, kpt_rfl, s⟩
  | succ j ih =>
    intro δ m hj w ht s hδ
    have ok := vP_ok w
    have n5 := ok.2.1
    have s3 := s.2.2.1
    have s4 := s.2.2.2.1 j (by omega)
    have hj0 := hδ j (by omega)
    have h9 : d9 (pN K) δ := fun q hq => by have := hδ q hq; omega
    have e0 : ((j + 1 : Nat) : Int) - 1 = (j : Int) := by omega
    rw [e0, T82_10, if_neg (by omega), if_pos (by omega), Int.toNat_natCast, s4, s3]
    unfold incF
    by_cases e : δ j < b
    · rw [if_pos e, if_pos e]
      obtain ⟨m1, q1, q2, q3⟩ := Q83 (d := d) (L := L) w ht s h9 (p := j) (x := 1) (by omega) (by omega)
      rw [q1]
      simp only [Option.bind_some, Option.toList_some, List.cons_append, List.nil_append, Option.toList_none]
      rw [T82_33]
      exact ⟨m1, rfl, q2, q3⟩
    · rw [if_neg e, if_neg e, if_pos (by omega), w32_id (by omega) (by omega)]
      obtain ⟨m1, q1, q2, q3⟩ := Q83 (d := d) (L := L) w ht s h9 (p := j) (x := -(δ j)) (by omega) (by omega)
      rw [q1]
      simp only [Option.bind_some, Option.toList_some, List.cons_append, List.nil_append, Option.toList_none]
      rw [T82_46, w32_id (by omega) (by omega), show (j : Int) + (-1) = (j : Int) - 1 by omega]
      rw [show δ j + -(δ j) = 0 by omega] at q3
      obtain ⟨m2, t1, t2, t3⟩ := ih (setL δ j 0) m1 (by omega) (vP_k w (fun c z h h' => kpt_at q2 (by omega))) (fun i hi => (kpt_at q2 (by omega)).trans (ht i hi)) q3 (fun q hq => by
        by_cases e2 : q = j
        · subst e2; rw [setL_eq]; omega
        · rw [setL_ne e2]; exact hδ q hq)
      exact ⟨m2, t1, kpt_tr q2 t2, t3⟩
theorem Q82 {d L : Nat} {K : PK} {b : Int} {δ : Nat → Int} {m : j_M0} (hb : 0 ≤ b ∧ b ≤ 6) (w : vP 155 K m) (ht : ∀ i : Nat, i < 6 → m 1 i = tenF i) (s : wkR K b δ m) (hδ : ∀ q : Nat, q < pN K → 0 ≤ δ q ∧ δ q ≤ b) : ∃ m', c_call (d + 4) 82 [jR 86] (hH L m) = some (none, hH L m') ∧ kpt (fun c z => 86 ≤ c ∧ c ≤ 88) m m' ∧ wkR K b (incF b (pN K) δ).1 m' := by
  have ok := vP_ok w
  have n5 := ok.2.1
  have k0 := w.2.1
  rw [E82, T82_0, k0, w32_id (by omega) (by omega)]
  exact L82 hb (pN K) δ m (Nat.le_refl _) w ht s hδ
theorem L81a {C : Nat → List j_V → j_H → Option j_Z} {L n : Nat} {b : Int} (hn : n ≤ 5) (hb : 0 ≤ b ∧ b ≤ 6) : ∀ j k : Nat, k + j = n → ∀ m : j_M0, m 155 0 = n → m 86 3 = b → m 86 0 = (b + 1) ^ k → (∀ q : Nat, q < k → m 87 q = 0) → ∃ m', j_fin C 81 30 [some (jR 86), some (jR 4), some (jI b), some (jI k)] [] (hH L m) = j_fin C 81 30 [some (jR 86), some (jR 4), some (jI b), some (jI n)] [] (hH L m') ∧ kpt (fun c z => c = 87 ∨ c = 86 ∧ z = 0) m m' ∧ m' 86 0 = (b + 1) ^ n ∧ (∀ q : Nat, q < n → m' 87 q = 0) := by
  intro j
  induction j with
  | zero =>
    intro k hk m h0 h3 h1 h2
    have e : k = n := by omega
    subst e
    exact ⟨m, rfl, kpt_rfl, h1, h2⟩
  | succ j ih =>
    intro k hk m h0 h3 h1 h2
    have p1 := pw_r hb k (by omega)
    have p2 := pw_r hb (k + 1) (by omega)
    rw [Int.pow_succ] at p2
    rw [T81_30, if_pos (by omega), if_pos (by omega)]
    simp (disch := omega) only [Int.toNat_natCast, up_ne, h3, h1, nat1, w32_id]
    obtain ⟨m', t1, t2, t3, t4⟩ := ih (k + 1) (by omega) (j_up (j_up m 87 k 0) 86 0 ((b + 1) ^ k * (b + 1))) ((up_ne (by omega)).trans ((up_ne (by omega)).trans h0)) ((up_nj (by omega)).trans ((up_ne (by omega)).trans h3)) ((up_eq rfl).trans (Int.pow_succ _ _).symm) (fun q hq => by
      rw [up_ne (by omega), up_at]
      split
      · rfl
      · exact h2 q (by omega))
    exact ⟨m', t1, kpt_tr (kpt_tr (kpt_up (Or.inl rfl)) (kpt_up (Or.inr ⟨rfl, rfl⟩))) t2, t3, t4⟩
theorem L81b {d L : Nat} {K : PK} {b : Int} : ∀ j k : Nat, k + j = pR K → ∀ m : j_M0, vP 155 K m → (∀ r : Nat, r < k → m 88 r = pF K r (pN K)) → ∃ m', j_fin (c_call (d + 2)) 81 71 [some (jR 86), some (jR 4), some (jI b), some (jI k)] [] (hH L m) = some (none, hH L m') ∧ kpt (fun c z => c = 88) m m' ∧ (∀ r : Nat, r < pR K → m' 88 r = pF K r (pN K)) := by
  intro j
  induction j with
  | zero =>
    intro k hk m w h
    have k1 := w.2.2.1
    rw [T81_71, if_neg (by omega)]
    exact ⟨m, rfl, kpt_rfl, fun r hr => h r (by omega)⟩
  | succ j ih =>
    intro k hk m w h
    have ok := vP_ok w
    have n8 := ok.2.2.1
    have k0 := w.2.1
    have k1 := w.2.2.1
    rw [T81_71, if_pos (by omega), k0, Q13f_155 w (show k < pR K by omega) (Nat.le_refl (pN K))]
    simp only [Option.bind_some, Option.toList_some, List.cons_append, List.nil_append]
    rw [T81_102, if_pos (by omega), Int.toNat_natCast, nat1 (by omega)]
    obtain ⟨m', t1, t2, t3⟩ := ih (k + 1) (by omega) (j_up m 88 k (pF K k (pN K))) (vP_k w (fun c z h h' => up_ne (by omega))) (fun r hr => by
      rw [up_at]
      by_cases e : r = k
      · subst e; rw [if_pos rfl]
      · rw [if_neg e]; exact h r (by omega))
    exact ⟨m', t1, kpt_tr (kpt_up rfl) t2, t3⟩
theorem cstF_0 {c : Nat → Int} : ∀ n : Nat, cstF c (fun _ => 0) n = 0 := by
  intro n
  induction n with
  | zero => rfl
  | succ n ih => unfold cstF; rw [ih]; omega
theorem Q81 {d L : Nat} {K : PK} {b : Int} {m : j_M0} (hb : 0 ≤ b ∧ b ≤ 6) (w0 : vP 4 K m) : ∃ m', c_call (d + 3) 81 [jR 86, jR 4, jI b] (hH L m) = some (none, hH L m') ∧ kpt (fun c z => (86 ≤ c ∧ c ≤ 88) ∨ (155 ≤ c ∧ c ≤ 159)) m m' ∧ wkR K b (fun _ => 0) m' ∧ m' 86 0 = (b + 1) ^ (pN K) ∧ vP 155 K m' := by
  have ok := vP_ok w0
  have n5 := ok.2.1
  obtain ⟨m0, r1, r2, w⟩ := Q8_155 (d := d + 1) (L := L) w0
  have k0 := w.2.1
  rw [E81, T81_0, show c_call (d + 2) 8 _ (hH L m) = _ from r1]
  simp only [Option.bind_some, Option.toList_some, List.cons_append, List.nil_append, Option.toList_none]
  rw [T81_8]
  generalize hm1 : j_up (j_up (j_up (j_up m0 86 3 b) 86 0 1) 86 1 0) 86 2 0 = m1
  have z : ∀ c y, c ≠ 86 → m1 c y = m0 c y := fun c y h => by
    rw [← hm1]
    simp (disch := omega) only [up_ne]
  have a0 : m1 86 0 = (b + 1) ^ 0 := by rw [← hm1, up_nj (by omega), up_nj (by omega), up_eq rfl, Int.pow_zero]
  have a1 : m1 86 1 = 0 := by rw [← hm1, up_nj (by omega), up_eq rfl]
  have a2 : m1 86 2 = 0 := by rw [← hm1, up_eq rfl]
  have a3 : m1 86 3 = b := by rw [← hm1, up_nj (by omega), up_nj (by omega), up_nj (by omega), up_eq rfl]
  obtain ⟨m2, q1, q2, q3, q4⟩ := L81a (C := c_call (d + 2)) (L := L) n5 hb (pN K) 0 (by omega) m1 ((z _ _ (by omega)).trans k0) a3 a0 (fun q hq => absurd hq (Nat.not_lt_zero q))
  have q1' : j_fin (c_call (d + 2)) 81 30 [some (jR 86), some (jR 4), some (jI b), some (jI 0)] [] (hH L m1) = _ := q1
  have w2 : vP 155 K m2 := vP_k w (fun c y h h' => (kpt_at q2 (by omega)).trans (z _ _ (by omega)))
  obtain ⟨m3, t1, t2, t3⟩ := L81b (d := d) (L := L) (K := K) (b := b) (pR K) 0 (by omega) m2 w2 (fun q hq => absurd hq (Nat.not_lt_zero q))
  have k2 := w2.2.1
  rw [q1', T81_30, if_neg (by omega)]
  refine ⟨m3, t1, fun c y => ?_, ⟨?_, ?_, ?_, fun p hp => ?_, fun r hr => ?_⟩, ?_, vP_k w2 (fun c y h h' => kpt_at t2 (by omega))⟩
  · by_cases e : (86 ≤ c ∧ c ≤ 88) ∨ (155 ≤ c ∧ c ≤ 159)
    · exact Or.inl e
    · right
      rw [kpt_at t2 (by omega), kpt_at q2 (by omega), z _ _ (by omega), kpt_at r2 (by omega)]
  · rw [horF_0, kpt_at t2 (by omega), kpt_at q2 (by omega)]; exact a1
  · rw [cstF_0, kpt_at t2 (by omega), kpt_at q2 (by omega)]; exact a2
  · rw [kpt_at t2 (by omega), kpt_at q2 (by omega)]; exact a3
  · rw [kpt_at t2 (by omega)]; exact q4 p hp
  · rw [t3 r hr, cstF_0]; omega
  · rw [kpt_at t2 (by omega)]; exact q3
/-- whether a mix obeys -/
def obyF (K : PK) (δ : Nat → Int) : Prop := ∀ r : Nat, r < pR K → cstF (pF K r) δ (pN K) ≤ pF K r (pN K)
def brkF (K : PK) (δ : Nat → Int) : Nat → Int
  | 0 => 0
  | r + 1 => brkF K δ r + (if pF K r (pN K) < cstF (pF K r) δ (pN K) then 1 else 0)
theorem brkF_r (K : PK) (δ : Nat → Int) : ∀ k : Nat, 0 ≤ brkF K δ k ∧ brkF K δ k ≤ (k : Int) ∧ (brkF K δ k = 0 ↔ ∀ r : Nat, r < k → cstF (pF K r) δ (pN K) ≤ pF K r (pN K)) := by
  intro k
  induction k with
  | zero => exact ⟨Int.le_refl _, Int.le_refl _, fun _ r h => absurd h (Nat.not_lt_zero r), fun _ => rfl⟩
  | succ k ih =>
    obtain ⟨a, b, c⟩ := ih
    unfold brkF
    split
    · rename_i e
      refine ⟨by omega, by omega, fun h => by omega, fun h => ?_⟩
      have := h k (by omega)
      omega
    · rename_i e
      refine ⟨by omega, by omega, fun h r hr => ?_, fun h => ?_⟩
      · by_cases e2 : r = k
        · subst e2; omega
        · exact c.mp (by omega) r (by omega)
      · have := c.mpr (fun r hr => h r (by omega))
        omega
theorem L84 {C : Nat → List j_V → j_H → Option j_Z} {L : Nat} {K : PK} {b : Int} {δ : Nat → Int} {m : j_M0} (w : vP 155 K m) (s : wkR K b δ m) : ∀ j k : Nat, k + j = pR K → ∃ f, j_fin C 84 2 [some (jR 86), some (jI k)] [] (hH L m) = some (some (jI f), hH L m) ∧ fl f (∀ r : Nat, k ≤ r → r < pR K → cstF (pF K r) δ (pN K) ≤ pF K r (pN K)) := by
  have ok := vP_ok w
  have n8 := ok.2.2.1
  have k1 := w.2.2.1
  intro j
  induction j with
  | zero =>
    intro k hk
    rw [T84_2, if_neg (by omega)]
    exact ⟨1, rfl, Or.inl ⟨rfl, fun r h h' => by omega⟩⟩
  | succ j ih =>
    intro k hk
    have s5 := s.2.2.2.2 k (by omega)
    rw [T84_2, if_pos (by omega), if_pos (by omega), Int.toNat_natCast, s5, nat1 (by omega)]
    by_cases e : pF K k (pN K) - cstF (pF K k) δ (pN K) < 0
    · rw [if_pos e]
      exact ⟨0, rfl, Or.inr ⟨rfl, fun h => by have := h k (Nat.le_refl k) (by omega); omega⟩⟩
    · rw [if_neg e]
      obtain ⟨f, h1, h2⟩ := ih (k + 1) (by omega)
      refine ⟨f, h1, fl_w h2 ⟨fun h r h3 h4 => ?_, fun h r h3 h4 => h r (by omega) h4⟩⟩
      by_cases e2 : r = k
      · subst e2; omega
      · exact h r (by omega) h4
theorem Q84 {d L : Nat} {K : PK} {b : Int} {δ : Nat → Int} {m : j_M0} (w : vP 155 K m) (s : wkR K b δ m) : ∃ f, c_call (d + 1) 84 [jR 86] (hH L m) = some (some (jI f), hH L m) ∧ fl f (obyF K δ) := by
  rw [E84, T84_0]
  obtain ⟨f, h1, h2⟩ := L84 (C := c_call d) (L := L) w s (pR K) 0 (by omega)
  exact ⟨f, h1, fl_w h2 ⟨fun h r hr => h r (Nat.zero_le r) hr, fun h r _ hr => h r hr⟩⟩
theorem L85 {C : Nat → List j_V → j_H → Option j_Z} {L : Nat} {K : PK} {b : Int} {δ : Nat → Int} {m : j_M0} (w : vP 155 K m) (s : wkR K b δ m) : ∀ j k : Nat, k + j = pR K → j_fin C 85 4 [some (jR 86), some (jI (brkF K δ k)), some (jI k)] [] (hH L m) = some (some (jI (brkF K δ (pR K))), hH L m) := by
  have ok := vP_ok w
  have n8 := ok.2.2.1
  have k1 := w.2.2.1
  intro j
  induction j with
  | zero =>
    intro k hk
    rw [T85_4, if_neg (by omega), show k = pR K by omega]
  | succ j ih =>
    intro k hk
    have s5 := s.2.2.2.2 k (by omega)
    have r := brkF_r K δ k
    have this := ih (k + 1) (by omega)
    rw [brkF] at this
    rw [T85_4, if_pos (by omega), if_pos (by omega), Int.toNat_natCast, s5, nat1 (by omega), w32_id (by omega) (by omega)]
    by_cases e : pF K k (pN K) < cstF (pF K k) δ (pN K)
    · rw [if_pos (by omega)]
      rw [if_pos e] at this
      exact this
    · rw [if_neg (by omega)]
      rw [if_neg e, Int.add_zero] at this
      exact this
theorem Q85 {d L : Nat} {K : PK} {b : Int} {δ : Nat → Int} {m : j_M0} (w : vP 155 K m) (s : wkR K b δ m) : c_call (d + 1) 85 [jR 86] (hH L m) = some (some (jI (brkF K δ (pR K))), hH L m) := by
  rw [E85, T85_0]
  exact L85 w s (pR K) 0 (by omega)
def byS (a δ : Nat → Int) : Nat → Int
  | 0 => 0
  | p + 1 => w64 (byS a δ p + w64 (a p * δ p))
theorem L86 {C : Nat → List j_V → j_H → Option j_Z} {L : Nat} {K : PK} {b : Int} {δ a : Nat → Int} {m : j_M0} (w : vP 155 K m) (s : wkR K b δ m) (ha : ∀ p : Nat, p ≤ pN K → m 108 p = a p) : ∀ j k : Nat, k + j = pN K → j_fin C 86 5 [some (jR 86), some (jR 108), some (jL (byS a δ k)), none, some (jI k)] [] (hH L m) = some (some (jI (bI (a (pN K) < byS a δ (pN K)))), hH L m) := by
  have ok := vP_ok w
  have n5 := ok.2.1
  have k0 := w.2.1
  intro j
  induction j with
  | zero =>
    intro k hk
    have h := ha (pN K) (Nat.le_refl _)
    rw [T86_5, if_neg (by omega), if_pos (by omega), k0, Int.toNat_natCast, h, show k = pN K by omega]
    simp only [cmp_gt]
    unfold bI
    split <;> rfl
  | succ j ih =>
    intro k hk
    have h := ha k (by omega)
    have s4 := s.2.2.2.1 k (by omega)
    have this := ih (k + 1) (by omega)
    rw [byS] at this
    rw [T86_5, if_pos (by omega), if_pos (by omega), if_pos (by omega), Int.toNat_natCast, h, s4, nat1 (by omega)]
    exact this
theorem Q86 {d L : Nat} {K : PK} {b : Int} {δ a : Nat → Int} {m : j_M0} (w : vP 155 K m) (s : wkR K b δ m) (ha : ∀ p : Nat, p ≤ pN K → m 108 p = a p) : c_call (d + 1) 86 [jR 86, jR 108] (hH L m) = some (some (jI (bI (a (pN K) < byS a δ (pN K)))), hH L m) := by
  rw [E86, T86_0]
  exact L86 w s ha (pN K) 0 (by omega)
