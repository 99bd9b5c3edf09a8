/-! The class's table starts. -/
def midF (K : PK) (k c : Nat) : TB := ((k + 1, pN K, 0, 0, 1), (fun i => 10 + (i : Int)), (fun c => (c : Int)), (fun i q => if i = k ∧ c ≤ q then 0 else pP K i q), pL K, pC K)
theorem mid_0 (K : PK) (k : Nat) : tEq (addR (staF K k) (10 + (k : Int)) (pL K k)) (midF K k 0) := by
  refine ⟨rfl, rfl, rfl, rfl, rfl, ?_, fun _ _ => rfl, ?_, ?_, fun _ _ => rfl⟩
  · intro i _
    show (if i = k then 10 + (k : Int) else 10 + (i : Int)) = 10 + (i : Int)
    split
    · subst_vars; rfl
    · rfl
  · intro i c _ _
    show (if i = k then 0 else pP K i c) = (if i = k ∧ 0 ≤ c then 0 else pP K i c)
    by_cases e : i = k
    · rw [if_pos e, if_pos ⟨e, by omega⟩]
    · rw [if_neg e, if_neg (fun h => e h.1)]
  · intro i _
    show (if i = k then pL K k else pL K i) = pL K i
    split
    · subst_vars; rfl
    · rfl
theorem mid_n (K : PK) (k : Nat) : tEq (midF K k (pN K)) (staF K (k + 1)) := by
  refine ⟨rfl, rfl, rfl, rfl, rfl, fun _ _ => rfl, fun _ _ => rfl, ?_, fun _ _ => rfl, fun _ _ => rfl⟩
  intro i c _ hc
  replace hc : c < pN K := hc
  show (if i = k ∧ pN K ≤ c then 0 else pP K i c) = pP K i c
  rw [if_neg (by omega)]
theorem mid_s_41 {K : PK} {k c : Nat} {m : j_M0} (v : vC 41 (midF K k c) m) (hk : k < 8) (hc : c < pN K) (hn : pN K ≤ 5) : vC 41 (midF K k (c + 1)) (j_up m 44 (5 * k + c) (pP K k c)) := by
  obtain ⟨v1, v2, v3, v4, v5, v6, v7, v8, v9, v10⟩ := v
  unfold vC
  simp (disch := omega) only [Nat.reduceAdd, up_ne]
  refine ⟨v1, v2, v3, v4, v5, v6, v7, ?_, v9, v10⟩
  intro i q hi hq
  replace hq : q < pN K := hq
  have := v8 i q hi hq
  simp only [Nat.reduceAdd] at this
  show _ = (if i = k ∧ c + 1 ≤ q then 0 else pP K i q)
  replace this : m 44 (5 * i + q) = (if i = k ∧ c ≤ q then 0 else pP K i q) := this
  rw [up_at]
  by_cases e : i = k
  · subst e
    by_cases e2 : q = c
    · subst e2
      rw [if_pos rfl, if_neg (by omega)]
    · rw [if_neg (by omega), this]
      by_cases e3 : c ≤ q
      · rw [if_pos ⟨rfl, e3⟩, if_pos ⟨rfl, by omega⟩]
      · rw [if_neg (by omega), if_neg (by omega)]
  · rw [if_neg (by omega), this, if_neg (fun h => e h.1), if_neg (fun h => e h.1)]
theorem L38c_41_4 {d : Nat} {L : j_B} {K : PK} {k : Nat} (hk : k < pR K) : ∀ j c : Nat, c + j = pN K → ∀ m : j_M0, vC 41 (midF K k c) m → vP 4 K m → ∃ m', j_fin (c_call (d + 2)) 38 96 [some (jR 41), some (jR 4), some (jI k), some (jI k), some (jI c)] [] (hH L m) = j_fin (c_call (d + 2)) 38 66 [some (jR 41), some (jR 4), some (jI (k + 1 : Nat)), some (jI k), some (jI (pN K))] [] (hH L m') ∧ kpt (fun b _ => 41 ≤ b ∧ b ≤ 49) m m' ∧ vC 41 (staF K (k + 1)) m' := by
  intro j
  induction j with
  | zero =>
    intro c hc m v w
    have o := vP_ok w
    have o1 := o.2.1
    have o2 := o.2.2.1
    have hcc : c = pN K := by omega
    subst hcc
    have k1 : m 41 1 = pN K := v.2.1
    rw [T38_96_41_4, if_neg (by omega), nat1 (by omega)]
    exact ⟨m, rfl, kpt_rfl, vC_e v (mid_n K k)⟩
  | succ j ih =>
    intro c hc m v w
    have o := vP_ok w
    have o1 := o.2.1
    have o2 := o.2.2.1
    have k1 : m 41 1 = pN K := v.2.1
    have k2 := w.2.2.2.2.1 k c hk (by omega)
    have k3 := w.2.1
    rw [T38_96_41_4, if_pos (by omega), Q13_4 w.1 (by omega) (by omega) (by omega) (by omega)]
    simp only [Option.bind_some, Option.toList_some, List.cons_append, List.nil_append]
    rw [T38_122_41_4]
    simp (disch := omega) only [w32_id, nat1, show ((k : Int) * 5 + (c : Int)).toNat = 5 * k + c by omega, Int.toNat_natCast, k2]
    rw [if_pos (by omega)]
    obtain ⟨m', h1, h2, h3⟩ := ih (c + 1) (by omega) (j_up m 44 (5 * k + c) (pP K k c)) (mid_s_41 v (by omega) (by omega) o1) (vP_k w (fun b s h h' => up_ne (by omega)))
    exact ⟨m', h1, kpt_tr (kpt_up ⟨by omega, by omega⟩) h2, h3⟩
theorem L38b_41_4 {d : Nat} {L : j_B} {K : PK} : ∀ j k : Nat, k + j = pR K → ∀ (m : j_M0) (o3 o4 : Option j_V), vC 41 (staF K k) m → vP 4 K m → ∃ m', j_fin (c_call (d + 2)) 38 66 [some (jR 41), some (jR 4), some (jI k), o3, o4] [] (hH L m) = some (none, hH L m') ∧ kpt (fun b _ => 41 ≤ b ∧ b ≤ 49) m m' ∧ vC 41 (staF K (pR K)) m' := by
  intro j
  induction j with
  | zero =>
    intro k hk m o3 o4 v w
    have hkk : k = pR K := by omega
    subst hkk
    have k3 := w.2.2.1
    rw [T38_66_41_4, if_neg (by omega)]
    exact ⟨m, rfl, kpt_rfl, v⟩
  | succ j ih =>
    intro k hk m o3 o4 v w
    have o := vP_ok w
    have o1 := o.2.1
    have o2 := o.2.2.1
    have k1 : m 41 1 = pN K := v.2.1
    have k3 := w.2.2.1
    have k4 := w.2.1
    have k5 := w.2.2.2.2.2 k (by omega)
    rw [T38_66_41_4, if_pos (by omega), Q13n_4 w.1 (by omega) (by omega) (by omega)]
    simp only [Option.bind_some, Option.toList_some, List.cons_append, List.nil_append]
    rw [T38_88_41_4, w32_id (by omega) (by omega), Int.toNat_natCast, k5]
    obtain ⟨m1, g1, g2, g3⟩ := Q39_41 (d := d + 1) (L := L) v (x := 10 + (k : Int)) (y := pL K k) (show k < 20 by omega) o1
    rw [g1]
    simp only [Option.bind_some, Option.toList_some, List.cons_append, List.nil_append]
    rw [T38_92_41_4]
    obtain ⟨m2, h1, h2, h3⟩ := L38c_41_4 (d := d) (L := L) (K := K) (k := k) (by omega) (pN K) 0 (by omega) m1 (vC_e g3 (mid_0 K k)) (vP_k w (fun b s h h' => by
      rcases g2 b s with e | e
      · omega
      · exact e))
    have h1' : j_fin (c_call (d + 2)) 38 96 [some (jR 41), some (jR 4), some (jI k), some (jI (tR (staF K k))), some (jI 0)] [] (hH L m1) = _ := h1
    rw [h1']
    obtain ⟨m3, q1, q2, q3⟩ := ih (k + 1) (by omega) m2 (some (jI k)) (some (jI (pN K))) h3 (vP_k w (fun b s h h' => by
      rcases (kpt_tr g2 h2) b s with e | e
      · omega
      · exact e))
    exact ⟨m3, q1, kpt_tr (kpt_tr g2 h2) q2, q3⟩
theorem L38a_41_4 {d : Nat} {L : j_B} {K : PK} : ∀ j k : Nat, k + j = pN K → ∀ m : j_M0, m 41 0 = 0 → m 41 1 = pN K → m 41 2 = 0 → m 41 3 = 0 → m 41 4 = 1 → (∀ c : Nat, c < k → m 43 c = c ∧ m 46 c = pC K c) → vP 4 K m → ∃ m', j_fin (c_call (d + 2)) 38 30 [some (jR 41), some (jR 4), some (jI k), none, none] [] (hH L m) = some (none, hH L m') ∧ kpt (fun b _ => 41 ≤ b ∧ b ≤ 49) m m' ∧ vC 41 (staF K (pR K)) m' := by
  intro j
  induction j with
  | zero =>
    intro k hk m a0 a1 a2 a3 a4 a5 w
    have hkk : k = pN K := by omega
    subst hkk
    rw [T38_30_41_4, if_neg (by omega)]
    exact L38b_41_4 (pR K) 0 (by omega) m none none ⟨a0, a1, a2, a3, a4, fun i h => absurd h (Nat.not_lt_zero i), fun c h => (a5 c h).1, fun i c h => absurd h (Nat.not_lt_zero i), fun i h => absurd h (Nat.not_lt_zero i), fun c h => (a5 c h).2⟩ w
  | succ j ih =>
    intro k hk m a0 a1 a2 a3 a4 a5 w
    have o := vP_ok w
    have o1 := o.2.1
    have k2 := w.2.2.2.1 k (by omega)
    simp only [Nat.reduceAdd] at k2
    rw [T38_30_41_4, if_pos (by omega), if_pos (by omega), if_pos (by omega), if_pos (by omega), nat1 (by omega), Int.toNat_natCast, up_ne (by omega), k2]
    obtain ⟨m', h1, h2, h3⟩ := ih (k + 1) (by omega) (j_up (j_up m 43 k k) 46 k (pC K k)) (by simp (disch := omega) only [up_ne]; exact a0) (by simp (disch := omega) only [up_ne]; exact a1) (by simp (disch := omega) only [up_ne]; exact a2) (by simp (disch := omega) only [up_ne]; exact a3) (by simp (disch := omega) only [up_ne]; exact a4) (by
      intro c hc
      rw [up_ne (by omega), up_at, up_at, up_ne (by omega)]
      by_cases e : c = k
      · subst e
        rw [if_pos rfl, if_pos rfl]
        exact ⟨rfl, rfl⟩
      · rw [if_neg e, if_neg e]
        exact a5 c (by omega)) (vP_k w (fun b s h h' => by rw [up_ne (by omega), up_ne (by omega)]))
    exact ⟨m', h1, kpt_tr (kpt_tr (kpt_up ⟨by omega, by omega⟩) (kpt_up ⟨by omega, by omega⟩)) h2, h3⟩
theorem Q38_41_4 {d : Nat} {L : j_B} {K : PK} {m : j_M0} (w : vP 4 K m) : ∃ m', c_call (d + 3) 38 [jR 41, jR 4] (hH L m) = some (none, hH L m') ∧ kpt (fun b _ => 41 ≤ b ∧ b ≤ 49) m m' ∧ vC 41 (staF K (pR K)) m' := by
  have k4 := w.2.1
  rw [E38, T38_0_41_4]
  obtain ⟨m', h1, h2, h3⟩ := L38a_41_4 (d := d) (L := L) (K := K) (pN K) 0 (by omega) (j_up (j_up (j_up (j_up (j_up m 41 0 0) 41 1 ((j_up m 41 0 0) 4 0)) 41 2 0) 41 3 0) 41 4 1) (by simp (disch := omega) only [up_nj, up_eq]) (by simp (disch := omega) only [up_nj, up_eq, up_ne]; exact k4) (by simp (disch := omega) only [up_nj, up_eq]) (by simp (disch := omega) only [up_nj, up_eq]) (by simp (disch := omega) only [up_nj, up_eq]) (fun c h => absurd h (Nat.not_lt_zero c)) (vP_k w (fun b s h h' => by simp (disch := omega) only [up_ne]))
  refine ⟨m', h1, kpt_tr ?_ h2, h3⟩
  exact kpt_tr (kpt_tr (kpt_tr (kpt_tr (kpt_up ⟨by omega, by omega⟩) (kpt_up ⟨by omega, by omega⟩)) (kpt_up ⟨by omega, by omega⟩)) (kpt_up ⟨by omega, by omega⟩)) (kpt_up ⟨by omega, by omega⟩)
theorem mid_s_55 {K : PK} {k c : Nat} {m : j_M0} (v : vC 55 (midF K k c) m) (hk : k < 8) (hc : c < pN K) (hn : pN K ≤ 5) : vC 55 (midF K k (c + 1)) (j_up m 58 (5 * k + c) (pP K k c)) := by
  obtain ⟨v1, v2, v3, v4, v5, v6, v7, v8, v9, v10⟩ := v
  unfold vC
  simp (disch := omega) only [Nat.reduceAdd, up_ne]
  refine ⟨v1, v2, v3, v4, v5, v6, v7, ?_, v9, v10⟩
  intro i q hi hq
  replace hq : q < pN K := hq
  have := v8 i q hi hq
  simp only [Nat.reduceAdd] at this
  show _ = (if i = k ∧ c + 1 ≤ q then 0 else pP K i q)
  replace this : m 58 (5 * i + q) = (if i = k ∧ c ≤ q then 0 else pP K i q) := this
  rw [up_at]
  by_cases e : i = k
  · subst e
    by_cases e2 : q = c
    · subst e2
      rw [if_pos rfl, if_neg (by omega)]
    · rw [if_neg (by omega), this]
      by_cases e3 : c ≤ q
      · rw [if_pos ⟨rfl, e3⟩, if_pos ⟨rfl, by omega⟩]
      · rw [if_neg (by omega), if_neg (by omega)]
  · rw [if_neg (by omega), this, if_neg (fun h => e h.1), if_neg (fun h => e h.1)]
theorem L38c_55_35 {d : Nat} {L : j_B} {K : PK} {k : Nat} (hk : k < pR K) : ∀ j c : Nat, c + j = pN K → ∀ m : j_M0, vC 55 (midF K k c) m → vP 35 K m → ∃ m', j_fin (c_call (d + 2)) 38 96 [some (jR 55), some (jR 35), some (jI k), some (jI k), some (jI c)] [] (hH L m) = j_fin (c_call (d + 2)) 38 66 [some (jR 55), some (jR 35), some (jI (k + 1 : Nat)), some (jI k), some (jI (pN K))] [] (hH L m') ∧ kpt (fun b _ => 55 ≤ b ∧ b ≤ 63) m m' ∧ vC 55 (staF K (k + 1)) m' := by
  intro j
  induction j with
  | zero =>
    intro c hc m v w
    have o := vP_ok w
    have o1 := o.2.1
    have o2 := o.2.2.1
    have hcc : c = pN K := by omega
    subst hcc
    have k1 : m 55 1 = pN K := v.2.1
    rw [T38_96_55_35, if_neg (by omega), nat1 (by omega)]
    exact ⟨m, rfl, kpt_rfl, vC_e v (mid_n K k)⟩
  | succ j ih =>
    intro c hc m v w
    have o := vP_ok w
    have o1 := o.2.1
    have o2 := o.2.2.1
    have k1 : m 55 1 = pN K := v.2.1
    have k2 := w.2.2.2.2.1 k c hk (by omega)
    have k3 := w.2.1
    rw [T38_96_55_35, if_pos (by omega), Q13_35 w.1 (by omega) (by omega) (by omega) (by omega)]
    simp only [Option.bind_some, Option.toList_some, List.cons_append, List.nil_append]
    rw [T38_122_55_35]
    simp (disch := omega) only [w32_id, nat1, show ((k : Int) * 5 + (c : Int)).toNat = 5 * k + c by omega, Int.toNat_natCast, k2]
    rw [if_pos (by omega)]
    obtain ⟨m', h1, h2, h3⟩ := ih (c + 1) (by omega) (j_up m 58 (5 * k + c) (pP K k c)) (mid_s_55 v (by omega) (by omega) o1) (vP_k w (fun b s h h' => up_ne (by omega)))
    exact ⟨m', h1, kpt_tr (kpt_up ⟨by omega, by omega⟩) h2, h3⟩
theorem L38b_55_35 {d : Nat} {L : j_B} {K : PK} : ∀ j k : Nat, k + j = pR K → ∀ (m : j_M0) (o3 o4 : Option j_V), vC 55 (staF K k) m → vP 35 K m → ∃ m', j_fin (c_call (d + 2)) 38 66 [some (jR 55), some (jR 35), some (jI k), o3, o4] [] (hH L m) = some (none, hH L m') ∧ kpt (fun b _ => 55 ≤ b ∧ b ≤ 63) m m' ∧ vC 55 (staF K (pR K)) m' := by
  intro j
  induction j with
  | zero =>
    intro k hk m o3 o4 v w
    have hkk : k = pR K := by omega
    subst hkk
    have k3 := w.2.2.1
    rw [T38_66_55_35, if_neg (by omega)]
    exact ⟨m, rfl, kpt_rfl, v⟩
  | succ j ih =>
    intro k hk m o3 o4 v w
    have o := vP_ok w
    have o1 := o.2.1
    have o2 := o.2.2.1
    have k1 : m 55 1 = pN K := v.2.1
    have k3 := w.2.2.1
    have k4 := w.2.1
    have k5 := w.2.2.2.2.2 k (by omega)
    rw [T38_66_55_35, if_pos (by omega), Q13n_35 w.1 (by omega) (by omega) (by omega)]
    simp only [Option.bind_some, Option.toList_some, List.cons_append, List.nil_append]
    rw [T38_88_55_35, w32_id (by omega) (by omega), Int.toNat_natCast, k5]
    obtain ⟨m1, g1, g2, g3⟩ := Q39_55 (d := d + 1) (L := L) v (x := 10 + (k : Int)) (y := pL K k) (show k < 20 by omega) o1
    rw [g1]
    simp only [Option.bind_some, Option.toList_some, List.cons_append, List.nil_append]
    rw [T38_92_55_35]
    obtain ⟨m2, h1, h2, h3⟩ := L38c_55_35 (d := d) (L := L) (K := K) (k := k) (by omega) (pN K) 0 (by omega) m1 (vC_e g3 (mid_0 K k)) (vP_k w (fun b s h h' => by
      rcases g2 b s with e | e
      · omega
      · exact e))
    have h1' : j_fin (c_call (d + 2)) 38 96 [some (jR 55), some (jR 35), some (jI k), some (jI (tR (staF K k))), some (jI 0)] [] (hH L m1) = _ := h1
    rw [h1']
    obtain ⟨m3, q1, q2, q3⟩ := ih (k + 1) (by omega) m2 (some (jI k)) (some (jI (pN K))) h3 (vP_k w (fun b s h h' => by
      rcases (kpt_tr g2 h2) b s with e | e
      · omega
      · exact e))
    exact ⟨m3, q1, kpt_tr (kpt_tr g2 h2) q2, q3⟩
theorem L38a_55_35 {d : Nat} {L : j_B} {K : PK} : ∀ j k : Nat, k + j = pN K → ∀ m : j_M0, m 55 0 = 0 → m 55 1 = pN K → m 55 2 = 0 → m 55 3 = 0 → m 55 4 = 1 → (∀ c : Nat, c < k → m 57 c = c ∧ m 60 c = pC K c) → vP 35 K m → ∃ m', j_fin (c_call (d + 2)) 38 30 [some (jR 55), some (jR 35), some (jI k), none, none] [] (hH L m) = some (none, hH L m') ∧ kpt (fun b _ => 55 ≤ b ∧ b ≤ 63) m m' ∧ vC 55 (staF K (pR K)) m' := by
  intro j
  induction j with
  | zero =>
    intro k hk m a0 a1 a2 a3 a4 a5 w
    have hkk : k = pN K := by omega
    subst hkk
    rw [T38_30_55_35, if_neg (by omega)]
    exact L38b_55_35 (pR K) 0 (by omega) m none none ⟨a0, a1, a2, a3, a4, fun i h => absurd h (Nat.not_lt_zero i), fun c h => (a5 c h).1, fun i c h => absurd h (Nat.not_lt_zero i), fun i h => absurd h (Nat.not_lt_zero i), fun c h => (a5 c h).2⟩ w
  | succ j ih =>
    intro k hk m a0 a1 a2 a3 a4 a5 w
    have o := vP_ok w
    have o1 := o.2.1
    have k2 := w.2.2.2.1 k (by omega)
    simp only [Nat.reduceAdd] at k2
    rw [T38_30_55_35, if_pos (by omega), if_pos (by omega), if_pos (by omega), if_pos (by omega), nat1 (by omega), Int.toNat_natCast, up_ne (by omega), k2]
    obtain ⟨m', h1, h2, h3⟩ := ih (k + 1) (by omega) (j_up (j_up m 57 k k) 60 k (pC K k)) (by simp (disch := omega) only [up_ne]; exact a0) (by simp (disch := omega) only [up_ne]; exact a1) (by simp (disch := omega) only [up_ne]; exact a2) (by simp (disch := omega) only [up_ne]; exact a3) (by simp (disch := omega) only [up_ne]; exact a4) (by
      intro c hc
      rw [up_ne (by omega), up_at, up_at, up_ne (by omega)]
      by_cases e : c = k
      · subst e
        rw [if_pos rfl, if_pos rfl]
        exact ⟨rfl, rfl⟩
      · rw [if_neg e, if_neg e]
        exact a5 c (by omega)) (vP_k w (fun b s h h' => by rw [up_ne (by omega), up_ne (by omega)]))
    exact ⟨m', h1, kpt_tr (kpt_tr (kpt_up ⟨by omega, by omega⟩) (kpt_up ⟨by omega, by omega⟩)) h2, h3⟩
theorem Q38_55_35 {d : Nat} {L : j_B} {K : PK} {m : j_M0} (w : vP 35 K m) : ∃ m', c_call (d + 3) 38 [jR 55, jR 35] (hH L m) = some (none, hH L m') ∧ kpt (fun b _ => 55 ≤ b ∧ b ≤ 63) m m' ∧ vC 55 (staF K (pR K)) m' := by
  have k4 := w.2.1
  rw [E38, T38_0_55_35]
  obtain ⟨m', h1, h2, h3⟩ := L38a_55_35 (d := d) (L := L) (K := K) (pN K) 0 (by omega) (j_up (j_up (j_up (j_up (j_up m 55 0 0) 55 1 ((j_up m 55 0 0) 35 0)) 55 2 0) 55 3 0) 55 4 1) (by simp (disch := omega) only [up_nj, up_eq]) (by simp (disch := omega) only [up_nj, up_eq, up_ne]; exact k4) (by simp (disch := omega) only [up_nj, up_eq]) (by simp (disch := omega) only [up_nj, up_eq]) (by simp (disch := omega) only [up_nj, up_eq]) (fun c h => absurd h (Nat.not_lt_zero c)) (vP_k w (fun b s h h' => by simp (disch := omega) only [up_ne]))
  refine ⟨m', h1, kpt_tr ?_ h2, h3⟩
  exact kpt_tr (kpt_tr (kpt_tr (kpt_tr (kpt_up ⟨by omega, by omega⟩) (kpt_up ⟨by omega, by omega⟩)) (kpt_up ⟨by omega, by omega⟩)) (kpt_up ⟨by omega, by omega⟩)) (kpt_up ⟨by omega, by omega⟩)
theorem mid_s_71 {K : PK} {k c : Nat} {m : j_M0} (v : vC 71 (midF K k c) m) (hk : k < 8) (hc : c < pN K) (hn : pN K ≤ 5) : vC 71 (midF K k (c + 1)) (j_up m 74 (5 * k + c) (pP K k c)) := by
  obtain ⟨v1, v2, v3, v4, v5, v6, v7, v8, v9, v10⟩ := v
  unfold vC
  simp (disch := omega) only [Nat.reduceAdd, up_ne]
  refine ⟨v1, v2, v3, v4, v5, v6, v7, ?_, v9, v10⟩
  intro i q hi hq
  replace hq : q < pN K := hq
  have := v8 i q hi hq
  simp only [Nat.reduceAdd] at this
  show _ = (if i = k ∧ c + 1 ≤ q then 0 else pP K i q)
  replace this : m 74 (5 * i + q) = (if i = k ∧ c ≤ q then 0 else pP K i q) := this
  rw [up_at]
  by_cases e : i = k
  · subst e
    by_cases e2 : q = c
    · subst e2
      rw [if_pos rfl, if_neg (by omega)]
    · rw [if_neg (by omega), this]
      by_cases e3 : c ≤ q
      · rw [if_pos ⟨rfl, e3⟩, if_pos ⟨rfl, by omega⟩]
      · rw [if_neg (by omega), if_neg (by omega)]
  · rw [if_neg (by omega), this, if_neg (fun h => e h.1), if_neg (fun h => e h.1)]
