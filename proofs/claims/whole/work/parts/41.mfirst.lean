/-! The model's table starts. -/
theorem midM_s_115 {K : PK} {k c : Nat} {m : j_M0} (v : vM 115 (midF K k c) m) (hk : k < 8) (hc : c < pN K) (hn : pN K ≤ 5) : vM 115 (midF K k (c + 1)) (j_up m 116 (5 * k + c) (pP K k c)) := by
  obtain ⟨v1, v2, v3, v4, v5, v6, v7, v8, v9, v10⟩ := v
  unfold vM
  simp (disch := omega) only [Nat.reduceAdd, up_ne]
  refine ⟨v1, v2, v3, v4, v5, v6, v7, ?_, v9, v10⟩
  intro i q hi hq
  replace hq : q < pN K := hq
  have := v8 i q hi hq
  simp only [Nat.reduceAdd] at this
  show _ = (if i = k ∧ c + 1 ≤ q then 0 else pP K i q)
  replace this : m 116 (5 * i + q) = (if i = k ∧ c ≤ q then 0 else pP K i q) := this
  rw [up_at]
  by_cases e : i = k
  · subst e
    by_cases e2 : q = c
    · subst e2
      rw [if_pos rfl, if_neg (by omega)]
    · rw [if_neg (by omega), this]
      by_cases e3 : c ≤ q
      · rw [if_pos ⟨rfl, e3⟩, if_pos ⟨rfl, by omega⟩]
      · rw [if_neg (by omega), if_neg (by omega)]
  · rw [if_neg (by omega), this, if_neg (fun h => e h.1), if_neg (fun h => e h.1)]
theorem L178c_115 {d L : Nat} {K : PK} {k : Nat} (hk : k < pR K) : ∀ j c : Nat, c + j = pN K → ∀ m : j_M0, vM 115 (midF K k c) m → vG K m → ∃ m', j_fin (c_call (d + 2)) 178 110 [some (jR 109), some (jR 115), some (jI k), some (jI c)] [] (hH L m) = j_fin (c_call (d + 2)) 178 84 [some (jR 109), some (jR 115), some (jI (k + 1 : Nat)), some (jI (pN K))] [] (hH L m') ∧ kpt (fun b z => 115 ≤ b ∧ b ≤ 123 ∧ (b = 115 → z ≠ 18 ∧ z ≠ 19 ∧ z ≠ 16)) m m' ∧ vM 115 (staF K (k + 1)) m' := by
  intro j
  induction j with
  | zero =>
    intro c hc m v w
    have o := vG_n w
    have hcc : c = pN K := by omega
    subst hcc
    rw [T178_110_109_115, Q151]
    simp only [Option.bind_some, Option.toList_some, List.cons_append, List.nil_append]
    rw [T178_115_109_115, w.2.1, if_neg (by omega), nat1 (by omega)]
    exact ⟨m, rfl, kpt_rfl, vM_e v (mid_n K k)⟩
  | succ j ih =>
    intro c hc m v w
    have o := vG_n w
    have k2 := w.2.2.2.2.1 k c hk (by omega)
    rw [T178_110_109_115, Q151]
    simp only [Option.bind_some, Option.toList_some, List.cons_append, List.nil_append]
    rw [T178_115_109_115, w.2.1, if_pos (by omega), Q157 w.1 (by omega) (by omega)]
    simp only [Option.bind_some, Option.toList_some, List.cons_append, List.nil_append]
    rw [T178_133_109_115]
    simp (disch := omega) only [w32_id, nat1, show (5 * (k : Int) + (c : Int)).toNat = 5 * k + c by omega, k2]
    rw [if_pos (by omega)]
    obtain ⟨m', h1, h2, h3⟩ := ih (c + 1) (by omega) (j_up m 116 (5 * k + c) (pP K k c)) (midM_s_115 v (by omega) (by omega) o.2.1) (vG_k w (fun s => up_ne (by omega)))
    exact ⟨m', h1, kpt_tr (kpt_up ⟨by omega, by omega, by omega⟩) h2, h3⟩
theorem L178b_115 {d L : Nat} {K : PK} : ∀ j k : Nat, k + j = pR K → ∀ (m : j_M0) (o3 : Option j_V), vM 115 (staF K k) m → vG K m → ∃ m', j_fin (c_call (d + 2)) 178 84 [some (jR 109), some (jR 115), some (jI k), o3] [] (hH L m) = some (none, hH L m') ∧ kpt (fun b z => 115 ≤ b ∧ b ≤ 123 ∧ (b = 115 → z ≠ 18 ∧ z ≠ 19 ∧ z ≠ 16)) m m' ∧ vM 115 (staF K (pR K)) m' := by
  intro j
  induction j with
  | zero =>
    intro k hk m o3 v w
    have hkk : k = pR K := by omega
    subst hkk
    have k3 := w.2.2.1
    rw [T178_84_109_115, if_neg (by omega)]
    exact ⟨m, rfl, kpt_rfl, v⟩
  | succ j ih =>
    intro k hk m o3 v w
    have o := vG_n w
    have k3 := w.2.2.1
    have k5 := w.2.2.2.2.2 k (by omega)
    rw [T178_84_109_115, if_pos (by omega), Q158 w.1 (by omega)]
    simp only [Option.bind_some, Option.toList_some, List.cons_append, List.nil_append]
    rw [T178_105_109_115, w32_id (by omega) (by omega), k5]
    obtain ⟨m1, g1, g2, g3⟩ := Q177_115 (d := d + 1) (L := L) v (x := 10 + (k : Int)) (y := pL K k) (show k < 20 by omega) o.2.1
    rw [g1]
    simp only [Option.bind_some, Option.toList_some, List.cons_append, List.nil_append, Option.toList_none]
    rw [T178_108_109_115]
    replace g2 : kpt (fun b z => 115 ≤ b ∧ b ≤ 123 ∧ (b = 115 → z ≠ 18 ∧ z ≠ 19 ∧ z ≠ 16)) m m1 := kpt_w g2 (fun b s h => by omega)
    obtain ⟨m2, h1, h2, h3⟩ := L178c_115 (d := d) (L := L) (K := K) (k := k) (by omega) (pN K) 0 (by omega) m1 (vM_e g3 (mid_0 K k)) (vG_k w (fun s => by
      rcases g2 110 s with e | e
      · omega
      · exact e))
    rw [show (some (jI 0) : Option j_V) = some (jI ((0 : Nat) : Int)) from rfl, h1]
    obtain ⟨m3, q1, q2, q3⟩ := ih (k + 1) (by omega) m2 (some (jI (pN K))) h3 (vG_k w (fun s => by
      rcases (kpt_tr g2 h2) 110 s with e | e
      · omega
      · exact e))
    exact ⟨m3, q1, kpt_tr (kpt_tr g2 h2) q2, q3⟩
theorem L178a_115 {d L : Nat} {K : PK} : ∀ j k : Nat, k + j = pN K → ∀ m : j_M0, m 115 15 = 0 → m 115 14 = pN K → m 115 17 = 0 → m 115 12 = 0 → m 115 13 = 1 → (∀ c : Nat, c < k → m 123 c = c ∧ m 118 c = pC K c) → vG K m → ∃ m', j_fin (c_call (d + 2)) 178 45 [some (jR 109), some (jR 115), some (jI k), none] [] (hH L m) = some (none, hH L m') ∧ kpt (fun b z => 115 ≤ b ∧ b ≤ 123 ∧ (b = 115 → z ≠ 18 ∧ z ≠ 19 ∧ z ≠ 16)) m m' ∧ vM 115 (staF K (pR K)) m' := by
  intro j
  induction j with
  | zero =>
    intro k hk m a0 a1 a2 a3 a4 a5 w
    have hkk : k = pN K := by omega
    subst hkk
    rw [T178_45_109_115, Q151]
    simp only [Option.bind_some, Option.toList_some, List.cons_append, List.nil_append]
    rw [T178_50_109_115, w.2.1, if_neg (by omega)]
    exact L178b_115 (pR K) 0 (by omega) m none ⟨a0, a1, a2, a3, a4, fun i h => absurd h (Nat.not_lt_zero i), fun c h => (a5 c h).1, fun i c h => absurd h (Nat.not_lt_zero i), fun i h => absurd h (Nat.not_lt_zero i), fun c h => (a5 c h).2⟩ w
  | succ j ih =>
    intro k hk m a0 a1 a2 a3 a4 a5 w
    have o := vG_n w
    have k2 := w.2.2.2.1 k (by omega)
    rw [T178_45_109_115, Q151]
    simp only [Option.bind_some, Option.toList_some, List.cons_append, List.nil_append]
    rw [T178_50_109_115, w.2.1, if_pos (by omega)]
    simp (disch := omega) only [w32_id, nat1, show (7 + (k : Int)).toNat = 7 + k by omega, Int.toNat_natCast, k2]
    rw [if_pos (by omega), if_pos (by omega), if_pos (by omega)]
    obtain ⟨m', h1, h2, h3⟩ := ih (k + 1) (by omega) (j_up (j_up m 118 k (pC K k)) 123 k k) (by simp (disch := omega) only [up_ne]; exact a0) (by simp (disch := omega) only [up_ne]; exact a1) (by simp (disch := omega) only [up_ne]; exact a2) (by simp (disch := omega) only [up_ne]; exact a3) (by simp (disch := omega) only [up_ne]; exact a4) (by
      intro c hc
      rw [up_at, up_ne (by omega), up_ne (by omega), up_at]
      by_cases e : c = k
      · subst e
        rw [if_pos rfl, if_pos rfl]
        exact ⟨rfl, rfl⟩
      · rw [if_neg e, if_neg e]
        exact a5 c (by omega)) (vG_k w (fun s => by rw [up_ne (by omega), up_ne (by omega)]))
    exact ⟨m', h1, kpt_tr (kpt_tr (kpt_up ⟨by omega, by omega, by omega⟩) (kpt_up ⟨by omega, by omega, by omega⟩)) h2, h3⟩
theorem Q178_115 {d L : Nat} {K : PK} {m : j_M0} (w : vG K m) : ∃ m', c_call (d + 3) 178 [jR 109, jR 115] (hH L m) = some (none, hH L m') ∧ kpt (fun b z => 115 ≤ b ∧ b ≤ 123) m m' ∧ vM 115 (staF K (pR K)) m' ∧ m' 115 16 = 0 ∧ m' 115 18 = 1 ∧ m' 115 19 = 0 := by
  have k4 := w.2.1
  rw [E178, T178_0_109_115, Q151]
  simp only [Option.bind_some, Option.toList_some, List.cons_append, List.nil_append]
  rw [T178_5_109_115, k4]
  obtain ⟨m', h1, h2, h3⟩ := L178a_115 (d := d) (L := L) (K := K) (pN K) 0 (by omega) (j_up (j_up (j_up (j_up (j_up (j_up (j_up (j_up m 115 14 (pN K)) 115 15 0) 115 16 0) 115 17 0) 115 12 0) 115 13 1) 115 18 1) 115 19 0) (by simp (disch := omega) only [up_nj, up_eq]) (by simp (disch := omega) only [up_nj, up_eq]) (by simp (disch := omega) only [up_nj, up_eq]) (by simp (disch := omega) only [up_nj, up_eq]) (by simp (disch := omega) only [up_nj, up_eq]) (fun c h => absurd h (Nat.not_lt_zero c)) (vG_k w (fun s => by simp (disch := omega) only [up_ne]))
  refine ⟨m', h1, kpt_tr ?_ (kpt_w h2 (fun b s h => ⟨h.1, h.2.1⟩)), h3, ?_, ?_, ?_⟩
  · intro b x
    by_cases e : b = 115
    · left; omega
    · right; simp (disch := omega) only [up_ne]
  · rcases h2 115 16 with e | e
    · omega
    · rw [e]; simp (disch := omega) only [up_nj, up_eq]
  · rcases h2 115 18 with e | e
    · omega
    · rw [e]; simp (disch := omega) only [up_nj, up_eq]
  · rcases h2 115 19 with e | e
    · omega
    · rw [e]; simp (disch := omega) only [up_nj, up_eq]
theorem midM_s_128 {K : PK} {k c : Nat} {m : j_M0} (v : vM 128 (midF K k c) m) (hk : k < 8) (hc : c < pN K) (hn : pN K ≤ 5) : vM 128 (midF K k (c + 1)) (j_up m 129 (5 * k + c) (pP K k c)) := by
  obtain ⟨v1, v2, v3, v4, v5, v6, v7, v8, v9, v10⟩ := v
  unfold vM
  simp (disch := omega) only [Nat.reduceAdd, up_ne]
  refine ⟨v1, v2, v3, v4, v5, v6, v7, ?_, v9, v10⟩
  intro i q hi hq
  replace hq : q < pN K := hq
  have := v8 i q hi hq
  simp only [Nat.reduceAdd] at this
  show _ = (if i = k ∧ c + 1 ≤ q then 0 else pP K i q)
  replace this : m 129 (5 * i + q) = (if i = k ∧ c ≤ q then 0 else pP K i q) := this
  rw [up_at]
  by_cases e : i = k
  · subst e
    by_cases e2 : q = c
    · subst e2
      rw [if_pos rfl, if_neg (by omega)]
    · rw [if_neg (by omega), this]
      by_cases e3 : c ≤ q
      · rw [if_pos ⟨rfl, e3⟩, if_pos ⟨rfl, by omega⟩]
      · rw [if_neg (by omega), if_neg (by omega)]
  · rw [if_neg (by omega), this, if_neg (fun h => e h.1), if_neg (fun h => e h.1)]
theorem L178c_128 {d L : Nat} {K : PK} {k : Nat} (hk : k < pR K) : ∀ j c : Nat, c + j = pN K → ∀ m : j_M0, vM 128 (midF K k c) m → vG K m → ∃ m', j_fin (c_call (d + 2)) 178 110 [some (jR 109), some (jR 128), some (jI k), some (jI c)] [] (hH L m) = j_fin (c_call (d + 2)) 178 84 [some (jR 109), some (jR 128), some (jI (k + 1 : Nat)), some (jI (pN K))] [] (hH L m') ∧ kpt (fun b z => 128 ≤ b ∧ b ≤ 136 ∧ (b = 128 → z ≠ 18 ∧ z ≠ 19 ∧ z ≠ 16)) m m' ∧ vM 128 (staF K (k + 1)) m' := by
  intro j
  induction j with
  | zero =>
    intro c hc m v w
    have o := vG_n w
    have hcc : c = pN K := by omega
    subst hcc
    rw [T178_110_109_128, Q151]
    simp only [Option.bind_some, Option.toList_some, List.cons_append, List.nil_append]
    rw [T178_115_109_128, w.2.1, if_neg (by omega), nat1 (by omega)]
    exact ⟨m, rfl, kpt_rfl, vM_e v (mid_n K k)⟩
  | succ j ih =>
    intro c hc m v w
    have o := vG_n w
    have k2 := w.2.2.2.2.1 k c hk (by omega)
    rw [T178_110_109_128, Q151]
    simp only [Option.bind_some, Option.toList_some, List.cons_append, List.nil_append]
    rw [T178_115_109_128, w.2.1, if_pos (by omega), Q157 w.1 (by omega) (by omega)]
    simp only [Option.bind_some, Option.toList_some, List.cons_append, List.nil_append]
    rw [T178_133_109_128]
    simp (disch := omega) only [w32_id, nat1, show (5 * (k : Int) + (c : Int)).toNat = 5 * k + c by omega, k2]
    rw [if_pos (by omega)]
    obtain ⟨m', h1, h2, h3⟩ := ih (c + 1) (by omega) (j_up m 129 (5 * k + c) (pP K k c)) (midM_s_128 v (by omega) (by omega) o.2.1) (vG_k w (fun s => up_ne (by omega)))
    exact ⟨m', h1, kpt_tr (kpt_up ⟨by omega, by omega, by omega⟩) h2, h3⟩
theorem L178b_128 {d L : Nat} {K : PK} : ∀ j k : Nat, k + j = pR K → ∀ (m : j_M0) (o3 : Option j_V), vM 128 (staF K k) m → vG K m → ∃ m', j_fin (c_call (d + 2)) 178 84 [some (jR 109), some (jR 128), some (jI k), o3] [] (hH L m) = some (none, hH L m') ∧ kpt (fun b z => 128 ≤ b ∧ b ≤ 136 ∧ (b = 128 → z ≠ 18 ∧ z ≠ 19 ∧ z ≠ 16)) m m' ∧ vM 128 (staF K (pR K)) m' := by
  intro j
  induction j with
  | zero =>
    intro k hk m o3 v w
    have hkk : k = pR K := by omega
    subst hkk
    have k3 := w.2.2.1
    rw [T178_84_109_128, if_neg (by omega)]
    exact ⟨m, rfl, kpt_rfl, v⟩
  | succ j ih =>
    intro k hk m o3 v w
    have o := vG_n w
    have k3 := w.2.2.1
    have k5 := w.2.2.2.2.2 k (by omega)
    rw [T178_84_109_128, if_pos (by omega), Q158 w.1 (by omega)]
    simp only [Option.bind_some, Option.toList_some, List.cons_append, List.nil_append]
    rw [T178_105_109_128, w32_id (by omega) (by omega), k5]
    obtain ⟨m1, g1, g2, g3⟩ := Q177_128 (d := d + 1) (L := L) v (x := 10 + (k : Int)) (y := pL K k) (show k < 20 by omega) o.2.1
    rw [g1]
    simp only [Option.bind_some, Option.toList_some, List.cons_append, List.nil_append, Option.toList_none]
    rw [T178_108_109_128]
    replace g2 : kpt (fun b z => 128 ≤ b ∧ b ≤ 136 ∧ (b = 128 → z ≠ 18 ∧ z ≠ 19 ∧ z ≠ 16)) m m1 := kpt_w g2 (fun b s h => by omega)
    obtain ⟨m2, h1, h2, h3⟩ := L178c_128 (d := d) (L := L) (K := K) (k := k) (by omega) (pN K) 0 (by omega) m1 (vM_e g3 (mid_0 K k)) (vG_k w (fun s => by
      rcases g2 110 s with e | e
      · omega
      · exact e))
    rw [show (some (jI 0) : Option j_V) = some (jI ((0 : Nat) : Int)) from rfl, h1]
    obtain ⟨m3, q1, q2, q3⟩ := ih (k + 1) (by omega) m2 (some (jI (pN K))) h3 (vG_k w (fun s => by
      rcases (kpt_tr g2 h2) 110 s with e | e
      · omega
      · exact e))
    exact ⟨m3, q1, kpt_tr (kpt_tr g2 h2) q2, q3⟩
theorem L178a_128 {d L : Nat} {K : PK} : ∀ j k : Nat, k + j = pN K → ∀ m : j_M0, m 128 15 = 0 → m 128 14 = pN K → m 128 17 = 0 → m 128 12 = 0 → m 128 13 = 1 → (∀ c : Nat, c < k → m 136 c = c ∧ m 131 c = pC K c) → vG K m → ∃ m', j_fin (c_call (d + 2)) 178 45 [some (jR 109), some (jR 128), some (jI k), none] [] (hH L m) = some (none, hH L m') ∧ kpt (fun b z => 128 ≤ b ∧ b ≤ 136 ∧ (b = 128 → z ≠ 18 ∧ z ≠ 19 ∧ z ≠ 16)) m m' ∧ vM 128 (staF K (pR K)) m' := by
  intro j
  induction j with
  | zero =>
    intro k hk m a0 a1 a2 a3 a4 a5 w
    have hkk : k = pN K := by omega
    subst hkk
    rw [T178_45_109_128, Q151]
    simp only [Option.bind_some, Option.toList_some, List.cons_append, List.nil_append]
    rw [T178_50_109_128, w.2.1, if_neg (by omega)]
    exact L178b_128 (pR K) 0 (by omega) m none ⟨a0, a1, a2, a3, a4, fun i h => absurd h (Nat.not_lt_zero i), fun c h => (a5 c h).1, fun i c h => absurd h (Nat.not_lt_zero i), fun i h => absurd h (Nat.not_lt_zero i), fun c h => (a5 c h).2⟩ w
  | succ j ih =>
    intro k hk m a0 a1 a2 a3 a4 a5 w
    have o := vG_n w
    have k2 := w.2.2.2.1 k (by omega)
    rw [T178_45_109_128, Q151]
    simp only [Option.bind_some, Option.toList_some, List.cons_append, List.nil_append]
    rw [T178_50_109_128, w.2.1, if_pos (by omega)]
    simp (disch := omega) only [w32_id, nat1, show (7 + (k : Int)).toNat = 7 + k by omega, Int.toNat_natCast, k2]
    rw [if_pos (by omega), if_pos (by omega), if_pos (by omega)]
    obtain ⟨m', h1, h2, h3⟩ := ih (k + 1) (by omega) (j_up (j_up m 131 k (pC K k)) 136 k k) (by simp (disch := omega) only [up_ne]; exact a0) (by simp (disch := omega) only [up_ne]; exact a1) (by simp (disch := omega) only [up_ne]; exact a2) (by simp (disch := omega) only [up_ne]; exact a3) (by simp (disch := omega) only [up_ne]; exact a4) (by
      intro c hc
      rw [up_at, up_ne (by omega), up_ne (by omega), up_at]
      by_cases e : c = k
      · subst e
        rw [if_pos rfl, if_pos rfl]
        exact ⟨rfl, rfl⟩
      · rw [if_neg e, if_neg e]
        exact a5 c (by omega)) (vG_k w (fun s => by rw [up_ne (by omega), up_ne (by omega)]))
    exact ⟨m', h1, kpt_tr (kpt_tr (kpt_up ⟨by omega, by omega, by omega⟩) (kpt_up ⟨by omega, by omega, by omega⟩)) h2, h3⟩
theorem Q178_128 {d L : Nat} {K : PK} {m : j_M0} (w : vG K m) : ∃ m', c_call (d + 3) 178 [jR 109, jR 128] (hH L m) = some (none, hH L m') ∧ kpt (fun b z => 128 ≤ b ∧ b ≤ 136) m m' ∧ vM 128 (staF K (pR K)) m' ∧ m' 128 16 = 0 ∧ m' 128 18 = 1 ∧ m' 128 19 = 0 := by
  have k4 := w.2.1
  rw [E178, T178_0_109_128, Q151]
  simp only [Option.bind_some, Option.toList_some, List.cons_append, List.nil_append]
  rw [T178_5_109_128, k4]
  obtain ⟨m', h1, h2, h3⟩ := L178a_128 (d := d) (L := L) (K := K) (pN K) 0 (by omega) (j_up (j_up (j_up (j_up (j_up (j_up (j_up (j_up m 128 14 (pN K)) 128 15 0) 128 16 0) 128 17 0) 128 12 0) 128 13 1) 128 18 1) 128 19 0) (by simp (disch := omega) only [up_nj, up_eq]) (by simp (disch := omega) only [up_nj, up_eq]) (by simp (disch := omega) only [up_nj, up_eq]) (by simp (disch := omega) only [up_nj, up_eq]) (by simp (disch := omega) only [up_nj, up_eq]) (fun c h => absurd h (Nat.not_lt_zero c)) (vG_k w (fun s => by simp (disch := omega) only [up_ne]))
  refine ⟨m', h1, kpt_tr ?_ (kpt_w h2 (fun b s h => ⟨h.1, h.2.1⟩)), h3, ?_, ?_, ?_⟩
  · intro b x
    by_cases e : b = 128
    · left; omega
    · right; simp (disch := omega) only [up_ne]
  · rcases h2 128 16 with e | e
    · omega
    · rw [e]; simp (disch := omega) only [up_nj, up_eq]
  · rcases h2 128 18 with e | e
    · omega
    · rw [e]; simp (disch := omega) only [up_nj, up_eq]
  · rcases h2 128 19 with e | e
    · omega
    · rw [e]; simp (disch := omega) only [up_nj, up_eq]
