/-! The class solves. -/
theorem L29_40 {d : Nat} {L : j_B} {K : PK} {most : Nat} : ∀ n t : Nat, t + n = most → most ≤ 12 → ∀ (s : Int) (T : TB) (U : CU) (m : j_M0) (o4 : Option j_V), (s = 3 → cN U + n ≤ 12) → vC 41 T m → vP 4 K m → uC 50 (pN K) U m → wI K U T → m 40 2 = s → ∃ m', j_fin (c_call (d + 4)) 29 28 [some (jR 40), some (jR 4), some (jI most), some (jI t), o4] [] (hH L m) = some (some (jI (workF K n s T U).1), hH L m') ∧ kpt (fun b z => b = 40 ∧ z = 2 ∨ 41 ≤ b ∧ b ≤ 53) m m' ∧ vC 41 (workF K n s T U).2.1 m' ∧ uC 50 (pN K) (workF K n s T U).2.2 m' ∧ m' 40 2 = (workF K n s T U).1 := by
  intro n
  induction n with
  | zero =>
    intro t ht hm s T U m o4 hs v w u wi k
    rw [T29_28_40_4, if_neg (by omega), k]
    by_cases e : s = 3
    · subst e
      rw [if_pos rfl, show c_call (d + 4) 56 [jR 41] (hH L m) = _ from Q56_41 (d := d + 1) v wi.1]
      simp only [Option.bind_some, Option.toList_some, List.cons_append, List.nil_append]
      rw [T29_138_40_4]
      by_cases e2 : partF T < 0
      · rw [if_pos e2, workF_w e2, up_eq rfl]
        exact ⟨_, rfl, kpt_up (Or.inl ⟨rfl, rfl⟩), vC_k v (fun b z h h' => up_ne (by omega)), uC_j u (vP_ok w).2.1 (fun b z h h' => up_ne (by omega)), up_eq rfl⟩
      · rw [if_neg e2, workF_2 e2, up_eq rfl]
        exact ⟨_, rfl, kpt_up (Or.inl ⟨rfl, rfl⟩), vC_k v (fun b z h h' => up_ne (by omega)), uC_j u (vP_ok w).2.1 (fun b z h h' => up_ne (by omega)), up_eq rfl⟩
    · rw [if_neg e, workF_n e]
      exact ⟨m, rfl, kpt_rfl, v, u, k⟩
  | succ n ih =>
    intro t ht hm s T U m o4 hs v w u wi k
    have n5 := (vP_ok w).2.1
    have n8 := (vP_ok w).2.2.1
    rw [T29_28_40_4, if_pos (by omega), k]
    by_cases e : s = 3
    · subst e
      have hN := hs rfl
      have q56 : c_call (d + 4) 56 [jR 41] (hH L m) = some (some (jI (partF T)), hH L m) := Q56_41 (d := d + 1) v wi.1
      rw [if_pos rfl, q56]
      simp only [Option.bind_some, Option.toList_some, List.cons_append, List.nil_append]
      rw [T29_48_40_4]
      by_cases e2 : partF T < 0
      · rw [if_pos e2, if_pos k, q56]
        simp only [Option.bind_some, Option.toList_some, List.cons_append, List.nil_append]
        rw [T29_138_40_4, if_pos e2, workF_w e2, up_eq rfl]
        exact ⟨_, rfl, kpt_up (Or.inl ⟨rfl, rfl⟩), vC_k v (fun b z h h' => up_ne (by omega)), uC_j u (vP_ok w).2.1 (fun b z h h' => up_ne (by omega)), up_eq rfl⟩
      · have b1 := partF_b T
        obtain ⟨r, hr⟩ : ∃ r : Nat, partF T = r := ⟨_, (Int.toNat_of_nonneg (by omega)).symm⟩
        have hr' : (partF T).toNat = r := by omega
        obtain ⟨f, m1, g1, g2, g3⟩ := Q4_50 (d := d) (L := L) v wi.1 w u wi.2.2.2.1 wi.2.2.2.2 (by omega) (show r < tR T by omega)
        rw [if_neg e2, hr, g1]
        simp only [Option.bind_some, Option.toList_some, List.cons_append, List.nil_append]
        rw [T29_72_40_4]
        have v1 : vC 41 T m1 := vC_k v (fun b z h h' => kpt_at g2 (by omega))
        have w1 : vP 4 K m1 := vP_k w (fun b z h h' => kpt_at g2 (by omega))
        have k1 : m1 40 2 = 3 := (kpt_at g2 (by omega)).trans k
        rcases g3 with ⟨rfl, n1, n2⟩ | ⟨rfl, n1, n2⟩
        · have ht2 : tellB K U T (partF T).toNat := by rw [hr']; exact n1
          rw [if_neg (by omega), workF_y e2 ht2, hr']
          have hNu : cN (mkU K U T r) = cN U + 1 := rfl
          have wm := wI_mid (vP_ok w) wi (show cN U < 12 by omega) n1
          have o3 := wi.1.1
          have hRR := wi.2.2.1
          have k50 : m1 50 0 = cN (mkU K U T r) := n2.1
          obtain ⟨m2, q1, q2, q3⟩ := Q42_41 (d := d) (L := L) v1 wi.1 (x := 20 + (cN U : Int)) (by omega) (by omega) (show r < tR T by omega)
          rw [k50, hNu, w32_id (x := 20 + ((cN U + 1 : Nat) : Int)) (by omega) (by omega), w32_id (by omega) (by omega), show (20 + ((cN U + 1 : Nat) : Int) - 1) = 20 + (cN U : Int) by omega, show c_call (d + 4) 42 _ _ = _ from c_call_mono q1]
          simp only [Option.bind_some, Option.toList_some, List.cons_append, List.nil_append, Option.toList_none]
          obtain ⟨m3, p1, p2, p3⟩ := Q45_41 (d := d) (L := L) q3 wm.1
          rw [T29_96_40_4, p1]
          simp only [Option.bind_some, Option.toList_some, List.cons_append, List.nil_append]
          rw [T29_104_40_4, nat1 (by omega)]
          have y2 : ∀ b z, (b < 41 ∨ 49 < b) → m3 b z = m1 b z := fun b z h => (kpt_at p2 (by omega)).trans (kpt_at q2 (by omega))
          obtain ⟨m4, t1, t2, t3, t4, t5⟩ := ih (t + 1) (by omega) hm (nexT U T r).1 (nexT U T r).2 (mkU K U T r) (j_up m3 40 2 (nexT U T r).1) (some (jI r)) (fun _ => by omega) (vC_k p3 (fun b z h h' => up_ne (by omega))) (vP_k w1 (fun b z h h' => (up_ne (by omega)).trans (y2 _ _ (by omega)))) (uC_j n2 n5 (fun b z h h' => (up_ne (by omega)).trans (y2 _ _ (by omega)))) (wI_rep wm) (up_eq rfl)
          refine ⟨m4, t1, fun b z => ?_, t3, t4, t5⟩
          by_cases e5 : b = 40 ∧ z = 2 ∨ 41 ≤ b ∧ b ≤ 53
          · exact Or.inl e5
          · right
            rw [kpt_at t2 e5]
            by_cases e6 : b = 40
            · subst e6
              rw [up_nj (by omega), y2 _ _ (by omega), kpt_at g2 (by omega)]
            · rw [up_ne e6, y2 _ _ (by omega), kpt_at g2 (by omega)]
        · have ht2 : ¬ tellB K U T (partF T).toNat := by
            rw [hr']
            intro h
            obtain ⟨p, hp, hq⟩ := n1
            exact hq (h p hp)
          rw [if_pos rfl, workF_f e2 ht2, nat1 (by omega)]
          obtain ⟨m4, t1, t2, t3, t4, t5⟩ := ih (t + 1) (by omega) hm (-6) T U (j_up m1 40 2 (-6)) (some (jI r)) (fun h => absurd h (by decide)) (vC_k v1 (fun b z h h' => up_ne (by omega))) (vP_k w1 (fun b z h h' => up_ne (by omega))) (uC_j n2 n5 (fun b z h h' => up_ne (by omega))) wi (up_eq rfl)
          rw [workF_n (show (-6 : Int) ≠ 3 by decide)] at t1 t3 t4 t5
          refine ⟨m4, t1, fun b z => ?_, t3, t4, t5⟩
          by_cases e5 : b = 40 ∧ z = 2 ∨ 41 ≤ b ∧ b ≤ 53
          · exact Or.inl e5
          · right
            rw [kpt_at t2 e5]
            by_cases e6 : b = 40
            · subst e6
              rw [up_nj (by omega), kpt_at g2 (by omega)]
            · rw [up_ne e6, kpt_at g2 (by omega)]
    · rw [if_neg e, if_neg e, workF_n e]
      exact ⟨m, rfl, kpt_rfl, v, u, k⟩
theorem Q29_40 {d : Nat} {L : j_B} {K : PK} {m : j_M0} (w : vP 4 K m) {k : Nat} (hk : k ≤ 12) : ∃ m', c_call (d + 5) 29 [jR 40, jR 4, jI k] (hH L m) = some (some (jI (solF K k).1), hH L m') ∧ kpt (fun b z => b = 40 ∧ z = 2 ∨ 41 ≤ b ∧ b ≤ 53) m m' ∧ vC 41 (solF K k).2.1 m' ∧ uC 50 (pN K) (solF K k).2.2 m' ∧ m' 40 2 = (solF K k).1 := by
  have ok := vP_ok w
  have n5 := ok.2.1
  have ws := staF_w ok
  obtain ⟨m1, q1, q2, q3⟩ := Q38_41_4 (d := d + 1) (L := L) w
  rw [E29, T29_0_40_4, show c_call (d + 4) 38 _ _ = _ from q1]
  simp only [Option.bind_some, Option.toList_some, List.cons_append, List.nil_append, Option.toList_none]
  rw [T29_8_40_4, E1, T1_0_50]
  simp only [Option.bind_some, Option.toList_some, List.cons_append, List.nil_append, Option.toList_none]
  have u1 : uC 50 (pN K) U0 (j_up m1 50 0 0) := ⟨up_eq rfl, fun k h => absurd h (Nat.not_lt_zero k), fun k p h => absurd h (Nat.not_lt_zero k), fun k p h => absurd h (Nat.not_lt_zero k), fun k p h => absurd h (Nat.not_lt_zero k)⟩
  have v1 : vC 41 (staF K (pR K)) (j_up m1 50 0 0) := vC_k q3 (fun b z h h' => up_ne (by omega))
  obtain ⟨m2, p1, p2, p3⟩ := Q45_41 (d := d) (L := L) v1 ws.1
  rw [T29_15_40_4, p1]
  simp only [Option.bind_some, Option.toList_some, List.cons_append, List.nil_append]
  rw [T29_23_40_4]
  have y2 : ∀ b z, (b < 41 ∨ 49 < b) → ¬ (b = 50 ∧ z = 0) → m2 b z = m b z := fun b z h h' => by
    rw [kpt_at p2 (by omega)]
    by_cases e : b = 50
    · subst e
      rw [up_nj (by omega), kpt_at q2 (by omega)]
    · rw [up_ne e, kpt_at q2 (by omega)]
  have u2 : uC 50 (pN K) U0 m2 := uC_j u1 n5 (fun b z h h' => kpt_at p2 (by omega))
  obtain ⟨m4, t1, t2, t3, t4, t5⟩ := L29_40 (d := d) (L := L) k 0 (by omega) hk (repF 61 (staF K (pR K))).1 (repF 61 (staF K (pR K))).2 U0 (j_up m2 40 2 (repF 61 (staF K (pR K))).1) none (fun _ => by
    show 0 + k ≤ 12
    omega) (vC_k p3 (fun b z h h' => up_ne (by omega))) (vP_k w (fun b z h h' => (up_ne (by omega)).trans (y2 _ _ (by omega) (by omega)))) (uC_j u2 n5 (fun b z h h' => up_ne (by omega))) (wI_rep ws) (up_eq rfl)
  refine ⟨m4, t1, fun b z => ?_, t3, t4, t5⟩
  by_cases e5 : b = 40 ∧ z = 2 ∨ 41 ≤ b ∧ b ≤ 53
  · exact Or.inl e5
  · right
    rw [kpt_at t2 e5]
    by_cases e6 : b = 40
    · subst e6
      rw [up_nj (by omega), y2 _ _ (by omega) (by omega)]
    · rw [up_ne e6, y2 _ _ (by omega) (by omega)]
theorem L29_54 {d : Nat} {L : j_B} {K : PK} {most : Nat} : ∀ n t : Nat, t + n = most → most ≤ 12 → ∀ (s : Int) (T : TB) (U : CU) (m : j_M0) (o4 : Option j_V), (s = 3 → cN U + n ≤ 12) → vC 55 T m → vP 35 K m → uC 64 (pN K) U m → wI K U T → m 54 2 = s → ∃ m', j_fin (c_call (d + 4)) 29 28 [some (jR 54), some (jR 35), some (jI most), some (jI t), o4] [] (hH L m) = some (some (jI (workF K n s T U).1), hH L m') ∧ kpt (fun b z => b = 54 ∧ z = 2 ∨ 55 ≤ b ∧ b ≤ 67) m m' ∧ vC 55 (workF K n s T U).2.1 m' ∧ uC 64 (pN K) (workF K n s T U).2.2 m' ∧ m' 54 2 = (workF K n s T U).1 := by
  intro n
  induction n with
  | zero =>
    intro t ht hm s T U m o4 hs v w u wi k
    rw [T29_28_54_35, if_neg (by omega), k]
    by_cases e : s = 3
    · subst e
      rw [if_pos rfl, show c_call (d + 4) 56 [jR 55] (hH L m) = _ from Q56_55 (d := d + 1) v wi.1]
      simp only [Option.bind_some, Option.toList_some, List.cons_append, List.nil_append]
      rw [T29_138_54_35]
      by_cases e2 : partF T < 0
      · rw [if_pos e2, workF_w e2, up_eq rfl]
        exact ⟨_, rfl, kpt_up (Or.inl ⟨rfl, rfl⟩), vC_k v (fun b z h h' => up_ne (by omega)), uC_j u (vP_ok w).2.1 (fun b z h h' => up_ne (by omega)), up_eq rfl⟩
      · rw [if_neg e2, workF_2 e2, up_eq rfl]
        exact ⟨_, rfl, kpt_up (Or.inl ⟨rfl, rfl⟩), vC_k v (fun b z h h' => up_ne (by omega)), uC_j u (vP_ok w).2.1 (fun b z h h' => up_ne (by omega)), up_eq rfl⟩
    · rw [if_neg e, workF_n e]
      exact ⟨m, rfl, kpt_rfl, v, u, k⟩
  | succ n ih =>
    intro t ht hm s T U m o4 hs v w u wi k
    have n5 := (vP_ok w).2.1
    have n8 := (vP_ok w).2.2.1
    rw [T29_28_54_35, if_pos (by omega), k]
    by_cases e : s = 3
    · subst e
      have hN := hs rfl
      have q56 : c_call (d + 4) 56 [jR 55] (hH L m) = some (some (jI (partF T)), hH L m) := Q56_55 (d := d + 1) v wi.1
      rw [if_pos rfl, q56]
      simp only [Option.bind_some, Option.toList_some, List.cons_append, List.nil_append]
      rw [T29_48_54_35]
      by_cases e2 : partF T < 0
      · rw [if_pos e2, if_pos k, q56]
        simp only [Option.bind_some, Option.toList_some, List.cons_append, List.nil_append]
        rw [T29_138_54_35, if_pos e2, workF_w e2, up_eq rfl]
        exact ⟨_, rfl, kpt_up (Or.inl ⟨rfl, rfl⟩), vC_k v (fun b z h h' => up_ne (by omega)), uC_j u (vP_ok w).2.1 (fun b z h h' => up_ne (by omega)), up_eq rfl⟩
      · have b1 := partF_b T
        obtain ⟨r, hr⟩ : ∃ r : Nat, partF T = r := ⟨_, (Int.toNat_of_nonneg (by omega)).symm⟩
        have hr' : (partF T).toNat = r := by omega
        obtain ⟨f, m1, g1, g2, g3⟩ := Q4_64 (d := d) (L := L) v wi.1 w u wi.2.2.2.1 wi.2.2.2.2 (by omega) (show r < tR T by omega)
        rw [if_neg e2, hr, g1]
        simp only [Option.bind_some, Option.toList_some, List.cons_append, List.nil_append]
        rw [T29_72_54_35]
        have v1 : vC 55 T m1 := vC_k v (fun b z h h' => kpt_at g2 (by omega))
        have w1 : vP 35 K m1 := vP_k w (fun b z h h' => kpt_at g2 (by omega))
        have k1 : m1 54 2 = 3 := (kpt_at g2 (by omega)).trans k
        rcases g3 with ⟨rfl, n1, n2⟩ | ⟨rfl, n1, n2⟩
        · have ht2 : tellB K U T (partF T).toNat := by rw [hr']; exact n1
          rw [if_neg (by omega), workF_y e2 ht2, hr']
          have hNu : cN (mkU K U T r) = cN U + 1 := rfl
          have wm := wI_mid (vP_ok w) wi (show cN U < 12 by omega) n1
          have o3 := wi.1.1
          have hRR := wi.2.2.1
          have k50 : m1 64 0 = cN (mkU K U T r) := n2.1
          obtain ⟨m2, q1, q2, q3⟩ := Q42_55 (d := d) (L := L) v1 wi.1 (x := 20 + (cN U : Int)) (by omega) (by omega) (show r < tR T by omega)
          rw [k50, hNu, w32_id (x := 20 + ((cN U + 1 : Nat) : Int)) (by omega) (by omega), w32_id (by omega) (by omega), show (20 + ((cN U + 1 : Nat) : Int) - 1) = 20 + (cN U : Int) by omega, show c_call (d + 4) 42 _ _ = _ from c_call_mono q1]
          simp only [Option.bind_some, Option.toList_some, List.cons_append, List.nil_append, Option.toList_none]
          obtain ⟨m3, p1, p2, p3⟩ := Q45_55 (d := d) (L := L) q3 wm.1
          rw [T29_96_54_35, p1]
          simp only [Option.bind_some, Option.toList_some, List.cons_append, List.nil_append]
          rw [T29_104_54_35, nat1 (by omega)]
          have y2 : ∀ b z, (b < 55 ∨ 63 < b) → m3 b z = m1 b z := fun b z h => (kpt_at p2 (by omega)).trans (kpt_at q2 (by omega))
          obtain ⟨m4, t1, t2, t3, t4, t5⟩ := ih (t + 1) (by omega) hm (nexT U T r).1 (nexT U T r).2 (mkU K U T r) (j_up m3 54 2 (nexT U T r).1) (some (jI r)) (fun _ => by omega) (vC_k p3 (fun b z h h' => up_ne (by omega))) (vP_k w1 (fun b z h h' => (up_ne (by omega)).trans (y2 _ _ (by omega)))) (uC_j n2 n5 (fun b z h h' => (up_ne (by omega)).trans (y2 _ _ (by omega)))) (wI_rep wm) (up_eq rfl)
          refine ⟨m4, t1, fun b z => ?_, t3, t4, t5⟩
          by_cases e5 : b = 54 ∧ z = 2 ∨ 55 ≤ b ∧ b ≤ 67
          · exact Or.inl e5
          · right
            rw [kpt_at t2 e5]
            by_cases e6 : b = 54
            · subst e6
              rw [up_nj (by omega), y2 _ _ (by omega), kpt_at g2 (by omega)]
            · rw [up_ne e6, y2 _ _ (by omega), kpt_at g2 (by omega)]
        · have ht2 : ¬ tellB K U T (partF T).toNat := by
            rw [hr']
            intro h
            obtain ⟨p, hp, hq⟩ := n1
            exact hq (h p hp)
          rw [if_pos rfl, workF_f e2 ht2, nat1 (by omega)]
          obtain ⟨m4, t1, t2, t3, t4, t5⟩ := ih (t + 1) (by omega) hm (-6) T U (j_up m1 54 2 (-6)) (some (jI r)) (fun h => absurd h (by decide)) (vC_k v1 (fun b z h h' => up_ne (by omega))) (vP_k w1 (fun b z h h' => up_ne (by omega))) (uC_j n2 n5 (fun b z h h' => up_ne (by omega))) wi (up_eq rfl)
          rw [workF_n (show (-6 : Int) ≠ 3 by decide)] at t1 t3 t4 t5
          refine ⟨m4, t1, fun b z => ?_, t3, t4, t5⟩
          by_cases e5 : b = 54 ∧ z = 2 ∨ 55 ≤ b ∧ b ≤ 67
          · exact Or.inl e5
          · right
            rw [kpt_at t2 e5]
            by_cases e6 : b = 54
            · subst e6
              rw [up_nj (by omega), kpt_at g2 (by omega)]
            · rw [up_ne e6, kpt_at g2 (by omega)]
    · rw [if_neg e, if_neg e, workF_n e]
      exact ⟨m, rfl, kpt_rfl, v, u, k⟩
theorem Q29_54 {d : Nat} {L : j_B} {K : PK} {m : j_M0} (w : vP 35 K m) {k : Nat} (hk : k ≤ 12) : ∃ m', c_call (d + 5) 29 [jR 54, jR 35, jI k] (hH L m) = some (some (jI (solF K k).1), hH L m') ∧ kpt (fun b z => b = 54 ∧ z = 2 ∨ 55 ≤ b ∧ b ≤ 67) m m' ∧ vC 55 (solF K k).2.1 m' ∧ uC 64 (pN K) (solF K k).2.2 m' ∧ m' 54 2 = (solF K k).1 := by
  have ok := vP_ok w
  have n5 := ok.2.1
  have ws := staF_w ok
  obtain ⟨m1, q1, q2, q3⟩ := Q38_55_35 (d := d + 1) (L := L) w
  rw [E29, T29_0_54_35, show c_call (d + 4) 38 _ _ = _ from q1]
  simp only [Option.bind_some, Option.toList_some, List.cons_append, List.nil_append, Option.toList_none]
  rw [T29_8_54_35, E1, T1_0_64]
  simp only [Option.bind_some, Option.toList_some, List.cons_append, List.nil_append, Option.toList_none]
  have u1 : uC 64 (pN K) U0 (j_up m1 64 0 0) := ⟨up_eq rfl, fun k h => absurd h (Nat.not_lt_zero k), fun k p h => absurd h (Nat.not_lt_zero k), fun k p h => absurd h (Nat.not_lt_zero k), fun k p h => absurd h (Nat.not_lt_zero k)⟩
  have v1 : vC 55 (staF K (pR K)) (j_up m1 64 0 0) := vC_k q3 (fun b z h h' => up_ne (by omega))
  obtain ⟨m2, p1, p2, p3⟩ := Q45_55 (d := d) (L := L) v1 ws.1
  rw [T29_15_54_35, p1]
  simp only [Option.bind_some, Option.toList_some, List.cons_append, List.nil_append]
  rw [T29_23_54_35]
  have y2 : ∀ b z, (b < 55 ∨ 63 < b) → ¬ (b = 64 ∧ z = 0) → m2 b z = m b z := fun b z h h' => by
    rw [kpt_at p2 (by omega)]
    by_cases e : b = 64
    · subst e
      rw [up_nj (by omega), kpt_at q2 (by omega)]
    · rw [up_ne e, kpt_at q2 (by omega)]
  have u2 : uC 64 (pN K) U0 m2 := uC_j u1 n5 (fun b z h h' => kpt_at p2 (by omega))
  obtain ⟨m4, t1, t2, t3, t4, t5⟩ := L29_54 (d := d) (L := L) k 0 (by omega) hk (repF 61 (staF K (pR K))).1 (repF 61 (staF K (pR K))).2 U0 (j_up m2 54 2 (repF 61 (staF K (pR K))).1) none (fun _ => by
    show 0 + k ≤ 12
    omega) (vC_k p3 (fun b z h h' => up_ne (by omega))) (vP_k w (fun b z h h' => (up_ne (by omega)).trans (y2 _ _ (by omega) (by omega)))) (uC_j u2 n5 (fun b z h h' => up_ne (by omega))) (wI_rep ws) (up_eq rfl)
  refine ⟨m4, t1, fun b z => ?_, t3, t4, t5⟩
  by_cases e5 : b = 54 ∧ z = 2 ∨ 55 ≤ b ∧ b ≤ 67
  · exact Or.inl e5
  · right
    rw [kpt_at t2 e5]
    by_cases e6 : b = 54
    · subst e6
      rw [up_nj (by omega), y2 _ _ (by omega) (by omega)]
    · rw [up_ne e6, y2 _ _ (by omega) (by omega)]
theorem Q30 {d : Nat} {L : j_B} {K : PK} {m : j_M0} (w : vP 35 K m) : ∃ m', c_call (d + 6) 30 [jR 54, jR 35] (hH L m) = some (some (jI (worF K)), hH L m') ∧ kpt (fun b z => b = 54 ∧ z = 2 ∨ 55 ≤ b ∧ b ≤ 67) m m' ∧ vC 55 (solF K 12).2.1 m' ∧ m' 54 2 = (solF K 12).1 := by
  obtain ⟨m1, q1, q2, q3, q4, q5⟩ := Q29_54 (d := d) (L := L) w (show 12 ≤ 12 by omega)
  have p := solF_p (vP_ok w) (show 12 ≤ 12 by omega)
  have o := p.1.1
  rw [E30, T30_0, show (12 : Int) = ((12 : Nat) : Int) from rfl, q1]
  simp only [Option.bind_some, Option.toList_some, List.cons_append, List.nil_append]
  rw [T30_7]
  have k3 : m1 55 3 = tB (solF K 12).2.1 := q3.2.2.2.1
  have r7 := o.2.2.2.2.2.2.1
  have r8 := o.2.2.2.2.2.2.2.1
  have r5 := o.2.2.2.2.1
  have a1 := ed_r (x := tB (solF K 12).2.1) (y := tD (solF K 12).2.1) (by omega)
  unfold worF
  by_cases e : (solF K 12).1 = 1
  · rw [if_pos e, if_pos e, k3, show c_call (d + 5) 44 _ _ = _ from Q44_55 (d := d + 3) q3 o (x := tB (solF K 12).2.1) (by omega) (by omega)]
    simp only [Option.bind_some, Option.toList_some, List.cons_append, List.nil_append]
    rw [T30_27, w32_id (by omega) (by omega)]
    exact ⟨m1, rfl, q2, q3, q5⟩
  · rw [if_neg e, if_neg e]
    by_cases e2 : (solF K 12).1 = 0
    · rw [if_pos e2, if_pos e2]
      exact ⟨m1, rfl, q2, q3, q5⟩
    · rw [if_neg e2, if_neg e2]
      exact ⟨m1, rfl, q2, q3, q5⟩
