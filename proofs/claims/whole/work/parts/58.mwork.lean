/-! The model solves. -/
theorem uM_j {u n : Nat} {U : CU} {m m' : j_M0} (v : uM u n U m) (hn : n ≤ 5) (k : ∀ b s, (b = u ∧ s = 16) ∨ (u + 9 ≤ b ∧ b ≤ u + 12) → m' b s = m b s) : uM u n U m' := uM_k v hn (fun b s => ⟨fun h h' => k _ _ (by omega), fun h h' => k _ _ (by omega), fun h h' => k _ _ (by omega), fun h h' => k _ _ (by omega), fun h h' => k _ _ (by omega)⟩)
theorem repM_n {s : Int} (h : s ≠ 3) : repM s = s := by unfold repM; rw [if_neg h]
theorem L191_115 {d L : Nat} {K : PK} {k : Nat} (ok : pOK K) (hk : k ≤ 12) : ∀ (n : Nat) (s : Int) (T : TB) (U : CU) (m : j_M0) (o4 : Option j_V), (s = 3 → cN U + n = k) → (s = 3 ∨ s = 0 ∨ s = -6) → vM 115 T m → vG K m → uM 115 (pN K) U m → wI K U T → m 115 19 = 0 → ∃ m', j_fin (c_call (d + 5)) 191 11 [some (jR 109), some (jR 115), some (jI k), some (jI (repM s)), o4] [] (hH L m) = some (some (jI (workF K n s T U).1), hH L m') ∧ kpt (fun b z => 115 ≤ b ∧ b ≤ 127 ∧ (b = 115 → z ≠ 18)) m m' ∧ vM 115 (workF K n s T U).2.1 m' ∧ uM 115 (pN K) (workF K n s T U).2.2 m' ∧ m' 115 19 = (if (workF K n s T U).1 = 1 then 1 else 0) := by
  have n5 := ok.2.1
  have n8 := ok.2.2.1
  intro n
  induction n with
  | zero =>
    intro s T U m o4 hs hs3 v w uu wi kz
    rw [T191_11_109_115]
    by_cases e : s = 3
    · subst e
      have hN := hs rfl
      rw [show repM 3 = 1 from rfl, if_pos rfl, show c_call (d + 5) 185 _ (hH L m) = _ from Q185_115 (d := d + 4) v wi.1]
      simp only [Option.bind_some, Option.toList_some, List.cons_append, List.nil_append]
      rw [T191_21_109_115]
      by_cases e2 : partF T < 0
      · rw [if_pos e2, workF_w e2, if_neg (by rw [up_eq rfl]; decide)]
        exact ⟨_, rfl, kpt_up ⟨by omega, by omega, fun _ => by decide⟩, vM_j v (fun b z h h' => by
          by_cases e5 : b = 115
          · subst e5; exact up_nj (by omega)
          · exact up_ne e5), uM_j uu n5 (fun b z h => by
          by_cases e5 : b = 115
          · subst e5; exact up_nj (by omega)
          · exact up_ne e5), up_eq rfl⟩
      · have k16 := uu.1
        rw [if_neg e2, workF_2 e2, if_pos (up_eq rfl), up_nj (by omega), if_pos (by omega)]
        exact ⟨_, rfl, kpt_up ⟨by omega, by omega, fun _ => by decide⟩, vM_j v (fun b z h h' => by
          by_cases e5 : b = 115
          · subst e5; exact up_nj (by omega)
          · exact up_ne e5), uM_j uu n5 (fun b z h => by
          by_cases e5 : b = 115
          · subst e5; exact up_nj (by omega)
          · exact up_ne e5), up_eq rfl⟩
    · rw [repM_n e, if_neg (by omega), workF_n e]
      exact ⟨m, rfl, kpt_rfl, v, uu, by rw [kz, if_neg (by show ¬ s = 1; omega)]⟩
  | succ n ih =>
    intro s T U m o4 hs hs3 v w uu wi kz
    rw [T191_11_109_115]
    by_cases e : s = 3
    · subst e
      have hN := hs rfl
      rw [show repM 3 = 1 from rfl, if_pos rfl, show c_call (d + 5) 185 _ (hH L m) = _ from Q185_115 (d := d + 4) v wi.1]
      simp only [Option.bind_some, Option.toList_some, List.cons_append, List.nil_append]
      rw [T191_21_109_115]
      by_cases e2 : partF T < 0
      · rw [if_pos e2, workF_w e2, if_neg (by rw [up_eq rfl]; decide)]
        exact ⟨_, rfl, kpt_up ⟨by omega, by omega, fun _ => by decide⟩, vM_j v (fun b z h h' => by
          by_cases e5 : b = 115
          · subst e5; exact up_nj (by omega)
          · exact up_ne e5), uM_j uu n5 (fun b z h => by
          by_cases e5 : b = 115
          · subst e5; exact up_nj (by omega)
          · exact up_ne e5), up_eq rfl⟩
      · have k16 := uu.1
        have b1 := partF_b T
        have o3 := wi.1.1
        have hRR := wi.2.2.1
        obtain ⟨r, hr⟩ : ∃ r : Nat, partF T = r := ⟨_, (Int.toNat_of_nonneg (by omega)).symm⟩
        have hr' : (partF T).toNat = r := by omega
        have v0 : vM 115 T (j_up m 115 19 0) := vM_j v (fun b z h h' => by
          by_cases e5 : b = 115
          · subst e5; exact up_nj (by omega)
          · exact up_ne e5)
        have u0 : uM 115 (pN K) U (j_up m 115 19 0) := uM_j uu n5 (fun b z h => by
          by_cases e5 : b = 115
          · subst e5; exact up_nj (by omega)
          · exact up_ne e5)
        have w0 : vG K (j_up m 115 19 0) := vG_k w (fun z => up_ne (by omega))
        have k0 : (j_up m 115 19 0) 115 19 = 0 := up_eq rfl
        rw [if_neg e2, if_pos (up_eq rfl), up_nj (by omega), if_neg (by omega)]
        generalize hm0 : j_up m 115 19 0 = m0
        rw [hm0] at v0 u0 w0 k0
        have g0 : ∀ b z, ¬ (115 ≤ b ∧ b ≤ 127 ∧ (b = 115 → z ≠ 18)) → m0 b z = m b z := fun b z h => by
          rw [← hm0]
          by_cases e5 : b = 115
          · subst e5; exact up_nj (by omega)
          · exact up_ne e5
        obtain ⟨f, m1, g1, g2, g3⟩ := Q189_115 (d := d) (L := L) v0 wi.1 w0 u0 wi.2.1 ok wi.2.2.2.1 (by omega) (by omega) wi.2.2.2.2 (show r < tR T by omega)
        rw [hr, g1]
        simp only [Option.bind_some, Option.toList_some, List.cons_append, List.nil_append]
        rw [T191_63_109_115]
        have w1 : vG K m1 := vG_k w0 (fun z => kpt_at g2 (by omega))
        have k1 : m1 115 19 = 0 := (kpt_at g2 (by omega)).trans k0
        rcases g3 with ⟨rfl, n1, n2, n3⟩ | ⟨rfl, n1, n2, n3⟩
        · have ht2 : tellB K U T (partF T).toNat := by rw [hr']; exact n1
          rw [if_neg (by omega), workF_y e2 ht2, hr']
          have hNu : cN (mkU K U T r) = cN U + 1 := rfl
          have wm := wI_mid ok wi (show cN U < 12 by omega) n1
          obtain ⟨m3, p1, p2, p3⟩ := Q183_115 (d := d + 1) (L := L) n3 wm.1
          rw [show c_call (d + 5) 183 _ _ = _ from p1]
          simp only [Option.bind_some, Option.toList_some, List.cons_append, List.nil_append]
          rw [T191_71_109_115]
          have q := repF_p 61 _ wm.1
          obtain ⟨m4, t1, t2, t3, t4, t5⟩ := ih (nexT U T r).1 (nexT U T r).2 (mkU K U T r) m3 (some (jI r)) (fun _ => by omega) q.2.2.2.2.2 p3 (vG_k w1 (fun z => kpt_at p2 (by omega))) (uM_j n2 n5 (fun b z h => kpt_at p2 (by omega))) (wI_rep wm) ((kpt_at p2 (by omega)).trans k1)
          refine ⟨m4, t1, fun b z => ?_, t3, t4, t5⟩
          by_cases e5 : 115 ≤ b ∧ b ≤ 127 ∧ (b = 115 → z ≠ 18)
          · exact Or.inl e5
          · right
            rw [kpt_at t2 e5, kpt_at p2 (by omega), kpt_at g2 (by omega), g0 _ _ e5]
        · have ht2 : ¬ tellB K U T (partF T).toNat := by
            rw [hr']
            intro h
            obtain ⟨p, hp, hq⟩ := n1
            exact hq (h p hp)
          rw [if_pos rfl, workF_f e2 ht2, T191_11_109_115, if_neg (by decide)]
          refine ⟨m1, rfl, fun b z => ?_, n3, n2, by rw [k1]; rfl⟩
          by_cases e5 : 115 ≤ b ∧ b ≤ 127 ∧ (b = 115 → z ≠ 18)
          · exact Or.inl e5
          · right
            rw [kpt_at g2 (by omega), g0 _ _ e5]
    · rw [repM_n e, if_neg (by omega), workF_n e]
      exact ⟨m, rfl, kpt_rfl, v, uu, by rw [kz, if_neg (by show ¬ s = 1; omega)]⟩
theorem Q191_115 {d L : Nat} {K : PK} {m : j_M0} (w : vG K m) (ok : pOK K) {k : Nat} (hk : k ≤ 12) : ∃ m', c_call (d + 6) 191 [jR 109, jR 115, jI k] (hH L m) = some (some (jI (solF K k).1), hH L m') ∧ kpt (fun b _ => 115 ≤ b ∧ b ≤ 127) m m' ∧ vM 115 (solF K k).2.1 m' ∧ uM 115 (pN K) (solF K k).2.2 m' ∧ m' 115 19 = (if (solF K k).1 = 1 then 1 else 0) ∧ m' 115 18 = 1 := by
  have n5 := ok.2.1
  have ws := staF_w ok
  obtain ⟨m1, q1, q2, q3, q4, q5, q6⟩ := Q178_115 (d := d + 2) (L := L) w
  rw [E191, T191_0_109_115, show c_call (d + 5) 178 _ _ = _ from q1]
  simp only [Option.bind_some, Option.toList_some, List.cons_append, List.nil_append, Option.toList_none]
  obtain ⟨m2, p1, p2, p3⟩ := Q183_115 (d := d + 1) (L := L) q3 ws.1
  rw [T191_5_109_115, show c_call (d + 5) 183 _ _ = _ from p1]
  simp only [Option.bind_some, Option.toList_some, List.cons_append, List.nil_append]
  rw [T191_10_109_115]
  have u2 : uM 115 (pN K) U0 m2 := ⟨(kpt_at p2 (by omega)).trans q4, fun k h => absurd h (Nat.not_lt_zero k), fun k p h => absurd h (Nat.not_lt_zero k), fun k h => absurd h (Nat.not_lt_zero k), fun k p h => absurd h (Nat.not_lt_zero k)⟩
  have q := repF_p 61 _ ws.1
  obtain ⟨m4, t1, t2, t3, t4, t5⟩ := L191_115 (d := d) (L := L) ok hk k (repF 61 (staF K (pR K))).1 (repF 61 (staF K (pR K))).2 U0 m2 none (fun _ => by
    show 0 + k = k
    omega) q.2.2.2.2.2 p3 (vG_k w (fun z => (kpt_at p2 (by omega)).trans (kpt_at q2 (by omega)))) u2 (wI_rep ws) ((kpt_at p2 (by omega)).trans q6)
  refine ⟨m4, t1, fun b z => ?_, t3, t4, t5, (kpt_at t2 (by omega)).trans ((kpt_at p2 (by omega)).trans q5)⟩
  by_cases e5 : 115 ≤ b ∧ b ≤ 127
  · exact Or.inl e5
  · right
    rw [kpt_at t2 (by omega), kpt_at p2 (by omega), kpt_at q2 (by omega)]
theorem L191_128 {d L : Nat} {K : PK} {k : Nat} (ok : pOK K) (hk : k ≤ 12) : ∀ (n : Nat) (s : Int) (T : TB) (U : CU) (m : j_M0) (o4 : Option j_V), (s = 3 → cN U + n = k) → (s = 3 ∨ s = 0 ∨ s = -6) → vM 128 T m → vG K m → uM 128 (pN K) U m → wI K U T → m 128 19 = 0 → ∃ m', j_fin (c_call (d + 5)) 191 11 [some (jR 109), some (jR 128), some (jI k), some (jI (repM s)), o4] [] (hH L m) = some (some (jI (workF K n s T U).1), hH L m') ∧ kpt (fun b z => 128 ≤ b ∧ b ≤ 140 ∧ (b = 128 → z ≠ 18)) m m' ∧ vM 128 (workF K n s T U).2.1 m' ∧ uM 128 (pN K) (workF K n s T U).2.2 m' ∧ m' 128 19 = (if (workF K n s T U).1 = 1 then 1 else 0) := by
  have n5 := ok.2.1
  have n8 := ok.2.2.1
  intro n
  induction n with
  | zero =>
    intro s T U m o4 hs hs3 v w uu wi kz
    rw [T191_11_109_128]
    by_cases e : s = 3
    · subst e
      have hN := hs rfl
      rw [show repM 3 = 1 from rfl, if_pos rfl, show c_call (d + 5) 185 _ (hH L m) = _ from Q185_128 (d := d + 4) v wi.1]
      simp only [Option.bind_some, Option.toList_some, List.cons_append, List.nil_append]
      rw [T191_21_109_128]
      by_cases e2 : partF T < 0
      · rw [if_pos e2, workF_w e2, if_neg (by rw [up_eq rfl]; decide)]
        exact ⟨_, rfl, kpt_up ⟨by omega, by omega, fun _ => by decide⟩, vM_j v (fun b z h h' => by
          by_cases e5 : b = 128
          · subst e5; exact up_nj (by omega)
          · exact up_ne e5), uM_j uu n5 (fun b z h => by
          by_cases e5 : b = 128
          · subst e5; exact up_nj (by omega)
          · exact up_ne e5), up_eq rfl⟩
      · have k16 := uu.1
        rw [if_neg e2, workF_2 e2, if_pos (up_eq rfl), up_nj (by omega), if_pos (by omega)]
        exact ⟨_, rfl, kpt_up ⟨by omega, by omega, fun _ => by decide⟩, vM_j v (fun b z h h' => by
          by_cases e5 : b = 128
          · subst e5; exact up_nj (by omega)
          · exact up_ne e5), uM_j uu n5 (fun b z h => by
          by_cases e5 : b = 128
          · subst e5; exact up_nj (by omega)
          · exact up_ne e5), up_eq rfl⟩
    · rw [repM_n e, if_neg (by omega), workF_n e]
      exact ⟨m, rfl, kpt_rfl, v, uu, by rw [kz, if_neg (by show ¬ s = 1; omega)]⟩
  | succ n ih =>
    intro s T U m o4 hs hs3 v w uu wi kz
    rw [T191_11_109_128]
    by_cases e : s = 3
    · subst e
      have hN := hs rfl
      rw [show repM 3 = 1 from rfl, if_pos rfl, show c_call (d + 5) 185 _ (hH L m) = _ from Q185_128 (d := d + 4) v wi.1]
      simp only [Option.bind_some, Option.toList_some, List.cons_append, List.nil_append]
      rw [T191_21_109_128]
      by_cases e2 : partF T < 0
      · rw [if_pos e2, workF_w e2, if_neg (by rw [up_eq rfl]; decide)]
        exact ⟨_, rfl, kpt_up ⟨by omega, by omega, fun _ => by decide⟩, vM_j v (fun b z h h' => by
          by_cases e5 : b = 128
          · subst e5; exact up_nj (by omega)
          · exact up_ne e5), uM_j uu n5 (fun b z h => by
          by_cases e5 : b = 128
          · subst e5; exact up_nj (by omega)
          · exact up_ne e5), up_eq rfl⟩
      · have k16 := uu.1
        have b1 := partF_b T
        have o3 := wi.1.1
        have hRR := wi.2.2.1
        obtain ⟨r, hr⟩ : ∃ r : Nat, partF T = r := ⟨_, (Int.toNat_of_nonneg (by omega)).symm⟩
        have hr' : (partF T).toNat = r := by omega
        have v0 : vM 128 T (j_up m 128 19 0) := vM_j v (fun b z h h' => by
          by_cases e5 : b = 128
          · subst e5; exact up_nj (by omega)
          · exact up_ne e5)
        have u0 : uM 128 (pN K) U (j_up m 128 19 0) := uM_j uu n5 (fun b z h => by
          by_cases e5 : b = 128
          · subst e5; exact up_nj (by omega)
          · exact up_ne e5)
        have w0 : vG K (j_up m 128 19 0) := vG_k w (fun z => up_ne (by omega))
        have k0 : (j_up m 128 19 0) 128 19 = 0 := up_eq rfl
        rw [if_neg e2, if_pos (up_eq rfl), up_nj (by omega), if_neg (by omega)]
        generalize hm0 : j_up m 128 19 0 = m0
        rw [hm0] at v0 u0 w0 k0
        have g0 : ∀ b z, ¬ (128 ≤ b ∧ b ≤ 140 ∧ (b = 128 → z ≠ 18)) → m0 b z = m b z := fun b z h => by
          rw [← hm0]
          by_cases e5 : b = 128
          · subst e5; exact up_nj (by omega)
          · exact up_ne e5
        obtain ⟨f, m1, g1, g2, g3⟩ := Q189_128 (d := d) (L := L) v0 wi.1 w0 u0 wi.2.1 ok wi.2.2.2.1 (by omega) (by omega) wi.2.2.2.2 (show r < tR T by omega)
        rw [hr, g1]
        simp only [Option.bind_some, Option.toList_some, List.cons_append, List.nil_append]
        rw [T191_63_109_128]
        have w1 : vG K m1 := vG_k w0 (fun z => kpt_at g2 (by omega))
        have k1 : m1 128 19 = 0 := (kpt_at g2 (by omega)).trans k0
        rcases g3 with ⟨rfl, n1, n2, n3⟩ | ⟨rfl, n1, n2, n3⟩
        · have ht2 : tellB K U T (partF T).toNat := by rw [hr']; exact n1
          rw [if_neg (by omega), workF_y e2 ht2, hr']
          have hNu : cN (mkU K U T r) = cN U + 1 := rfl
          have wm := wI_mid ok wi (show cN U < 12 by omega) n1
          obtain ⟨m3, p1, p2, p3⟩ := Q183_128 (d := d + 1) (L := L) n3 wm.1
          rw [show c_call (d + 5) 183 _ _ = _ from p1]
          simp only [Option.bind_some, Option.toList_some, List.cons_append, List.nil_append]
          rw [T191_71_109_128]
          have q := repF_p 61 _ wm.1
          obtain ⟨m4, t1, t2, t3, t4, t5⟩ := ih (nexT U T r).1 (nexT U T r).2 (mkU K U T r) m3 (some (jI r)) (fun _ => by omega) q.2.2.2.2.2 p3 (vG_k w1 (fun z => kpt_at p2 (by omega))) (uM_j n2 n5 (fun b z h => kpt_at p2 (by omega))) (wI_rep wm) ((kpt_at p2 (by omega)).trans k1)
          refine ⟨m4, t1, fun b z => ?_, t3, t4, t5⟩
          by_cases e5 : 128 ≤ b ∧ b ≤ 140 ∧ (b = 128 → z ≠ 18)
          · exact Or.inl e5
          · right
            rw [kpt_at t2 e5, kpt_at p2 (by omega), kpt_at g2 (by omega), g0 _ _ e5]
        · have ht2 : ¬ tellB K U T (partF T).toNat := by
            rw [hr']
            intro h
            obtain ⟨p, hp, hq⟩ := n1
            exact hq (h p hp)
          rw [if_pos rfl, workF_f e2 ht2, T191_11_109_128, if_neg (by decide)]
          refine ⟨m1, rfl, fun b z => ?_, n3, n2, by rw [k1]; rfl⟩
          by_cases e5 : 128 ≤ b ∧ b ≤ 140 ∧ (b = 128 → z ≠ 18)
          · exact Or.inl e5
          · right
            rw [kpt_at g2 (by omega), g0 _ _ e5]
    · rw [repM_n e, if_neg (by omega), workF_n e]
      exact ⟨m, rfl, kpt_rfl, v, uu, by rw [kz, if_neg (by show ¬ s = 1; omega)]⟩
theorem Q191_128 {d L : Nat} {K : PK} {m : j_M0} (w : vG K m) (ok : pOK K) {k : Nat} (hk : k ≤ 12) : ∃ m', c_call (d + 6) 191 [jR 109, jR 128, jI k] (hH L m) = some (some (jI (solF K k).1), hH L m') ∧ kpt (fun b _ => 128 ≤ b ∧ b ≤ 140) m m' ∧ vM 128 (solF K k).2.1 m' ∧ uM 128 (pN K) (solF K k).2.2 m' ∧ m' 128 19 = (if (solF K k).1 = 1 then 1 else 0) ∧ m' 128 18 = 1 := by
  have n5 := ok.2.1
  have ws := staF_w ok
  obtain ⟨m1, q1, q2, q3, q4, q5, q6⟩ := Q178_128 (d := d + 2) (L := L) w
  rw [E191, T191_0_109_128, show c_call (d + 5) 178 _ _ = _ from q1]
  simp only [Option.bind_some, Option.toList_some, List.cons_append, List.nil_append, Option.toList_none]
  obtain ⟨m2, p1, p2, p3⟩ := Q183_128 (d := d + 1) (L := L) q3 ws.1
  rw [T191_5_109_128, show c_call (d + 5) 183 _ _ = _ from p1]
  simp only [Option.bind_some, Option.toList_some, List.cons_append, List.nil_append]
  rw [T191_10_109_128]
  have u2 : uM 128 (pN K) U0 m2 := ⟨(kpt_at p2 (by omega)).trans q4, fun k h => absurd h (Nat.not_lt_zero k), fun k p h => absurd h (Nat.not_lt_zero k), fun k h => absurd h (Nat.not_lt_zero k), fun k p h => absurd h (Nat.not_lt_zero k)⟩
  have q := repF_p 61 _ ws.1
  obtain ⟨m4, t1, t2, t3, t4, t5⟩ := L191_128 (d := d) (L := L) ok hk k (repF 61 (staF K (pR K))).1 (repF 61 (staF K (pR K))).2 U0 m2 none (fun _ => by
    show 0 + k = k
    omega) q.2.2.2.2.2 p3 (vG_k w (fun z => (kpt_at p2 (by omega)).trans (kpt_at q2 (by omega)))) u2 (wI_rep ws) ((kpt_at p2 (by omega)).trans q6)
  refine ⟨m4, t1, fun b z => ?_, t3, t4, t5, (kpt_at t2 (by omega)).trans ((kpt_at p2 (by omega)).trans q5)⟩
  by_cases e5 : 128 ≤ b ∧ b ≤ 140
  · exact Or.inl e5
  · right
    rw [kpt_at t2 (by omega), kpt_at p2 (by omega), kpt_at q2 (by omega)]
theorem Q192 {d L : Nat} {K : PK} {m : j_M0} (w : vG K m) (ok : pOK K) : ∃ m', c_call (d + 7) 192 [jR 109] (hH L m) = some (some (jI (worF K)), hH L m') ∧ kpt (fun b _ => 128 ≤ b ∧ b ≤ 140) m m' ∧ vM 128 (solF K 12).2.1 m' ∧ m' 128 19 = (if (solF K 12).1 = 1 then 1 else 0) := by
  obtain ⟨m1, q1, q2, q3, q4, q5, q6⟩ := Q191_128 (d := d) (L := L) w ok (show 12 ≤ 12 by omega)
  have p := solF_p ok (show 12 ≤ 12 by omega)
  have o := p.1.1
  rw [E192, T192_0, show (12 : Int) = ((12 : Nat) : Int) from rfl, q1]
  simp only [Option.bind_some, Option.toList_some, List.cons_append, List.nil_append]
  rw [T192_10]
  have k3 : m1 128 12 = tB (solF K 12).2.1 := q3.2.2.2.1
  have k4 : m1 128 13 = tD (solF K 12).2.1 := q3.2.2.2.2.1
  have r7 := o.2.2.2.2.2.2.1
  have r8 := o.2.2.2.2.2.2.2.1
  have r5 := o.2.2.2.2.1
  have a1 := ed_r (x := tB (solF K 12).2.1) (y := tD (solF K 12).2.1) (by omega)
  have a2 := fd_0 (x := tB (solF K 12).2.1) (y := tD (solF K 12).2.1) (by omega) (by omega)
  unfold worF
  by_cases e : (solF K 12).1 = 1
  · rw [if_pos e, if_pos e, k3, k4, if_neg (by omega), ← a2, w64_id (by omega) (by omega), w32_id (by omega) (by omega)]
    exact ⟨m1, rfl, q2, q3, q5⟩
  · rw [if_neg e, if_neg e]
    by_cases e2 : (solF K 12).1 = 0
    · rw [if_pos e2, if_pos e2]
      exact ⟨m1, rfl, q2, q3, q5⟩
    · rw [if_neg e2, if_neg e2]
      exact ⟨m1, rfl, q2, q3, q5⟩
