/-! What the constructors leave; the goal. -/
/-! What the constructors leave. -/
theorem b_f_t1 : ∀ i : Nat, i < 6 → b_hm 1 i = tenF i := by decide +kernel
theorem b_f_g : ∀ i : Nat, i < 150 → b_hm 110 i = (if i = 0 then 2 else if i = 2 then 1 else if i = 3 then 4 else if 7 ≤ i ∧ i < 12 then 1 else 0) := by decide +kernel
theorem b_f_c5 : ∀ i : Nat, i < 5 → b_hm 5 i = 1 := by decide +kernel
theorem b_f_c6 : ∀ i : Nat, i < 8 → b_hm 6 i = 0 ∧ b_hm 7 i = 0 ∧ b_hm 13 i = 0 := by decide +kernel
theorem b_f_c8 : ∀ i : Nat, i < 40 → b_hm 8 i = 0 := by decide +kernel
theorem b_f_tp : ∀ i : Nat, i < 6 → b_hm 99 i = -1 ∧ b_hm 151 i = -1 ∧ b_hm 100 i = 0 ∧ b_hm 152 i = 0 := by decide +kernel
theorem b_f_one : b_hm 4 0 = 2 ∧ b_hm 4 1 = 0 ∧ b_hm 9 0 = 0 ∧ b_hm 3 3 = 1 ∧ b_hm 3 4 = 4 ∧ b_hm 3 5 = 0 ∧ b_hm 3 8 = 0 ∧ b_hm 2 12 = 0 ∧ b_hm 109 3 = 0 ∧ b_hm 2 11 = 0 ∧ b_hm 115 18 = 0 ∧ b_hm 93 0 = 0 ∧ b_hm 109 6 = 0 := by decide +kernel
theorem b_ne {xs : Nat → Int32} {a i : Nat} (h : a ≠ 0) : b_m xs a i = b_hm a i := if_neg h
theorem begG_X' {g : Nat → Int} {v : Int} (x3 : 0 ≤ g 3 ∧ g 3 ≤ 6) : gX (begG g v) := by
  unfold gX
  rw [begG_2, begG_3, begG_z (i := 4) (by omega), begG_z (i := 5) (by omega), begG_z (i := 6) (by omega)]
  refine ⟨fun r hr => ?_, by omega, x3, by omega, fun k hk => by omega, by omega, fun k hk => by omega, by omega, fun k hk => by omega, fun i j hij hj => by omega⟩
  rw [begG_z (i := 68 + r) (by omega)]; omega
theorem Rel_0 (xs : Nat → Int32) : Rel xs (b_m xs) := by
  obtain ⟨o1, o2, o3, o4, o5, o6, o7, o8, o9, o10, o11, o12, o13⟩ := b_f_one
  obtain ⟨g0, hg0⟩ : ∃ g0 : Nat → Int, g0 = fun i => if i = 3 then 4 else b_m xs 110 i := ⟨_, rfl⟩
  have h3 : g0 3 = 4 := by rw [hg0]; exact if_pos rfl
  have eg : b_m xs 110 = begG g0 2 := funext (fun i => by
    unfold begG
    by_cases c : i < 150
    · rw [b_ne (by decide), b_f_g i c, h3]
      by_cases c0 : i = 0
      · rw [if_pos c0, if_pos c0]
      · rw [if_neg c0, if_neg c0]
        by_cases c2 : i = 2
        · rw [if_pos c2, if_pos c2]
        · rw [if_neg c2, if_neg c2]
          by_cases c3 : i = 3
          · rw [if_pos c3, if_pos c3]
          · rw [if_neg c3, if_neg c3]
            by_cases c7 : 7 ≤ i ∧ i < 12
            · rw [if_pos c7, if_pos c7]
            · rw [if_neg c7, if_neg c7, if_pos c]
    · rw [if_neg (by omega), if_neg (by omega), if_neg (by omega), if_neg (by omega), if_neg c, hg0]
      show _ = if i = 3 then 4 else b_m xs 110 i
      rw [if_neg (by omega)])
  have z : ∀ i : Nat, i ≠ 0 ∧ i ≠ 2 ∧ i ≠ 3 ∧ ¬ (7 ≤ i ∧ i < 12) ∧ i < 150 → begG g0 2 i = 0 := fun i h => begG_z h
  refine ⟨⟨fun i => if_pos rfl, fun i hi => (b_ne (by decide)).trans (b_f_t1 i hi)⟩, by rw [eg]; exact begG_R (by decide), by rw [eg]; exact begG_X' (by rw [h3]; decide), ?_, Or.inl ⟨(b_ne (by decide)).trans o8, (b_ne (by decide)).trans o9⟩, Or.inl ⟨(b_ne (by decide)).trans o10, (b_ne (by decide)).trans o11⟩, ?_, ?_⟩
  · rw [eg]
    have m4 : b_m xs 4 0 = 2 := (b_ne (by decide)).trans o1
    have m41 : b_m xs 4 1 = 0 := (b_ne (by decide)).trans o2
    have m9 : b_m xs 9 0 = 0 := (b_ne (by decide)).trans o3
    refine ⟨⟨⟨?_, ?_, ?_, ?_, fun p hp => ?_, fun r hr => ?_, fun i hi => ?_⟩, ?_, ?_, fun p hp => ?_, fun r hr => ?_, fun r p hr hp => ?_⟩, ofR_0 (a := 9) m9 (z 6 (by omega)), fun r hr => ?_, ?_, ?_, ?_, fun k hk => ?_, ?_, fun k hk => ?_⟩
    · rw [m4]; decide
    · rw [m4]; decide
    · rw [m41]; decide
    · rw [m41]; decide
    · rw [b_ne (by decide), b_f_c5 p hp]; decide
    · rw [b_ne (by decide), b_ne (by decide), (b_f_c6 r hr).1, (b_f_c6 r hr).2.1]; decide
    · rw [b_ne (by decide), b_f_c8 i hi]; decide
    · rw [m4, begG_0]
    · rw [m41, z 1 (by omega)]
    · rw [b_ne (by decide), b_f_c5 p hp, begG_c (by omega)]
    · rw [z 1 (by omega)] at hr; omega
    · rw [z 1 (by omega)] at hr; omega
    · rw [z _ (by omega), show 3 + 10 = 13 from rfl, b_ne (by decide)]
      exact (b_f_c6 r hr).2.2
    · rw [b_ne (by decide), begG_2]; exact o4
    · rw [b_ne (by decide), begG_3, h3]; exact o5
    · rw [b_ne (by decide), z 4 (by omega)]; exact o6
    · rw [z 4 (by omega)] at hk; omega
    · rw [b_ne (by decide), z 5 (by omega)]; exact o7
    · rw [z 5 (by omega)] at hk; omega
  · have m93 : b_m xs 93 0 = 0 := (b_ne (by decide)).trans o12
    refine ⟨?_, ?_, ?_, fun i hi => ?_⟩
    · rw [m93, b_ne (by decide)]; exact o13.symm
    · rw [m93]; decide
    · rw [m93]; decide
    · rw [m93] at hi; omega
  · refine ⟨fun t ht => ?_, fun t i ht hi => ?_⟩
    · obtain ⟨t1, t2, t3, t4⟩ := b_f_tp t ht
      rw [b_ne (by decide), b_ne (by decide), b_ne (by decide), b_ne (by decide), t1, t2, t3, t4]
      decide
    · obtain ⟨t1, t2, t3, t4⟩ := b_f_tp t ht
      rw [b_ne (by decide), t3] at hi
      omega
set_option maxRecDepth 100000 in
theorem KR_s (L : Nat) : ((j_KR L).map (fun q => q.2)).sum = L + 6559 := by
  unfold j_KR
  simp only [List.map_cons, List.map_nil, List.sum_cons, List.sum_nil, Nat.reduceAdd]
theorem l_goal : l_Goal := fun L xs hL => by
  obtain ⟨m, h⟩ := law_loop (L := L) (xs := xs) hL (L / 6 + 1) 0 (b_m xs) (by omega) (by omega) (Rel_0 xs)
  obtain ⟨h0, e1, e2⟩ := b_end h
  have h1 : h0.1.length = 160 := by rw [e2]; exact q_KRl L
  have h2 : s_sl h0 = L + 6559 := by
    unfold s_sl
    rw [e2]
    exact KR_s L
  exact ⟨h0, e1, by omega, by omega⟩
