/-! The class tells a cut. -/
theorem L5_50 {d : Nat} {L : j_B} {K : PK} {U : CU} {T : TB} {m : j_M0} (v : vC 41 T m) (o : tOK T) (w : vP 4 K m) (u : uC 50 (pN K) U m) (ou : cOK (pN K) U) (og : gOK K U T) {r p : Nat} (hr : r < tR T) (hp : p ≤ pN K) : ∀ j c : Nat, c + j = tC T → ∀ o8 o9 : Option j_V, j_fin (c_call (d + 2)) 5 42 [some (jR 50), some (jR 41), some (jI r), some (jR 4), some (jI p), some (jL (sumF K U T r p c)), none, some (jI c), o8, o9, none] [] (hH L m) = some (some (jL (sumF K U T r p (tC T))), hH L m) := by
  have ok := vP_ok w
  have o1 := ok.2.1
  have o2 := ok.2.2.1
  have o3 := o.1
  have o4 := o.2.2.1
  have k1 := v.2.1
  have cn := ou.1
  intro j
  induction j with
  | zero =>
    intro c hc o8 o9
    have hcc : c = tC T := by omega
    subst hcc
    rw [T5_42_50_41_4, if_neg (by omega)]
  | succ j ih =>
    intro c hc o8 o9
    have ih' := ih (c + 1) (by omega)
    have k2 := v.2.2.2.2.2.2.2.1 r c hr (by omega)
    have k3 := v.2.2.2.2.2.2.1 c (by omega)
    simp only [Nat.reduceAdd] at k2 k3
    have r1 := o.2.2.2.2.2.2.2.2.1 r c hr (by omega)
    have d1 := o.2.2.2.2.1
    have r2 := ed_n (x := te T r c) (y := tD T) (b := 1000000000) (by omega) (by omega) (by omega)
    have g := og.2 c (by omega)
    have s1 := sumF_r o ok ou og hr hp c (by omega)
    have s2 := termF_r o ok ou og hr hp (show c < tC T by omega)
    rw [sumF] at ih'
    unfold good at g
    unfold termF at ih' s2
    rw [T5_42_50_41_4, if_pos (by omega), if_pos (by omega)]
    simp (disch := omega) only [w32_id, show ((r : Int) * 5 + (c : Int)).toNat = 5 * r + c by omega, k2, Int.toNat_natCast, k3]
    rw [if_pos (by omega), Q44_41 v o (by omega) (by omega)]
    simp only [Option.bind_some, Option.toList_some, List.cons_append, List.nil_append]
    rw [T5_75_50_41_4, nat1 (by omega)]
    by_cases e1 : tos T c = p
    · rw [if_pos e1] at ih' s2 ⊢
      rw [w64_id (by omega) (by omega)]
      exact ih' _ _
    · rw [if_neg e1] at ih' s2 ⊢
      by_cases e2 : 20 ≤ tos T c
      · rw [if_pos e2] at ih' s2
        obtain ⟨k, hk⟩ : ∃ k : Nat, tos T c = 20 + (k : Int) := ⟨(tos T c - 20).toNat, by omega⟩
        rw [hk] at ih' s2 ⊢
        rw [show (20 + (k : Int) - 20).toNat = k by omega] at ih' s2
        rw [if_neg (by omega), w32_id (by omega) (by omega), show 20 + (k : Int) - 20 = (k : Int) by omega, Q2_50 u o1 cn (by omega) hp]
        simp only [Option.bind_some, Option.toList_some, List.cons_append, List.nil_append]
        rw [T5_116_50_41_4, nat1 (by omega), w64_id (x := te T r c / tD T * cF U k p) (by omega) (by omega), w64_id (by omega) (by omega), Int.sub_eq_add_neg]
        exact ih' _ _
      · rw [if_neg e2] at ih' s2
        rw [if_pos (by omega)]
        by_cases e3 : 10 ≤ tos T c
        · rw [if_pos e3] at ih' s2
          obtain ⟨k, hk⟩ : ∃ k : Nat, tos T c = 10 + (k : Int) := ⟨(tos T c - 10).toNat, by omega⟩
          rw [hk] at ih' s2 g ⊢
          rw [show (10 + (k : Int) - 10).toNat = k by omega] at ih' s2
          rw [if_neg (by omega), w32_id (by omega) (by omega), show 10 + (k : Int) - 10 = (k : Int) by omega, Q13f_4 w (by omega) hp]
          simp only [Option.bind_some, Option.toList_some, List.cons_append, List.nil_append]
          rw [T5_145_50_41_4, nat1 (by omega), w64_id (x := te T r c / tD T * pF K k p) (by omega) (by omega), w64_id (by omega) (by omega), Int.sub_eq_add_neg]
          exact ih' _ _
        · rw [if_neg e3, Int.add_zero] at ih'
          rw [if_pos (by omega)]
          exact ih' _ _
theorem Q5_50 {d : Nat} {L : j_B} {K : PK} {U : CU} {T : TB} {m : j_M0} (v : vC 41 T m) (o : tOK T) (w : vP 4 K m) (u : uC 50 (pN K) U m) (ou : cOK (pN K) U) (og : gOK K U T) {r p : Nat} (hr : r < tR T) (hp : p ≤ pN K) : c_call (d + 3) 5 [jR 50, jR 41, jI r, jR 4, jI p] (hH L m) = some (some (jL (sumF K U T r p (tC T))), hH L m) := by
  have ok := vP_ok w
  have o3 := o.1
  have k1 := v.2.2.2.2.2.1 r hr
  have k2 := v.2.2.2.2.2.2.2.2.1 r hr
  have k3 := w.2.1
  have r1 := o.2.2.2.2.2.2.2.2.2.1 r hr
  simp only [Nat.reduceAdd] at k1 k2
  have z := L5_50 (d := d) (L := L) v o w u ou og hr hp (tC T) 0 (by omega) none none
  rw [sumF] at z
  have q : c_call (d + 2) 44 [jR 41, jL (tri T r)] (hH L m) = some (some (jL (tri T r / tD T)), hH L m) := Q44_41 v o (by omega) (by omega)
  rw [E5, T5_0_50_41_4, if_pos (by omega), Int.toNat_natCast]
  simp only [k1, k2, k3, q, Option.bind_some, Option.toList_some, List.cons_append, List.nil_append, T5_37_50_41_4]
  have h20 : (0 ≤ (r : Int) ∧ (r : Int) < 20) := by omega
  by_cases e1 : p = pN K
  · rw [if_pos e1] at z
    simp only [if_pos h20, if_pos (show (p : Int) = (pN K : Int) by omega)]
    split <;> exact z
  · rw [if_neg e1] at z
    simp only [if_neg (show ¬ (p : Int) = (pN K : Int) by omega)]
    by_cases e2 : tow T r = p
    · rw [if_pos e2] at z ⊢
      exact z
    · rw [if_neg e2] at z ⊢
      exact z
theorem L5_64 {d : Nat} {L : j_B} {K : PK} {U : CU} {T : TB} {m : j_M0} (v : vC 55 T m) (o : tOK T) (w : vP 35 K m) (u : uC 64 (pN K) U m) (ou : cOK (pN K) U) (og : gOK K U T) {r p : Nat} (hr : r < tR T) (hp : p ≤ pN K) : ∀ j c : Nat, c + j = tC T → ∀ o8 o9 : Option j_V, j_fin (c_call (d + 2)) 5 42 [some (jR 64), some (jR 55), some (jI r), some (jR 35), some (jI p), some (jL (sumF K U T r p c)), none, some (jI c), o8, o9, none] [] (hH L m) = some (some (jL (sumF K U T r p (tC T))), hH L m) := by
  have ok := vP_ok w
  have o1 := ok.2.1
  have o2 := ok.2.2.1
  have o3 := o.1
  have o4 := o.2.2.1
  have k1 := v.2.1
  have cn := ou.1
  intro j
  induction j with
  | zero =>
    intro c hc o8 o9
    have hcc : c = tC T := by omega
    subst hcc
    rw [T5_42_64_55_35, if_neg (by omega)]
  | succ j ih =>
    intro c hc o8 o9
    have ih' := ih (c + 1) (by omega)
    have k2 := v.2.2.2.2.2.2.2.1 r c hr (by omega)
    have k3 := v.2.2.2.2.2.2.1 c (by omega)
    simp only [Nat.reduceAdd] at k2 k3
    have r1 := o.2.2.2.2.2.2.2.2.1 r c hr (by omega)
    have d1 := o.2.2.2.2.1
    have r2 := ed_n (x := te T r c) (y := tD T) (b := 1000000000) (by omega) (by omega) (by omega)
    have g := og.2 c (by omega)
    have s1 := sumF_r o ok ou og hr hp c (by omega)
    have s2 := termF_r o ok ou og hr hp (show c < tC T by omega)
    rw [sumF] at ih'
    unfold good at g
    unfold termF at ih' s2
    rw [T5_42_64_55_35, if_pos (by omega), if_pos (by omega)]
    simp (disch := omega) only [w32_id, show ((r : Int) * 5 + (c : Int)).toNat = 5 * r + c by omega, k2, Int.toNat_natCast, k3]
    rw [if_pos (by omega), Q44_55 v o (by omega) (by omega)]
    simp only [Option.bind_some, Option.toList_some, List.cons_append, List.nil_append]
    rw [T5_75_64_55_35, nat1 (by omega)]
    by_cases e1 : tos T c = p
    · rw [if_pos e1] at ih' s2 ⊢
      rw [w64_id (by omega) (by omega)]
      exact ih' _ _
    · rw [if_neg e1] at ih' s2 ⊢
      by_cases e2 : 20 ≤ tos T c
      · rw [if_pos e2] at ih' s2
        obtain ⟨k, hk⟩ : ∃ k : Nat, tos T c = 20 + (k : Int) := ⟨(tos T c - 20).toNat, by omega⟩
        rw [hk] at ih' s2 ⊢
        rw [show (20 + (k : Int) - 20).toNat = k by omega] at ih' s2
        rw [if_neg (by omega), w32_id (by omega) (by omega), show 20 + (k : Int) - 20 = (k : Int) by omega, Q2_64 u o1 cn (by omega) hp]
        simp only [Option.bind_some, Option.toList_some, List.cons_append, List.nil_append]
        rw [T5_116_64_55_35, nat1 (by omega), w64_id (x := te T r c / tD T * cF U k p) (by omega) (by omega), w64_id (by omega) (by omega), Int.sub_eq_add_neg]
        exact ih' _ _
      · rw [if_neg e2] at ih' s2
        rw [if_pos (by omega)]
        by_cases e3 : 10 ≤ tos T c
        · rw [if_pos e3] at ih' s2
          obtain ⟨k, hk⟩ : ∃ k : Nat, tos T c = 10 + (k : Int) := ⟨(tos T c - 10).toNat, by omega⟩
          rw [hk] at ih' s2 g ⊢
          rw [show (10 + (k : Int) - 10).toNat = k by omega] at ih' s2
          rw [if_neg (by omega), w32_id (by omega) (by omega), show 10 + (k : Int) - 10 = (k : Int) by omega, Q13f_35 w (by omega) hp]
          simp only [Option.bind_some, Option.toList_some, List.cons_append, List.nil_append]
          rw [T5_145_64_55_35, nat1 (by omega), w64_id (x := te T r c / tD T * pF K k p) (by omega) (by omega), w64_id (by omega) (by omega), Int.sub_eq_add_neg]
          exact ih' _ _
        · rw [if_neg e3, Int.add_zero] at ih'
          rw [if_pos (by omega)]
          exact ih' _ _
theorem Q5_64 {d : Nat} {L : j_B} {K : PK} {U : CU} {T : TB} {m : j_M0} (v : vC 55 T m) (o : tOK T) (w : vP 35 K m) (u : uC 64 (pN K) U m) (ou : cOK (pN K) U) (og : gOK K U T) {r p : Nat} (hr : r < tR T) (hp : p ≤ pN K) : c_call (d + 3) 5 [jR 64, jR 55, jI r, jR 35, jI p] (hH L m) = some (some (jL (sumF K U T r p (tC T))), hH L m) := by
  have ok := vP_ok w
  have o3 := o.1
  have k1 := v.2.2.2.2.2.1 r hr
  have k2 := v.2.2.2.2.2.2.2.2.1 r hr
  have k3 := w.2.1
  have r1 := o.2.2.2.2.2.2.2.2.2.1 r hr
  simp only [Nat.reduceAdd] at k1 k2
  have z := L5_64 (d := d) (L := L) v o w u ou og hr hp (tC T) 0 (by omega) none none
  rw [sumF] at z
  have q : c_call (d + 2) 44 [jR 55, jL (tri T r)] (hH L m) = some (some (jL (tri T r / tD T)), hH L m) := Q44_55 v o (by omega) (by omega)
  rw [E5, T5_0_64_55_35, if_pos (by omega), Int.toNat_natCast]
  simp only [k1, k2, k3, q, Option.bind_some, Option.toList_some, List.cons_append, List.nil_append, T5_37_64_55_35]
  have h20 : (0 ≤ (r : Int) ∧ (r : Int) < 20) := by omega
  by_cases e1 : p = pN K
  · rw [if_pos e1] at z
    simp only [if_pos h20, if_pos (show (p : Int) = (pN K : Int) by omega)]
    split <;> exact z
  · rw [if_neg e1] at z
    simp only [if_neg (show ¬ (p : Int) = (pN K : Int) by omega)]
    by_cases e2 : tow T r = p
    · rw [if_pos e2] at z ⊢
      exact z
    · rw [if_neg e2] at z ⊢
      exact z
