/-! The model tells a cut: the limit. -/
theorem L188b_115 {d L : Nat} {K : PK} {U : CU} {T : TB} {m : j_M0} (v : vM 115 T m) (o : tOK T) (w : vG K m) (uu : uM 115 (pN K) U m) (ok : pOK K) (ou : cOK (pN K) U) (og : gOK K U T) {r : Nat} (hr : r < tR T) {f : Int} {o8 o9 : Option j_V} : ∀ j c : Nat, c + j = tC T → j_fin (c_call (d + 3)) 188 179 [some (jR 109), some (jR 115), some (jI r), some (jI (cN U)), some (jI f), some (jL (sumF K U T r (pN K) c)), none, some (jI c), o8, o9, none] [] (hH L m) = j_fin (c_call (d + 3)) 188 179 [some (jR 109), some (jR 115), some (jI r), some (jI (cN U)), some (jI f), some (jL (sumF K U T r (pN K) (tC T))), none, some (jI (tC T)), o8, o9, none] [] (hH L m) := by
  have o3 := o.1
  have o4 := o.2.2.1
  have k1 := v.2.1
  have k9 := v.2.2.2.2.1
  have d1 := o.2.2.2.2.1
  have d2 := o.2.2.2.2.2.1
  have n5 := ok.2.1
  intro j
  induction j with
  | zero =>
    intro c hc
    have e : c = tC T := by omega
    subst e
    rfl
  | succ j ih =>
    intro c hc
    have k2 := v.2.2.2.2.2.2.2.1 r c hr (by omega)
    have k3 := v.2.2.2.2.2.2.1 c (by omega)
    have r1 := o.2.2.2.2.2.2.2.2.1 r c hr (by omega)
    have r2 := ed_n (x := te T r c) (y := tD T) (b := 1000000000) (by omega) (by omega) (by omega)
    have g := og.2 c (by omega)
    have s1 := sumF_r o ok ou og hr (show pN K ≤ pN K by omega) c (by omega)
    have s2 := termF_r o ok ou og hr (show pN K ≤ pN K by omega) (show c < tC T by omega)
    have e0 := termF_l (T := T) (r := r) (c := c) n5 (show pN K ≤ pN K by omega) g
    have ih' := ih (c + 1) (by omega)
    rw [sumF] at ih'
    simp only [Nat.reduceAdd] at k2 k3
    rw [T188_179_109_115, if_pos (by omega), if_pos (by omega), Int.toNat_natCast, nat1 (by omega)]
    simp only [k3]
    by_cases e1 : tos T c < 10
    · rw [if_pos e1] at e0 ⊢
      rw [if_neg (by unfold good at g; omega)] at e0
      rw [e0, Int.add_zero] at ih'
      exact ih'
    · rw [if_neg e1] at e0 ⊢
      rw [e0] at ih' s2
      simp (disch := omega) only [w32_id, show (5 * (r : Int) + (c : Int)).toNat = 5 * r + c by omega, k2, k9]
      rw [if_pos (by omega), Q265 (by omega) (by omega) (by omega) (by omega)]
      simp only [Option.bind_some, Option.toList_some, List.cons_append, List.nil_append]
      rw [T188_220_109_115, if_pos (by omega), Int.toNat_natCast]
      simp only [k3]
      rw [Q187_115 w uu ou.1 g (by omega)]
      simp only [Option.bind_some, Option.toList_some, List.cons_append, List.nil_append]
      rw [T188_232_109_115, nat1 (by omega), w64_id (x := te T r c / tD T * leftF K U (tos T c) (pN K)) (by omega) (by omega), w64_id (by omega) (by omega), Int.sub_eq_add_neg]
      exact ih'
theorem L188b_128 {d L : Nat} {K : PK} {U : CU} {T : TB} {m : j_M0} (v : vM 128 T m) (o : tOK T) (w : vG K m) (uu : uM 128 (pN K) U m) (ok : pOK K) (ou : cOK (pN K) U) (og : gOK K U T) {r : Nat} (hr : r < tR T) {f : Int} {o8 o9 : Option j_V} : ∀ j c : Nat, c + j = tC T → j_fin (c_call (d + 3)) 188 179 [some (jR 109), some (jR 128), some (jI r), some (jI (cN U)), some (jI f), some (jL (sumF K U T r (pN K) c)), none, some (jI c), o8, o9, none] [] (hH L m) = j_fin (c_call (d + 3)) 188 179 [some (jR 109), some (jR 128), some (jI r), some (jI (cN U)), some (jI f), some (jL (sumF K U T r (pN K) (tC T))), none, some (jI (tC T)), o8, o9, none] [] (hH L m) := by
  have o3 := o.1
  have o4 := o.2.2.1
  have k1 := v.2.1
  have k9 := v.2.2.2.2.1
  have d1 := o.2.2.2.2.1
  have d2 := o.2.2.2.2.2.1
  have n5 := ok.2.1
  intro j
  induction j with
  | zero =>
    intro c hc
    have e : c = tC T := by omega
    subst e
    rfl
  | succ j ih =>
    intro c hc
    have k2 := v.2.2.2.2.2.2.2.1 r c hr (by omega)
    have k3 := v.2.2.2.2.2.2.1 c (by omega)
    have r1 := o.2.2.2.2.2.2.2.2.1 r c hr (by omega)
    have r2 := ed_n (x := te T r c) (y := tD T) (b := 1000000000) (by omega) (by omega) (by omega)
    have g := og.2 c (by omega)
    have s1 := sumF_r o ok ou og hr (show pN K ≤ pN K by omega) c (by omega)
    have s2 := termF_r o ok ou og hr (show pN K ≤ pN K by omega) (show c < tC T by omega)
    have e0 := termF_l (T := T) (r := r) (c := c) n5 (show pN K ≤ pN K by omega) g
    have ih' := ih (c + 1) (by omega)
    rw [sumF] at ih'
    simp only [Nat.reduceAdd] at k2 k3
    rw [T188_179_109_128, if_pos (by omega), if_pos (by omega), Int.toNat_natCast, nat1 (by omega)]
    simp only [k3]
    by_cases e1 : tos T c < 10
    · rw [if_pos e1] at e0 ⊢
      rw [if_neg (by unfold good at g; omega)] at e0
      rw [e0, Int.add_zero] at ih'
      exact ih'
    · rw [if_neg e1] at e0 ⊢
      rw [e0] at ih' s2
      simp (disch := omega) only [w32_id, show (5 * (r : Int) + (c : Int)).toNat = 5 * r + c by omega, k2, k9]
      rw [if_pos (by omega), Q265 (by omega) (by omega) (by omega) (by omega)]
      simp only [Option.bind_some, Option.toList_some, List.cons_append, List.nil_append]
      rw [T188_220_109_128, if_pos (by omega), Int.toNat_natCast]
      simp only [k3]
      rw [Q187_128 w uu ou.1 g (by omega)]
      simp only [Option.bind_some, Option.toList_some, List.cons_append, List.nil_append]
      rw [T188_232_109_128, nat1 (by omega), w64_id (x := te T r c / tD T * leftF K U (tos T c) (pN K)) (by omega) (by omega), w64_id (by omega) (by omega), Int.sub_eq_add_neg]
      exact ih'
