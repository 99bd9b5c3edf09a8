/-! The model tells a cut: a place. -/
theorem termF_l {K : PK} {U : CU} {T : TB} {r p c : Nat} (n5 : pN K ≤ 5) (hp : p ≤ pN K) (g : good K U (tos T c)) : termF K U T r p c = if tos T c < 10 then (if tos T c = p then te T r c / tD T else 0) else -(te T r c / tD T * leftF K U (tos T c) p) := by
  unfold termF leftF
  unfold good at g
  by_cases e : tos T c < 10
  · rw [if_pos e]
    by_cases e2 : tos T c = p
    · rw [if_pos e2, if_pos e2]
    · rw [if_neg e2, if_neg e2, if_neg (by omega), if_neg (by omega)]
  · rw [if_neg e, if_neg (by omega)]
    by_cases e2 : 20 ≤ tos T c
    · rw [if_pos e2, if_pos e2]
    · rw [if_neg e2, if_neg e2, if_pos (by omega)]
theorem L188a_115 {d L : Nat} {K : PK} {U : CU} {T : TB} {m : j_M0} (v : vM 115 T m) (o : tOK T) (w : vG K m) (uu : uM 115 (pN K) U m) (ok : pOK K) (ou : cOK (pN K) U) (og : gOK K U T) {r p : Nat} (hr : r < tR T) (hp : p < pN K) {f : Int} : ∀ j c : Nat, c + j = tC T → ∀ o9 : Option j_V, ∃ o9', j_fin (c_call (d + 3)) 188 41 [some (jR 109), some (jR 115), some (jI r), some (jI (cN U)), some (jI f), some (jI p), some (jL (sumF K U T r p c)), none, some (jI c), o9, none] [] (hH L m) = j_fin (c_call (d + 3)) 188 41 [some (jR 109), some (jR 115), some (jI r), some (jI (cN U)), some (jI f), some (jI p), some (jL (sumF K U T r p (tC T))), none, some (jI (tC T)), o9', none] [] (hH L m) := by
  have o3 := o.1
  have o4 := o.2.2.1
  have k1 := v.2.1
  have k9 := v.2.2.2.2.1
  have d1 := o.2.2.2.2.1
  have d2 := o.2.2.2.2.2.1
  have n5 := ok.2.1
  intro j
  induction j with
  | zero =>
    intro c hc o9
    have e : c = tC T := by omega
    subst e
    exact ⟨o9, rfl⟩
  | succ j ih =>
    intro c hc o9
    have k2 := v.2.2.2.2.2.2.2.1 r c hr (by omega)
    have k3 := v.2.2.2.2.2.2.1 c (by omega)
    have r1 := o.2.2.2.2.2.2.2.2.1 r c hr (by omega)
    have r2 := ed_n (x := te T r c) (y := tD T) (b := 1000000000) (by omega) (by omega) (by omega)
    have g := og.2 c (by omega)
    have s1 := sumF_r o ok ou og hr (show p ≤ pN K by omega) c (by omega)
    have s2 := termF_r o ok ou og hr (show p ≤ pN K by omega) (show c < tC T by omega)
    have e0 := termF_l (T := T) (r := r) (c := c) n5 (show p ≤ pN K by omega) g
    have ih' := ih (c + 1) (by omega) (some (jL (te T r c / tD T)))
    simp only [sumF] at ih'
    simp only [Nat.reduceAdd] at k2 k3
    rw [T188_41_109_115, if_pos (by omega)]
    simp (disch := omega) only [w32_id, show (5 * (r : Int) + (c : Int)).toNat = 5 * r + c by omega, k2, k9]
    rw [if_pos (by omega), Q265 (by omega) (by omega) (by omega) (by omega)]
    simp only [Option.bind_some, Option.toList_some, List.cons_append, List.nil_append]
    rw [T188_68_109_115, if_pos (by omega), Int.toNat_natCast, nat1 (by omega)]
    simp only [k3]
    by_cases e1 : tos T c < 10
    · rw [if_pos e1] at e0 ⊢
      rw [if_pos (by omega)]
      by_cases e2 : tos T c = p
      · rw [if_pos e2] at e0 ⊢
        rw [e0] at ih' s2
        rw [w64_id (by omega) (by omega)]
        exact ih'
      · rw [if_neg e2] at e0 ⊢
        rw [e0] at ih'
        rw [w64_id (by omega) (by omega)]
        exact ih'
    · rw [if_neg e1] at e0 ⊢
      rw [e0, ← Int.neg_mul] at ih' s2
      rw [if_pos (by omega), Q186_115 w uu ou.1 g (by omega) hp]
      simp only [Option.bind_some, Option.toList_some, List.cons_append, List.nil_append]
      rw [T188_122_109_115, nat1 (by omega), w64_id (x := -(te T r c / tD T)) (by omega) (by omega), w64_id (x := -(te T r c / tD T) * leftF K U (tos T c) p) (by omega) (by omega), w64_id (by omega) (by omega)]
      exact ih'
theorem L188a_128 {d L : Nat} {K : PK} {U : CU} {T : TB} {m : j_M0} (v : vM 128 T m) (o : tOK T) (w : vG K m) (uu : uM 128 (pN K) U m) (ok : pOK K) (ou : cOK (pN K) U) (og : gOK K U T) {r p : Nat} (hr : r < tR T) (hp : p < pN K) {f : Int} : ∀ j c : Nat, c + j = tC T → ∀ o9 : Option j_V, ∃ o9', j_fin (c_call (d + 3)) 188 41 [some (jR 109), some (jR 128), some (jI r), some (jI (cN U)), some (jI f), some (jI p), some (jL (sumF K U T r p c)), none, some (jI c), o9, none] [] (hH L m) = j_fin (c_call (d + 3)) 188 41 [some (jR 109), some (jR 128), some (jI r), some (jI (cN U)), some (jI f), some (jI p), some (jL (sumF K U T r p (tC T))), none, some (jI (tC T)), o9', none] [] (hH L m) := by
  have o3 := o.1
  have o4 := o.2.2.1
  have k1 := v.2.1
  have k9 := v.2.2.2.2.1
  have d1 := o.2.2.2.2.1
  have d2 := o.2.2.2.2.2.1
  have n5 := ok.2.1
  intro j
  induction j with
  | zero =>
    intro c hc o9
    have e : c = tC T := by omega
    subst e
    exact ⟨o9, rfl⟩
  | succ j ih =>
    intro c hc o9
    have k2 := v.2.2.2.2.2.2.2.1 r c hr (by omega)
    have k3 := v.2.2.2.2.2.2.1 c (by omega)
    have r1 := o.2.2.2.2.2.2.2.2.1 r c hr (by omega)
    have r2 := ed_n (x := te T r c) (y := tD T) (b := 1000000000) (by omega) (by omega) (by omega)
    have g := og.2 c (by omega)
    have s1 := sumF_r o ok ou og hr (show p ≤ pN K by omega) c (by omega)
    have s2 := termF_r o ok ou og hr (show p ≤ pN K by omega) (show c < tC T by omega)
    have e0 := termF_l (T := T) (r := r) (c := c) n5 (show p ≤ pN K by omega) g
    have ih' := ih (c + 1) (by omega) (some (jL (te T r c / tD T)))
    simp only [sumF] at ih'
    simp only [Nat.reduceAdd] at k2 k3
    rw [T188_41_109_128, if_pos (by omega)]
    simp (disch := omega) only [w32_id, show (5 * (r : Int) + (c : Int)).toNat = 5 * r + c by omega, k2, k9]
    rw [if_pos (by omega), Q265 (by omega) (by omega) (by omega) (by omega)]
    simp only [Option.bind_some, Option.toList_some, List.cons_append, List.nil_append]
    rw [T188_68_109_128, if_pos (by omega), Int.toNat_natCast, nat1 (by omega)]
    simp only [k3]
    by_cases e1 : tos T c < 10
    · rw [if_pos e1] at e0 ⊢
      rw [if_pos (by omega)]
      by_cases e2 : tos T c = p
      · rw [if_pos e2] at e0 ⊢
        rw [e0] at ih' s2
        rw [w64_id (by omega) (by omega)]
        exact ih'
      · rw [if_neg e2] at e0 ⊢
        rw [e0] at ih'
        rw [w64_id (by omega) (by omega)]
        exact ih'
    · rw [if_neg e1] at e0 ⊢
      rw [e0, ← Int.neg_mul] at ih' s2
      rw [if_pos (by omega), Q186_128 w uu ou.1 g (by omega) hp]
      simp only [Option.bind_some, Option.toList_some, List.cons_append, List.nil_append]
      rw [T188_122_109_128, nat1 (by omega), w64_id (x := -(te T r c / tD T)) (by omega) (by omega), w64_id (x := -(te T r c / tD T) * leftF K U (tos T c) p) (by omega) (by omega), w64_id (by omega) (by omega)]
      exact ih'
