/-! The class makes a cut: its weights. -/
def idxF (q : Nat) : Nat := if q < 8 then q else q + 2
theorem L4c_50 {d : Nat} {L : j_B} {K : PK} {U : CU} {T : TB} (ok : pOK K) (o : tOK T) (og : gOK K U T) (hN : cN U < 12) {r : Nat} (hr : r < tR T) : ∀ j c : Nat, c + j = tC T → ∀ (m : j_M0) (o5 : Option j_V), vC 41 T m → m 50 0 = cN U → (∀ q : Nat, q < 20 → m 53 (22 * cN U + idxF q) = wtF T r c q) → ∃ m', kpt (fun b x => b = 53 ∧ 22 * cN U ≤ x) m m' ∧ j_fin (c_call (d + 3)) 4 91 [some (jR 50), some (jR 41), some (jI r), some (jR 4), some (jI c), o5, none] [] (hH L m) = some (some (jI 1), hH L (j_up (j_up m' 51 (cN U) (tD T)) 50 0 ((cN U + 1 : Nat) : Int))) ∧ (∀ q : Nat, q < 20 → m' 53 (22 * cN U + idxF q) = wtF T r (tC T) q) := by
  have o3 := o.1
  have o4 := o.2.2.1
  have n8 := ok.2.2.1
  have n5 := ok.2.1
  intro j
  induction j with
  | zero =>
    intro c hc m o5 v h hz
    have e : c = tC T := by omega
    subst e
    have k1 := v.2.1
    have k2 := v.2.2.2.2.1
    rw [T4_91_50_41_4, if_neg (by omega), h, if_pos (by omega), Int.toNat_natCast, k2, up_ne (by omega), h, nat1 (by omega)]
    exact ⟨m, kpt_rfl, rfl, hz⟩
  | succ j ih =>
    intro c hc m o5 v h hz
    have k1 := v.2.1
    have k2 := v.2.2.2.2.2.2.1 c (by omega)
    have k3 := v.2.2.2.2.2.2.2.1 r c hr (by omega)
    have r1 := o.2.2.2.2.2.2.2.2.1 r c hr (by omega)
    have g := og.2 c (by omega)
    unfold good at g
    simp only [Nat.reduceAdd] at k2 k3
    rw [T4_91_50_41_4, if_pos (by omega), if_pos (by omega), Int.toNat_natCast, k2, nat1 (by omega), w32_id (x := tos T c - 10) (by omega) (by omega)]
    by_cases e1 : tos T c - 10 < 0
    · rw [if_pos e1]
      refine ih (c + 1) (by omega) m _ v h (fun q hq => ?_)
      rw [wtF, if_neg (by omega)]
      exact hz q hq
    · rw [if_neg e1, if_pos (by omega)]
      simp (disch := omega) only [w32_id, show ((r : Int) * 5 + (c : Int)).toNat = 5 * r + c by omega, k3]
      rw [if_pos (by omega), Q43_41 v o (by omega) (by omega)]
      simp only [Option.bind_some, Option.toList_some, List.cons_append, List.nil_append]
      obtain ⟨y, hy⟩ : ∃ y : Nat, tos T c = 10 + (y : Int) := ⟨(tos T c - 10).toNat, by omega⟩
      rw [T4_156_50_41_4, h]
      simp (disch := omega) only [w32_id, show ((cN U : Int) * 22 + (tos T c - 10)).toNat = 22 * cN U + y by omega]
      rw [if_pos (by omega), show (c : Int) + 1 = ((c + 1 : Nat) : Int) by omega]
      obtain ⟨m', h1, h2, h3⟩ := ih (c + 1) (by omega) (j_up m 53 (22 * cN U + y) (te T r c % tD T)) (some (jI (tos T c - 10))) (vC_k v (fun b s h h' => up_ne (by omega))) ((up_ne (by omega)).trans h) (fun q hq => by
        have := hz q hq
        rw [wtF, up_at]
        unfold idxF slotF at *
        by_cases e2 : q < 8
        · rw [if_pos e2] at this ⊢
          by_cases e3 : q = y
          · rw [if_pos (by omega), if_pos ⟨by omega, by split <;> omega⟩]
          · rw [if_neg (by omega), if_neg (fun h => by have := h.2; split at this <;> omega)]
            exact this
        · rw [if_neg e2] at this ⊢
          by_cases e3 : q + 2 = y
          · rw [if_pos (by omega), if_pos ⟨by omega, by split <;> omega⟩]
          · rw [if_neg (by omega), if_neg (fun h => by have := h.2; split at this <;> omega)]
            exact this)
      exact ⟨m', kpt_tr (kpt_up ⟨rfl, by omega⟩) h1, h2, h3⟩
theorem L4c_64 {d : Nat} {L : j_B} {K : PK} {U : CU} {T : TB} (ok : pOK K) (o : tOK T) (og : gOK K U T) (hN : cN U < 12) {r : Nat} (hr : r < tR T) : ∀ j c : Nat, c + j = tC T → ∀ (m : j_M0) (o5 : Option j_V), vC 55 T m → m 64 0 = cN U → (∀ q : Nat, q < 20 → m 67 (22 * cN U + idxF q) = wtF T r c q) → ∃ m', kpt (fun b x => b = 67 ∧ 22 * cN U ≤ x) m m' ∧ j_fin (c_call (d + 3)) 4 91 [some (jR 64), some (jR 55), some (jI r), some (jR 35), some (jI c), o5, none] [] (hH L m) = some (some (jI 1), hH L (j_up (j_up m' 65 (cN U) (tD T)) 64 0 ((cN U + 1 : Nat) : Int))) ∧ (∀ q : Nat, q < 20 → m' 67 (22 * cN U + idxF q) = wtF T r (tC T) q) := by
  have o3 := o.1
  have o4 := o.2.2.1
  have n8 := ok.2.2.1
  have n5 := ok.2.1
  intro j
  induction j with
  | zero =>
    intro c hc m o5 v h hz
    have e : c = tC T := by omega
    subst e
    have k1 := v.2.1
    have k2 := v.2.2.2.2.1
    rw [T4_91_64_55_35, if_neg (by omega), h, if_pos (by omega), Int.toNat_natCast, k2, up_ne (by omega), h, nat1 (by omega)]
    exact ⟨m, kpt_rfl, rfl, hz⟩
  | succ j ih =>
    intro c hc m o5 v h hz
    have k1 := v.2.1
    have k2 := v.2.2.2.2.2.2.1 c (by omega)
    have k3 := v.2.2.2.2.2.2.2.1 r c hr (by omega)
    have r1 := o.2.2.2.2.2.2.2.2.1 r c hr (by omega)
    have g := og.2 c (by omega)
    unfold good at g
    simp only [Nat.reduceAdd] at k2 k3
    rw [T4_91_64_55_35, if_pos (by omega), if_pos (by omega), Int.toNat_natCast, k2, nat1 (by omega), w32_id (x := tos T c - 10) (by omega) (by omega)]
    by_cases e1 : tos T c - 10 < 0
    · rw [if_pos e1]
      refine ih (c + 1) (by omega) m _ v h (fun q hq => ?_)
      rw [wtF, if_neg (by omega)]
      exact hz q hq
    · rw [if_neg e1, if_pos (by omega)]
      simp (disch := omega) only [w32_id, show ((r : Int) * 5 + (c : Int)).toNat = 5 * r + c by omega, k3]
      rw [if_pos (by omega), Q43_55 v o (by omega) (by omega)]
      simp only [Option.bind_some, Option.toList_some, List.cons_append, List.nil_append]
      obtain ⟨y, hy⟩ : ∃ y : Nat, tos T c = 10 + (y : Int) := ⟨(tos T c - 10).toNat, by omega⟩
      rw [T4_156_64_55_35, h]
      simp (disch := omega) only [w32_id, show ((cN U : Int) * 22 + (tos T c - 10)).toNat = 22 * cN U + y by omega]
      rw [if_pos (by omega), show (c : Int) + 1 = ((c + 1 : Nat) : Int) by omega]
      obtain ⟨m', h1, h2, h3⟩ := ih (c + 1) (by omega) (j_up m 67 (22 * cN U + y) (te T r c % tD T)) (some (jI (tos T c - 10))) (vC_k v (fun b s h h' => up_ne (by omega))) ((up_ne (by omega)).trans h) (fun q hq => by
        have := hz q hq
        rw [wtF, up_at]
        unfold idxF slotF at *
        by_cases e2 : q < 8
        · rw [if_pos e2] at this ⊢
          by_cases e3 : q = y
          · rw [if_pos (by omega), if_pos ⟨by omega, by split <;> omega⟩]
          · rw [if_neg (by omega), if_neg (fun h => by have := h.2; split at this <;> omega)]
            exact this
        · rw [if_neg e2] at this ⊢
          by_cases e3 : q + 2 = y
          · rw [if_pos (by omega), if_pos ⟨by omega, by split <;> omega⟩]
          · rw [if_neg (by omega), if_neg (fun h => by have := h.2; split at this <;> omega)]
            exact this)
      exact ⟨m', kpt_tr (kpt_up ⟨rfl, by omega⟩) h1, h2, h3⟩
