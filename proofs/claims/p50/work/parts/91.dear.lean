/-! upTo, dearest. -/
/-! upTo -/
def upC (c x : Nat → Int) (v : Int) : Nat → Int
  | 0 => -5
  | k + 1 => if v < c k then upC c x v k else x k
def upM (g : Nat → Int) (v : Int) : Nat → Int
  | 0 => -1
  | k + 1 => if v < oK g k then upM g v k else if upM g v k < 0 then (k : Int) else if oK g (upM g v k).toNat < oK g k ∨ (oK g (upM g v k).toNat = oK g k ∧ oC g (upM g v k).toNat < oC g k) then (k : Int) else upM g v k
theorem upC_p (c x : Nat → Int) (v : Int) : ∀ k : Nat, (upC c x v k = -5 ∧ ∀ i : Nat, i < k → v < c i) ∨ ∃ p : Nat, p < k ∧ upC c x v k = x p ∧ c p ≤ v ∧ ∀ i : Nat, p < i → i < k → v < c i := by
  intro k
  induction k with
  | zero => exact Or.inl ⟨rfl, fun i h => absurd h (Nat.not_lt_zero i)⟩
  | succ k ih =>
    unfold upC
    by_cases e : v < c k
    · rw [if_pos e]
      rcases ih with ⟨a1, a2⟩ | ⟨p, a1, a2, a3, a4⟩
      · refine Or.inl ⟨a1, fun i hi => ?_⟩
        by_cases e2 : i = k
        · rw [e2]; exact e
        · exact a2 i (by omega)
      · refine Or.inr ⟨p, by omega, a2, a3, fun i h hi => ?_⟩
        by_cases e2 : i = k
        · rw [e2]; exact e
        · exact a4 i h (by omega)
    · rw [if_neg e]
      exact Or.inr ⟨k, by omega, rfl, by omega, fun i h hi => by omega⟩
theorem upM_p (g : Nat → Int) (v : Int) : ∀ k : Nat, (upM g v k = -1 ∧ ∀ i : Nat, i < k → v < oK g i) ∨ ∃ b : Nat, b < k ∧ upM g v k = b ∧ oK g b ≤ v ∧ ∀ i : Nat, i < k → oK g i ≤ v → ¬ lsO (oK g b) (oC g b) (oK g i) (oC g i) := by
  intro k
  induction k with
  | zero => exact Or.inl ⟨rfl, fun i h => absurd h (Nat.not_lt_zero i)⟩
  | succ k ih =>
    unfold upM
    by_cases e : v < oK g k
    · rw [if_pos e]
      rcases ih with ⟨a1, a2⟩ | ⟨p, a1, a2, a3, a4⟩
      · refine Or.inl ⟨a1, fun i hi => ?_⟩
        by_cases e2 : i = k
        · rw [e2]; exact e
        · exact a2 i (by omega)
      · refine Or.inr ⟨p, by omega, a2, a3, fun i hi h => ?_⟩
        by_cases e2 : i = k
        · rw [e2] at h; omega
        · exact a4 i (by omega) h
    · rw [if_neg e]
      right
      rcases ih with ⟨a1, a2⟩ | ⟨p, a1, a2, a3, a4⟩
      · rw [if_pos (by omega)]
        refine ⟨k, by omega, rfl, by omega, fun i hi h => ?_⟩
        by_cases e2 : i = k
        · rw [e2]; exact lsO_n
        · have := a2 i (by omega)
          omega
      · rw [a2, if_neg (by omega), Int.toNat_natCast]
        by_cases e3 : oK g p < oK g k ∨ (oK g p = oK g k ∧ oC g p < oC g k)
        · rw [if_pos e3]
          refine ⟨k, by omega, rfl, by omega, fun i hi h => ?_⟩
          by_cases e2 : i = k
          · rw [e2]; exact lsO_n
          · intro h2
            exact a4 i (by omega) h (lsO_t e3 h2)
        · rw [if_neg e3]
          refine ⟨p, by omega, rfl, a3, fun i hi h => ?_⟩
          by_cases e2 : i = k
          · rw [e2]; exact e3
          · exact a4 i (by omega) h
theorem up_same {a : Nat} {g : Nat → Int} {m : j_M0} (o : ofR a g m) {N : Nat} (hN : g 6 = N) (v : Int) : (if upM g v N < 0 then -5 else oC g (upM g v N).toNat) = upC (m (a + 2)) (m (a + 1)) v N := by
  rcases upC_p (m (a + 2)) (m (a + 1)) v N with ⟨a1, a2⟩ | ⟨p, a1, a2, a3, a4⟩
  · rcases upM_p g v N with ⟨b1, b2⟩ | ⟨b, b1, b2, b3, b4⟩
    · rw [if_pos (by omega), a1]
    · obtain ⟨i, i1, i2, -, i3⟩ := ofR_j o hN b1
      have := a2 i i1
      omega
  · rcases upM_p g v N with ⟨b1, b2⟩ | ⟨b, b1, b2, b3, b4⟩
    · obtain ⟨i, i1, i2, -, i3⟩ := ofR_i o hN a1
      have := b2 i i1
      omega
    · rw [b2, if_neg (by omega), Int.toNat_natCast, a2]
      obtain ⟨i, i1, i2, -, i3⟩ := ofR_j o hN b1
      obtain ⟨k, k1, k2, -, k3⟩ := ofR_i o hN a1
      have h := b4 k k1 (by omega)
      rw [i2, i3, k2, k3, ofR_l o hN i1 a1] at h
      by_cases e : i = p
      · rw [i2, e]
      · have := a4 i (by omega) i1
        omega
theorem L123 {C : Nat → List j_V → j_H → Option j_Z} {N : Nat} {L : j_B} {m : j_M0} {v : Int} (h9 : m 9 0 = N) (h20 : N ≤ 20) : ∀ j k : Nat, k + j = N → j_fin C 123 5 [some (jR 2), some (jI v), some (jI (upC (m 11) (m 10) v k)), some (jI k)] [] (hH L m) = some (some (jI (upC (m 11) (m 10) v N)), hH L m) := by
  intro j
  induction j with
  | zero =>
    intro k hk
    rw [T123_5, if_neg (by omega), show k = N by omega]
  | succ j ih =>
    intro k hk
    have this := ih (k + 1) (by omega)
    rw [upC] at this
    rw [T123_5, if_pos (by omega), if_pos (by omega), Int.toNat_natCast, nat1 (by omega)]
    by_cases e : v < m 11 k
    · rw [if_pos e] at this ⊢
      exact this
    · rw [if_neg e] at this
      rw [if_neg e, if_pos (by omega)]
      exact this
/-! dearest -/
def deC (c q : Nat → Int) : Nat → Int
  | 0 => -1
  | k + 1 => if deC c q k < 0 then (k : Int) else if q (deC c q k).toNat - c (deC c q k).toNat < q k - c k then (k : Int) else deC c q k
def oG (g : Nat → Int) (k : Nat) : Int := oA g k - oK g k
def deM (g : Nat → Int) : Nat → Int
  | 0 => -1
  | k + 1 => if deM g k < 0 then (k : Int) else if oG g (deM g k).toNat < oG g k then (k : Int) else if oG g k = oG g (deM g k).toNat then (if oK g k < oK g (deM g k).toNat ∨ (oK g k = oK g (deM g k).toNat ∧ oC g k < oC g (deM g k).toNat) then (k : Int) else deM g k) else deM g k
theorem deC_p (c q : Nat → Int) : ∀ k : Nat, (k = 0 ∧ deC c q k = -1) ∨ ∃ b : Nat, b < k ∧ deC c q k = b ∧ (∀ i : Nat, i < k → q i - c i ≤ q b - c b) ∧ ∀ i : Nat, i < b → q i - c i < q b - c b := by
  intro k
  induction k with
  | zero => exact Or.inl ⟨rfl, rfl⟩
  | succ k ih =>
    right
    unfold deC
    rcases ih with ⟨a1, a2⟩ | ⟨b, a1, a2, a3, a4⟩
    · rw [if_pos (by omega)]
      subst a1
      exact ⟨0, by omega, rfl, fun i hi => by rw [show i = 0 by omega]; exact Int.le_refl _, fun i hi => by omega⟩
    · rw [a2, if_neg (by omega), Int.toNat_natCast]
      by_cases e : q b - c b < q k - c k
      · rw [if_pos e]
        refine ⟨k, by omega, rfl, fun i hi => ?_, fun i hi => ?_⟩
        · by_cases e2 : i = k
          · rw [e2]; exact Int.le_refl _
          · have := a3 i (by omega)
            omega
        · have := a3 i (by omega)
          omega
      · rw [if_neg e]
        refine ⟨b, by omega, rfl, fun i hi => ?_, a4⟩
        by_cases e2 : i = k
        · rw [e2]; omega
        · exact a3 i (by omega)
theorem deM_p (g : Nat → Int) : ∀ k : Nat, (k = 0 ∧ deM g k = -1) ∨ ∃ b : Nat, b < k ∧ deM g k = b ∧ (∀ i : Nat, i < k → oG g i ≤ oG g b) ∧ ∀ i : Nat, i < k → oG g i = oG g b → ¬ lsO (oK g i) (oC g i) (oK g b) (oC g b) := by
  intro k
  induction k with
  | zero => exact Or.inl ⟨rfl, rfl⟩
  | succ k ih =>
    right
    unfold deM
    rcases ih with ⟨a1, a2⟩ | ⟨b, a1, a2, a3, a4⟩
    · rw [if_pos (by omega)]
      subst a1
      exact ⟨0, by omega, rfl, fun i hi => by rw [show i = 0 by omega]; exact Int.le_refl _, fun i hi _ => by rw [show i = 0 by omega]; exact lsO_n⟩
    · rw [a2, if_neg (by omega), Int.toNat_natCast]
      by_cases e : oG g b < oG g k
      · rw [if_pos e]
        refine ⟨k, by omega, rfl, fun i hi => ?_, fun i hi h => ?_⟩
        · by_cases e2 : i = k
          · rw [e2]; exact Int.le_refl _
          · have := a3 i (by omega)
            omega
        · by_cases e2 : i = k
          · rw [e2]; exact lsO_n
          · have := a3 i (by omega)
            omega
      · rw [if_neg e]
        by_cases e3 : oG g k = oG g b
        · rw [if_pos e3]
          by_cases e4 : oK g k < oK g b ∨ (oK g k = oK g b ∧ oC g k < oC g b)
          · rw [if_pos e4]
            refine ⟨k, by omega, rfl, fun i hi => ?_, fun i hi h => ?_⟩
            · by_cases e2 : i = k
              · rw [e2]; exact Int.le_refl _
              · rw [e3]; exact a3 i (by omega)
            · by_cases e2 : i = k
              · rw [e2]; exact lsO_n
              · exact fun h2 => a4 i (by omega) (h.trans e3) (lsO_t h2 e4)
          · rw [if_neg e4]
            refine ⟨b, by omega, rfl, fun i hi => ?_, fun i hi h => ?_⟩
            · by_cases e2 : i = k
              · rw [e2]; omega
              · exact a3 i (by omega)
            · by_cases e2 : i = k
              · rw [e2]; exact e4
              · exact a4 i (by omega) h
        · rw [if_neg e3]
          refine ⟨b, by omega, rfl, fun i hi => ?_, fun i hi h => ?_⟩
          · by_cases e2 : i = k
            · rw [e2]; omega
            · exact a3 i (by omega)
          · by_cases e2 : i = k
            · rw [e2] at h; exact absurd h e3
            · exact a4 i (by omega) h
theorem de_same {a : Nat} {g : Nat → Int} {m : j_M0} (o : ofR a g m) {N : Nat} (hN : g 6 = N) : (if deM g N < 0 then -5 else oC g (deM g N).toNat) = (if deC (m (a + 2)) (m (a + 3)) N < 0 then -5 else m (a + 1) (deC (m (a + 2)) (m (a + 3)) N).toNat) := by
  rcases deC_p (m (a + 2)) (m (a + 3)) N with ⟨a1, a2⟩ | ⟨p, a1, a2, a3, a4⟩
  · rcases deM_p g N with ⟨b1, b2⟩ | ⟨b, b1, b2, b3, b4⟩
    · rw [if_pos (by omega), if_pos (by omega)]
    · omega
  · rcases deM_p g N with ⟨b1, b2⟩ | ⟨b, b1, b2, b3, b4⟩
    · omega
    · rw [b2, if_neg (by omega), Int.toNat_natCast, a2, if_neg (by omega), Int.toNat_natCast]
      obtain ⟨i, i1, i2, i3, i4⟩ := ofR_j o hN b1
      obtain ⟨k, k1, k2, k3, k4⟩ := ofR_i o hN a1
      have u1 := b3 k k1
      have u2 := a3 i i1
      have gk : oG g k = m (a + 3) p - m (a + 2) p := by unfold oG; rw [k3, k4]
      have gb : oG g b = m (a + 3) i - m (a + 2) i := by unfold oG; rw [i3, i4]
      have h := b4 k k1 (by omega)
      rw [i2, i4, k2, k4, ofR_l o hN a1 i1] at h
      by_cases e : i = p
      · rw [i2, e]
      · have := a4 i (by omega)
        omega
theorem Q24 {d k : Nat} {L : j_B} {m : j_M0} (hk : k < 20) (h : (0 ≤ m 12 k ∧ m 12 k ≤ 999) ∧ -5000 ≤ m 11 k ∧ m 11 k ≤ 5000) : c_call (d + 1) 24 [jR 9, jI k] (hH L m) = some (some (jI (m 12 k - m 11 k)), hH L m) := by
  rw [E24, T24_0, if_pos (by omega), if_pos (by omega), Int.toNat_natCast, w32_id (by omega) (by omega)]
theorem L124 {d N : Nat} {L : j_B} {m : j_M0} (h9 : m 9 0 = N) (h20 : N ≤ 20) (hr : ∀ k : Nat, k < N → (0 ≤ m 12 k ∧ m 12 k ≤ 999) ∧ -5000 ≤ m 11 k ∧ m 11 k ≤ 5000) : ∀ j k : Nat, k + j = N → j_fin (c_call (d + 1)) 124 4 [some (jR 2), some (jI (deC (m 11) (m 12) k)), some (jI k)] [] (hH L m) = some (some (jI (if deC (m 11) (m 12) N < 0 then -5 else m 10 (deC (m 11) (m 12) N).toNat)), hH L m) := by
  intro j
  induction j with
  | zero =>
    intro k hk
    have ek : k = N := by omega
    rw [T124_4, if_neg (by omega), ek]
    rcases deC_p (m 11) (m 12) N with ⟨a1, a2⟩ | ⟨b, a1, a2, -⟩
    · rw [if_pos (by omega), if_pos (by omega)]
    · rw [a2, if_neg (by omega), if_pos (by omega), if_neg (by omega)]
  | succ j ih =>
    intro k hk
    have this := ih (k + 1) (by omega)
    rw [deC] at this
    rw [T124_4, if_pos (by omega), nat1 (by omega)]
    rcases deC_p (m 11) (m 12) k with ⟨a1, a2⟩ | ⟨b, a1, a2, -⟩
    · rw [if_pos (by omega)] at this ⊢
      exact this
    · rw [a2] at this ⊢
      rw [if_neg (by omega), Int.toNat_natCast] at this
      rw [if_neg (by omega), Q24 (by omega) (hr k (by omega))]
      simp only [Option.bind_some, Option.toList_some, List.cons_append, List.nil_append]
      rw [T124_33, Q24 (by omega) (hr b (by omega))]
      simp only [Option.bind_some, Option.toList_some, List.cons_append, List.nil_append]
      rw [T124_44, nat1 (by omega)]
      by_cases e : m 12 b - m 11 b < m 12 k - m 11 k
      · rw [if_pos e] at this ⊢
        exact this
      · rw [if_neg e] at this ⊢
        exact this
