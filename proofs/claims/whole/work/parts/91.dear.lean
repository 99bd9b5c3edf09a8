/-! upTo, dearest. -/
/-! upTo -/
def upC (c x : Nat → Int) (v : Int) : Nat → Int
  | 0 => -5
  | k + 1 => if v < c k then upC c x v k else x k
def upM (g : Nat → Int) (v : Int) : Nat → Int
  | 0 => -1
  | k + 1 => if v < oK g k then upM g v k else if upM g v k < 0 then (k : Int) else if oK g (upM g v k).toNat < oK g k ∨ (oK g (upM g v k).toNat = oK g k ∧ oC g (upM g v k).toNat < oC g k) then (k : Int) else upM g v k
theorem upC_p (c x : Nat → Int) (v : Int) : ∀ k : Nat, (upC c x v k = -5 ∧ ∀ i : Nat, i < k → v < c i) ∨ ∃ p : Nat, p < k ∧ upC c x v k = x p ∧ c p ≤ v ∧ ∀ i : Nat, p < i → i < k → v < c i := by
  intro k
  induction k with
  | zero => exact Or.inl ⟨rfl, fun i h => absurd h (Nat.not_lt_zero i)⟩
  | succ k ih =>
    unfold upC
    by_cases e : v < c k
    · rw [if_pos e]
      rcases ih with ⟨a1, a2⟩ | ⟨p, a1, a2, a3, a4⟩
      · refine Or.inl ⟨a1, fun i hi => ?_⟩
        by_cases e2 : i = k
        · rw [e2]; exact e
        · exact a2 i (by omega)
      · refine Or.inr ⟨p, by omega, a2, a3, fun i h hi => ?_⟩
        by_cases e2 : i = k
        · rw [e2]; exact e
        · exact a4 i h (by omega)
    · rw [if_neg e]
      exact Or.inr ⟨k, by omega, rfl, by omega, fun i h hi => by omega⟩
theorem upM_p (g : Nat → Int) (v : Int) : ∀ k : Nat, (upM g v k = -1 ∧ ∀ i : Nat, i < k → v < oK g i) ∨ ∃ b : Nat, b < k ∧ upM g v k = b ∧ oK g b ≤ v ∧ ∀ i : Nat, i < k → oK g i ≤ v → ¬ lsO (oK g b) (oC g b) (oK g i) (oC g i) := by
  intro k
  induction k with
  | zero => exact Or.inl ⟨rfl, fun i h => absurd h (Nat.not_lt_zero i)⟩
  | succ k ih =>
    unfold upM
    by_cases e : v < oK g k
    · rw [if_pos e]
      rcases ih with ⟨a1, a2⟩ | ⟨p, a1, a2, a3, a4⟩
      · refine Or.inl ⟨a1, fun i hi => ?_⟩
        by_cases e2 : i = k
        · rw [e2]; exact e
        · exact a2 i (by omega)
      · refine Or.inr ⟨p, by omega, a2, a3, fun i hi h => ?_⟩
        by_cases e2 : i = k
        · rw [e2] at h; omega
        · exact a4 i (by omega) h
    · rw [if_neg e]
      right
      rcases ih with ⟨a1, a2⟩ | ⟨p, a1, a2, a3, a4⟩
      · rw [if_pos (by omega)]
        refine ⟨k, by omega, rfl, by omega, fun i hi h => ?_⟩
        by_cases e2 : i = k
        · rw [e2]; exact lsO_n
        · have := a2 i (by omega)
          omega
      · rw [a2, if_neg (by omega), Int.toNat_natCast]
        by_cases e3 : oK g p < oK g k ∨ (oK g p = oK g k ∧ oC g p < oC g k)
        · rw [if_pos e3]
          refine ⟨k, by omega, rfl, by omega, fun i hi h => ?_⟩
          by_cases e2 : i = k
          · rw [e2]; exact lsO_n
          · intro h2
            exact a4 i (by omega) h (lsO_t e3 h2)
        · rw [if_neg e3]
          refine ⟨p, by omega, rfl, a3, fun i hi h => ?_⟩
          by_cases e2 : i = k
          · rw [e2]; exact e3
          · exact a4 i (by omega) h
theorem up_same {a : Nat} {g : Nat → Int} {m : j_M0} (o : ofR a g m) {N : Nat} (hN : g 6 = N) (v : Int) : (if upM g v N < 0 then -5 else oC g (upM g v N).toNat) = upC (m (a + 2)) (m (a + 1)) v N := by
  rcases upC_p (m (a + 2)) (m (a + 1)) v N with ⟨a1, a2⟩ | ⟨p, a1, a2, a3, a4⟩
  · rcases upM_p g v N with ⟨b1, b2⟩ | ⟨b, b1, b2, b3, b4⟩
    · rw [if_pos (by omega), a1]
    · obtain ⟨i, i1, i2, -, i3⟩ := ofR_j o hN b1
      have := a2 i i1
      omega
  · rcases upM_p g v N with ⟨b1, b2⟩ | ⟨b, b1, b2, b3, b4⟩
    · obtain ⟨i, i1, i2, -, i3⟩ := ofR_i o hN a1
      have := b2 i i1
      omega
    · rw [b2, if_neg (by omega), Int.toNat_natCast, a2]
      obtain ⟨i, i1, i2, -, i3⟩ := ofR_j o hN b1
      obtain ⟨k, k1, k2, -, k3⟩ := ofR_i o hN a1
      have h := b4 k k1 (by omega)
      rw [i2, i3, k2, k3, ofR_l o hN i1 a1] at h
      by_cases e : i = p
      · rw [i2, e]
      · have := a4 i (by omega) i1
        omega
theorem L123 {C : Nat → List j_V → j_H → Option j_Z} {L N : Nat} {m : j_M0} {v : Int} (h9 : m 9 0 = N) (h20 : N ≤ 20) : ∀ j k : Nat, k + j = N → j_fin C 123 5 [some (jR 2), some (jI v), some (jI (upC (m 11) (m 10) v k)), some (jI k)] [] (hH L m) = some (some (jI (upC (m 11) (m 10) v N)), hH L m) := by
  intro j
  induction j with
  | zero =>
    intro k hk
    rw [T123_5, if_neg (by omega), show k = N by omega]
  | succ j ih =>
    intro k hk
    have this := ih (k + 1) (by omega)
    rw [upC] at this
    rw [T123_5, if_pos (by omega), if_pos (by omega), Int.toNat_natCast, nat1 (by omega)]
    by_cases e : v < m 11 k
    · rw [if_pos e] at this ⊢
      exact this
    · rw [if_neg e] at this
      rw [if_neg e, if_pos (by omega)]
      exact this
theorem L246 {d L : Nat} {g : Nat → Int} {N : Nat} (o : ofX g N) {v : Int} : ∀ j k : Nat, k + j = N → ∀ m : j_M0, m 110 = g → ∃ m', j_fin (c_call (d + 4)) 246 4 [some (jR 109), some (jI v), some (jI (upM g v k)), some (jI k)] [] (hH L m) = some (some (jI (if upM g v N < 0 then -5 else oC g (upM g v N).toNat)), hH L m') ∧ kpt (fun b _ => b = 141) m m' := by
  have hN := o.2.1
  have h20 := o.2.2.1
  intro j
  induction j with
  | zero =>
    intro k hk m hm
    have ek : k = N := by omega
    rw [T246_4, hm, if_neg (by omega), ek]
    rcases upM_p g v N with ⟨b1, b2⟩ | ⟨b, b1, b2, b3, b4⟩
    · rw [if_pos (by omega), if_pos (by omega)]
      exact ⟨m, rfl, kpt_rfl⟩
    · have i1 : w32 (110 + w32 (2 * (b : Int))) = 110 + 2 * (b : Int) := by rw [w32_id (x := 2 * (b : Int)) (by omega) (by omega), w32_id (by omega) (by omega)]
      rw [b2, if_neg (by omega), i1, if_pos (by omega), show (110 + 2 * (b : Int)).toNat = 110 + 2 * b by omega, if_neg (by omega), Int.toNat_natCast]
      exact ⟨m, rfl, kpt_rfl⟩
  | succ j ih =>
    intro k hk m hm
    have r := o.2.2.2.1 k (by omega)
    obtain ⟨m1, t1, t2⟩ := Q213c (d := d + 1) (L := L) (m := m) (x := oC g k) (by rw [hm]; exact o.1) (by rw [hm]; exact r.1)
    have e1 : m1 110 = g := by rw [← hm]; exact funext (fun z => kpt_at t2 (by omega))
    rw [hm] at t1
    have i1 : w32 (110 + w32 (2 * (k : Int))) = 110 + 2 * (k : Int) := by rw [w32_id (x := 2 * (k : Int)) (by omega) (by omega), w32_id (by omega) (by omega)]
    rw [T246_4, hm, if_pos (by omega), i1, if_pos (by omega), show (110 + 2 * (k : Int)).toNat = 110 + 2 * k by omega, show g (110 + 2 * k) = oC g k from rfl, t1]
    simp only [Option.bind_some, Option.toList_some, List.cons_append, List.nil_append]
    rw [T246_30, nat1 (by omega), show cosF g (oC g k) = oK g k from rfl]
    have step : ∀ m1 : j_M0, m1 110 = g → ∀ z : Int, z = upM g v (k + 1) → ∃ m', j_fin (c_call (d + 4)) 246 4 [some (jR 109), some (jI v), some (jI z), some (jI ((k + 1 : Nat) : Int))] [] (hH L m1) = some (some (jI (if upM g v N < 0 then -5 else oC g (upM g v N).toNat)), hH L m') ∧ kpt (fun b _ => b = 141) m1 m' := fun m1 h z hz => by
      rw [hz]
      exact ih (k + 1) (by omega) m1 h
    have ud : upM g v (k + 1) = if v < oK g k then upM g v k else if upM g v k < 0 then (k : Int) else if oK g (upM g v k).toNat < oK g k ∨ (oK g (upM g v k).toNat = oK g k ∧ oC g (upM g v k).toNat < oC g k) then (k : Int) else upM g v k := rfl
    by_cases e : v < oK g k
    · rw [if_pos e] at ud ⊢
      obtain ⟨m2, s1, s2⟩ := step m1 e1 _ ud.symm
      exact ⟨m2, s1, kpt_tr t2 s2⟩
    · rw [if_neg e] at ud ⊢
      by_cases e2 : upM g v k < 0
      · rw [if_pos e2] at ud ⊢
        obtain ⟨m2, s1, s2⟩ := step m1 e1 _ ud.symm
        exact ⟨m2, s1, kpt_tr t2 s2⟩
      · rw [if_neg e2] at ud ⊢
        rcases upM_p g v k with ⟨b1, b2⟩ | ⟨b, b1, b2, b3, b4⟩
        · omega
        · rw [b2, Int.toNat_natCast] at ud
          obtain ⟨m2, r1, r2⟩ := Q243 (d := d) (L := L) o e1 (a := b) (b := k) (by omega) (by omega)
          have f1 : m2 110 = g := by rw [← e1]; exact funext (fun z => kpt_at r2 (by omega))
          rw [b2, r1]
          simp only [Option.bind_some, Option.toList_some, List.cons_append, List.nil_append]
          rw [T246_44, nat1 (by omega)]
          by_cases e3 : oK g b < oK g k ∨ (oK g b = oK g k ∧ oC g b < oC g k)
          · rw [if_pos e3] at ud
            rw [bI_t e3, if_neg (by decide)]
            obtain ⟨m3, s1, s2⟩ := step m2 f1 _ ud.symm
            exact ⟨m3, s1, kpt_tr t2 (kpt_tr r2 s2)⟩
          · rw [if_neg e3] at ud
            rw [bI_f e3, if_pos rfl]
            obtain ⟨m3, s1, s2⟩ := step m2 f1 _ ud.symm
            exact ⟨m3, s1, kpt_tr t2 (kpt_tr r2 s2)⟩
theorem PA123 {L : Nat} {xs : Nat → Int32} {m : j_M0} (w : Rel xs m) (v : Int) : PA L xs 123 246 [jI v] m := by
  obtain ⟨N, ox, o, e9⟩ := Rel_of w
  have h1 := L123 (C := c_call 9) (L := L) (v := v) e9 ox.2.2.1 N 0 (by omega)
  obtain ⟨m1, t1, t2⟩ := L246 (d := 5) (L := L) ox (v := v) N 0 (by omega) m rfl
  rw [up_same (a := 9) o ox.2.1 v] at t1
  exact ⟨jI (upC (m 11) (m 10) v N), m, m1, (E123 (d := 9)).trans (T123_0.trans h1), (E246 (d := 9)).trans (T246_0.trans t1), Rel_k w (kpt_w t2 (fun b z h => by unfold sc; omega))⟩
/-! dearest -/
def deC (c q : Nat → Int) : Nat → Int
  | 0 => -1
  | k + 1 => if deC c q k < 0 then (k : Int) else if q (deC c q k).toNat - c (deC c q k).toNat < q k - c k then (k : Int) else deC c q k
def oG (g : Nat → Int) (k : Nat) : Int := oA g k - oK g k
def deM (g : Nat → Int) : Nat → Int
  | 0 => -1
  | k + 1 => if deM g k < 0 then (k : Int) else if oG g (deM g k).toNat < oG g k then (k : Int) else if oG g k = oG g (deM g k).toNat then (if oK g k < oK g (deM g k).toNat ∨ (oK g k = oK g (deM g k).toNat ∧ oC g k < oC g (deM g k).toNat) then (k : Int) else deM g k) else deM g k
theorem deC_p (c q : Nat → Int) : ∀ k : Nat, (k = 0 ∧ deC c q k = -1) ∨ ∃ b : Nat, b < k ∧ deC c q k = b ∧ (∀ i : Nat, i < k → q i - c i ≤ q b - c b) ∧ ∀ i : Nat, i < b → q i - c i < q b - c b := by
  intro k
  induction k with
  | zero => exact Or.inl ⟨rfl, rfl⟩
  | succ k ih =>
    right
    unfold deC
    rcases ih with ⟨a1, a2⟩ | ⟨b, a1, a2, a3, a4⟩
    · rw [if_pos (by omega)]
      subst a1
      exact ⟨0, by omega, rfl, fun i hi => by rw [show i = 0 by omega]; exact Int.le_refl _, fun i hi => by omega⟩
    · rw [a2, if_neg (by omega), Int.toNat_natCast]
      by_cases e : q b - c b < q k - c k
      · rw [if_pos e]
        refine ⟨k, by omega, rfl, fun i hi => ?_, fun i hi => ?_⟩
        · by_cases e2 : i = k
          · rw [e2]; exact Int.le_refl _
          · have := a3 i (by omega)
            omega
        · have := a3 i (by omega)
          omega
      · rw [if_neg e]
        refine ⟨b, by omega, rfl, fun i hi => ?_, a4⟩
        by_cases e2 : i = k
        · rw [e2]; omega
        · exact a3 i (by omega)
theorem deM_p (g : Nat → Int) : ∀ k : Nat, (k = 0 ∧ deM g k = -1) ∨ ∃ b : Nat, b < k ∧ deM g k = b ∧ (∀ i : Nat, i < k → oG g i ≤ oG g b) ∧ ∀ i : Nat, i < k → oG g i = oG g b → ¬ lsO (oK g i) (oC g i) (oK g b) (oC g b) := by
  intro k
  induction k with
  | zero => exact Or.inl ⟨rfl, rfl⟩
  | succ k ih =>
    right
    unfold deM
    rcases ih with ⟨a1, a2⟩ | ⟨b, a1, a2, a3, a4⟩
    · rw [if_pos (by omega)]
      subst a1
      exact ⟨0, by omega, rfl, fun i hi => by rw [show i = 0 by omega]; exact Int.le_refl _, fun i hi _ => by rw [show i = 0 by omega]; exact lsO_n⟩
    · rw [a2, if_neg (by omega), Int.toNat_natCast]
      by_cases e : oG g b < oG g k
      · rw [if_pos e]
        refine ⟨k, by omega, rfl, fun i hi => ?_, fun i hi h => ?_⟩
        · by_cases e2 : i = k
          · rw [e2]; exact Int.le_refl _
          · have := a3 i (by omega)
            omega
        · by_cases e2 : i = k
          · rw [e2]; exact lsO_n
          · have := a3 i (by omega)
            omega
      · rw [if_neg e]
        by_cases e3 : oG g k = oG g b
        · rw [if_pos e3]
          by_cases e4 : oK g k < oK g b ∨ (oK g k = oK g b ∧ oC g k < oC g b)
          · rw [if_pos e4]
            refine ⟨k, by omega, rfl, fun i hi => ?_, fun i hi h => ?_⟩
            · by_cases e2 : i = k
              · rw [e2]; exact Int.le_refl _
              · rw [e3]; exact a3 i (by omega)
            · by_cases e2 : i = k
              · rw [e2]; exact lsO_n
              · exact fun h2 => a4 i (by omega) (h.trans e3) (lsO_t h2 e4)
          · rw [if_neg e4]
            refine ⟨b, by omega, rfl, fun i hi => ?_, fun i hi h => ?_⟩
            · by_cases e2 : i = k
              · rw [e2]; omega
              · exact a3 i (by omega)
            · by_cases e2 : i = k
              · rw [e2]; exact e4
              · exact a4 i (by omega) h
        · rw [if_neg e3]
          refine ⟨b, by omega, rfl, fun i hi => ?_, fun i hi h => ?_⟩
          · by_cases e2 : i = k
            · rw [e2]; omega
            · exact a3 i (by omega)
          · by_cases e2 : i = k
            · rw [e2] at h; exact absurd h e3
            · exact a4 i (by omega) h
theorem de_same {a : Nat} {g : Nat → Int} {m : j_M0} (o : ofR a g m) {N : Nat} (hN : g 6 = N) : (if deM g N < 0 then -5 else oC g (deM g N).toNat) = (if deC (m (a + 2)) (m (a + 3)) N < 0 then -5 else m (a + 1) (deC (m (a + 2)) (m (a + 3)) N).toNat) := by
  rcases deC_p (m (a + 2)) (m (a + 3)) N with ⟨a1, a2⟩ | ⟨p, a1, a2, a3, a4⟩
  · rcases deM_p g N with ⟨b1, b2⟩ | ⟨b, b1, b2, b3, b4⟩
    · rw [if_pos (by omega), if_pos (by omega)]
    · omega
  · rcases deM_p g N with ⟨b1, b2⟩ | ⟨b, b1, b2, b3, b4⟩
    · omega
    · rw [b2, if_neg (by omega), Int.toNat_natCast, a2, if_neg (by omega), Int.toNat_natCast]
      obtain ⟨i, i1, i2, i3, i4⟩ := ofR_j o hN b1
      obtain ⟨k, k1, k2, k3, k4⟩ := ofR_i o hN a1
      have u1 := b3 k k1
      have u2 := a3 i i1
      have gk : oG g k = m (a + 3) p - m (a + 2) p := by unfold oG; rw [k3, k4]
      have gb : oG g b = m (a + 3) i - m (a + 2) i := by unfold oG; rw [i3, i4]
      have h := b4 k k1 (by omega)
      rw [i2, i4, k2, k4, ofR_l o hN a1 i1] at h
      by_cases e : i = p
      · rw [i2, e]
      · have := a4 i (by omega)
        omega
theorem Q24 {d L k : Nat} {m : j_M0} (hk : k < 20) (h : (0 ≤ m 12 k ∧ m 12 k ≤ 999) ∧ -5000 ≤ m 11 k ∧ m 11 k ≤ 5000) : c_call (d + 1) 24 [jR 9, jI k] (hH L m) = some (some (jI (m 12 k - m 11 k)), hH L m) := by
  rw [E24, T24_0, if_pos (by omega), if_pos (by omega), Int.toNat_natCast, w32_id (by omega) (by omega)]
theorem L124 {d L N : Nat} {m : j_M0} (h9 : m 9 0 = N) (h20 : N ≤ 20) (hr : ∀ k : Nat, k < N → (0 ≤ m 12 k ∧ m 12 k ≤ 999) ∧ -5000 ≤ m 11 k ∧ m 11 k ≤ 5000) : ∀ j k : Nat, k + j = N → j_fin (c_call (d + 1)) 124 4 [some (jR 2), some (jI (deC (m 11) (m 12) k)), some (jI k)] [] (hH L m) = some (some (jI (if deC (m 11) (m 12) N < 0 then -5 else m 10 (deC (m 11) (m 12) N).toNat)), hH L m) := by
  intro j
  induction j with
  | zero =>
    intro k hk
    have ek : k = N := by omega
    rw [T124_4, if_neg (by omega), ek]
    rcases deC_p (m 11) (m 12) N with ⟨a1, a2⟩ | ⟨b, a1, a2, -⟩
    · rw [if_pos (by omega), if_pos (by omega)]
    · rw [a2, if_neg (by omega), if_pos (by omega), if_neg (by omega)]
  | succ j ih =>
    intro k hk
    have this := ih (k + 1) (by omega)
    rw [deC] at this
    rw [T124_4, if_pos (by omega), nat1 (by omega)]
    rcases deC_p (m 11) (m 12) k with ⟨a1, a2⟩ | ⟨b, a1, a2, -⟩
    · rw [if_pos (by omega)] at this ⊢
      exact this
    · rw [a2] at this ⊢
      rw [if_neg (by omega), Int.toNat_natCast] at this
      rw [if_neg (by omega), Q24 (by omega) (hr k (by omega))]
      simp only [Option.bind_some, Option.toList_some, List.cons_append, List.nil_append]
      rw [T124_33, Q24 (by omega) (hr b (by omega))]
      simp only [Option.bind_some, Option.toList_some, List.cons_append, List.nil_append]
      rw [T124_44, nat1 (by omega)]
      by_cases e : m 12 b - m 11 b < m 12 k - m 11 k
      · rw [if_pos e] at this ⊢
        exact this
      · rw [if_neg e] at this ⊢
        exact this
theorem Q247 {d L : Nat} {g : Nat → Int} {N : Nat} (o : ofX g N) {m : j_M0} (hm : m 110 = g) {k : Nat} (hk : k < N) : ∃ m', c_call (d + 4) 247 [jR 109, jI k] (hH L m) = some (some (jI (oG g k)), hH L m') ∧ kpt (fun b _ => b = 141) m m' := by
  have h20 := o.2.2.1
  have r := o.2.2.2.1 k hk
  have ca := cosF_r o.1 (oC g k)
  obtain ⟨m1, t1, t2⟩ := Q213c (d := d) (L := L) (m := m) (x := oC g k) (by rw [hm]; exact o.1) (by rw [hm]; exact r.1)
  rw [hm] at t1
  have i1 : w32 (110 + w32 (2 * (k : Int))) = 110 + 2 * (k : Int) := by rw [w32_id (x := 2 * (k : Int)) (by omega) (by omega), w32_id (by omega) (by omega)]
  have i2 : w32 (110 + 2 * (k : Int) + 1) = 111 + 2 * (k : Int) := by rw [w32_id (by omega) (by omega)]; omega
  rw [E247, T247_0, i1, i2, if_pos (by omega), if_pos (by omega), hm, show (110 + 2 * (k : Int)).toNat = 110 + 2 * k by omega, show (111 + 2 * (k : Int)).toNat = 111 + 2 * k by omega, show g (110 + 2 * k) = oC g k from rfl, t1]
  simp only [Option.bind_some, Option.toList_some, List.cons_append, List.nil_append]
  rw [T247_28, show g (111 + 2 * k) = oA g k from rfl, w32_id (by omega) (by omega)]
  exact ⟨m1, rfl, t2⟩
theorem L248 {d L : Nat} {g : Nat → Int} {N : Nat} (o : ofX g N) : ∀ j k : Nat, k + j = N → ∀ m : j_M0, m 110 = g → ∃ m', j_fin (c_call (d + 4)) 248 4 [some (jR 109), some (jI (deM g k)), some (jI k)] [] (hH L m) = some (some (jI (if deM g N < 0 then -5 else oC g (deM g N).toNat)), hH L m') ∧ kpt (fun b _ => b = 141) m m' := by
  have hN := o.2.1
  have h20 := o.2.2.1
  intro j
  induction j with
  | zero =>
    intro k hk m hm
    have ek : k = N := by omega
    rw [T248_4, hm, if_neg (by omega), ek]
    rcases deM_p g N with ⟨b1, b2⟩ | ⟨b, b1, b2, b3, b4⟩
    · rw [if_pos (by omega), if_pos (by omega)]
      exact ⟨m, rfl, kpt_rfl⟩
    · have i1 : w32 (110 + w32 (2 * (b : Int))) = 110 + 2 * (b : Int) := by rw [w32_id (x := 2 * (b : Int)) (by omega) (by omega), w32_id (by omega) (by omega)]
      rw [b2, if_neg (by omega), i1, if_pos (by omega), show (110 + 2 * (b : Int)).toNat = 110 + 2 * b by omega, if_neg (by omega), Int.toNat_natCast]
      exact ⟨m, rfl, kpt_rfl⟩
  | succ j ih =>
    intro k hk m hm
    have step : ∀ m1 : j_M0, m1 110 = g → ∀ z : Int, z = deM g (k + 1) → ∃ m', j_fin (c_call (d + 4)) 248 4 [some (jR 109), some (jI z), some (jI ((k + 1 : Nat) : Int))] [] (hH L m1) = some (some (jI (if deM g N < 0 then -5 else oC g (deM g N).toNat)), hH L m') ∧ kpt (fun b _ => b = 141) m1 m' := fun m1 h z hz => by
      rw [hz]
      exact ih (k + 1) (by omega) m1 h
    have ud : deM g (k + 1) = if deM g k < 0 then (k : Int) else if oG g (deM g k).toNat < oG g k then (k : Int) else if oG g k = oG g (deM g k).toNat then (if oK g k < oK g (deM g k).toNat ∨ (oK g k = oK g (deM g k).toNat ∧ oC g k < oC g (deM g k).toNat) then (k : Int) else deM g k) else deM g k := rfl
    rw [T248_4, hm, if_pos (by omega), nat1 (by omega)]
    rcases deM_p g k with ⟨b1, b2⟩ | ⟨b, b1, b2, b3, b4⟩
    · rw [if_pos (by omega)] at ud ⊢
      exact step m hm _ ud.symm
    · rw [b2, if_neg (by omega), Int.toNat_natCast] at ud
      obtain ⟨m1, t1, t2⟩ := Q247 (d := d) (L := L) o hm (k := k) (by omega)
      have f1 : m1 110 = g := by rw [← hm]; exact funext (fun z => kpt_at t2 (by omega))
      obtain ⟨m2, p1, p2⟩ := Q247 (d := d) (L := L) o f1 (k := b) (by omega)
      have f2 : m2 110 = g := by rw [← f1]; exact funext (fun z => kpt_at p2 (by omega))
      rw [b2, if_neg (by omega), t1]
      simp only [Option.bind_some, Option.toList_some, List.cons_append, List.nil_append]
      rw [T248_24, p1]
      simp only [Option.bind_some, Option.toList_some, List.cons_append, List.nil_append]
      rw [T248_29, nat1 (by omega)]
      by_cases e : oG g b < oG g k
      · rw [if_pos e] at ud ⊢
        obtain ⟨m3, s1, s2⟩ := step m2 f2 _ ud.symm
        exact ⟨m3, s1, kpt_tr t2 (kpt_tr p2 s2)⟩
      · rw [if_neg e] at ud ⊢
        obtain ⟨m3, q1, q2⟩ := Q247 (d := d) (L := L) o f2 (k := k) (by omega)
        have f3 : m3 110 = g := by rw [← f2]; exact funext (fun z => kpt_at q2 (by omega))
        obtain ⟨m4, r1, r2⟩ := Q247 (d := d) (L := L) o f3 (k := b) (by omega)
        have f4 : m4 110 = g := by rw [← f3]; exact funext (fun z => kpt_at r2 (by omega))
        have k4 := kpt_tr t2 (kpt_tr p2 (kpt_tr q2 r2))
        rw [q1]
        simp only [Option.bind_some, Option.toList_some, List.cons_append, List.nil_append]
        rw [T248_37, r1]
        simp only [Option.bind_some, Option.toList_some, List.cons_append, List.nil_append]
        rw [T248_42, nat1 (by omega)]
        by_cases e3 : oG g k = oG g b
        · rw [if_pos e3] at ud ⊢
          obtain ⟨m5, u1, u2⟩ := Q243 (d := d) (L := L) o f4 (a := k) (b := b) (by omega) (by omega)
          have f5 : m5 110 = g := by rw [← f4]; exact funext (fun z => kpt_at u2 (by omega))
          rw [u1]
          simp only [Option.bind_some, Option.toList_some, List.cons_append, List.nil_append]
          rw [T248_51, nat1 (by omega)]
          by_cases e4 : oK g k < oK g b ∨ (oK g k = oK g b ∧ oC g k < oC g b)
          · rw [if_pos e4] at ud
            rw [bI_t e4, if_neg (by decide)]
            obtain ⟨m6, s1, s2⟩ := step m5 f5 _ ud.symm
            exact ⟨m6, s1, kpt_tr k4 (kpt_tr u2 s2)⟩
          · rw [if_neg e4] at ud
            rw [bI_f e4, if_pos rfl]
            obtain ⟨m6, s1, s2⟩ := step m5 f5 _ ud.symm
            exact ⟨m6, s1, kpt_tr k4 (kpt_tr u2 s2)⟩
        · rw [if_neg e3] at ud ⊢
          obtain ⟨m6, s1, s2⟩ := step m4 f4 _ ud.symm
          exact ⟨m6, s1, kpt_tr k4 s2⟩
theorem PA124 {L : Nat} {xs : Nat → Int32} {m : j_M0} (w : Rel xs m) : PA L xs 124 248 [] m := by
  obtain ⟨N, ox, o, e9⟩ := Rel_of w
  have h1 := L124 (d := 8) (L := L) e9 ox.2.2.1 (fun k hk => by
    obtain ⟨i, i1, i2, i3, i4⟩ := ofR_i o ox.2.1 hk
    simp only [Nat.reduceAdd] at i3 i4
    rw [← i3, ← i4]
    exact ⟨(ox.2.2.2.1 i i1).2, cosF_r ox.1 _⟩) N 0 (by omega)
  obtain ⟨m1, t1, t2⟩ := L248 (d := 5) (L := L) ox N 0 (by omega) m rfl
  rw [de_same (a := 9) o ox.2.1] at t1
  exact ⟨_, m, m1, (E124 (d := 9)).trans (T124_0.trans h1), (E248 (d := 9)).trans (T248_0.trans t1), Rel_k w (kpt_w t2 (fun b z h => by unfold sc; omega))⟩
