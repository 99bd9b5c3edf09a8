/-! peek, item, tape. -/
def tpW (b z : Nat) : Prop := b = 99 ∨ b = 100 ∨ (102 ≤ b ∧ b ≤ 107) ∨ (151 ≤ b ∧ b ≤ 154)
theorem Rel_q142 {L : j_B} {m : j_M0} (x : Int) : c_call 9 142 [jI x] (hH L m) = some (some (jI (bI (0 ≤ x ∧ x < 6))), hH L m) := Q142 (d := 8)
/-! item -/
def heF (s v : Int) : Int := if s = 0 then w8 (w32 v) else if s = 1 then w16 (w32 v) else if s = 2 then w32 v else if s = 3 then v else if v = 0 then 0 else 1
theorem heF_r {s v : Int} (hv : -9223372036854775808 ≤ v ∧ v ≤ 9223372036854775807) : itR s (heF s v) := by
  have h2 := w32_r v
  have h1 : ∀ y : Int, -32768 ≤ w16 y ∧ w16 y ≤ 32767 := fun y => by
    unfold w16 Int.bmod
    simp only
    omega
  have h0 : ∀ y : Int, -128 ≤ w8 y ∧ w8 y ≤ 127 := fun y => by
    unfold w8 Int.bmod
    simp only
    omega
  have a0 := h0 (w32 v)
  have a1 := h1 (w32 v)
  unfold itR heF
  split
  · omega
  · split
    · omega
    · split
      · omega
      · split
        · omega
        · split <;> omega
/-! tape -/
theorem L269 {C : Nat → List j_V → j_H → Option j_Z} {t : Nat} {L : j_B} (ht : t < 6) : ∀ j k : Nat, k + j = 60 → ∀ m : j_M0, (∀ p : Nat, p < k → m (102 + t) p = 0) → ∃ m', j_fin C 269 6 [some (jR (102 + t)), some (jL 0), none, some (jI k), some (jI 60)] [] (hH L m) = some (none, hH L m') ∧ kpt (fun b _ => b = 102 + t) m m' ∧ ∀ p : Nat, p < 60 → m' (102 + t) p = 0 := by
  intro j
  induction j with
  | zero =>
    intro k hk m h
    rw [T269_6 ht, if_neg (by omega)]
    exact ⟨m, rfl, kpt_rfl, fun p hp => h p (by omega)⟩
  | succ j ih =>
    intro k hk m h
    rw [T269_6 ht, if_pos (by omega), if_pos (by omega), nat1 (by omega), Int.toNat_natCast]
    obtain ⟨m', t1, t2, t3⟩ := ih (k + 1) (by omega) (j_up m (102 + t) k 0) (fun p hp => by
      rw [up_at]
      by_cases e : p = k
      · rw [if_pos e]
      · rw [if_neg e]; exact h p (by omega))
    exact ⟨m', t1, kpt_tr (kpt_up rfl) t2, t3⟩
theorem Q61 {d t : Nat} {L : j_B} {m : j_M0} {s v : Int} (ht : t < 6) : ∃ m', c_call (d + 2) 61 [jR 98, jI t, jI s, jI v] (hH L m) = some (none, hH L m') ∧ kpt (fun b z => (b = 99 ∨ b = 100) ∧ z = t ∨ b = 102 + t) m m' ∧ m' 99 t = s ∧ m' 100 t = v ∧ ∀ p : Nat, p < 60 → m' (102 + t) p = 0 := by
  obtain ⟨m1, t1, t2, t3⟩ := L269 (C := c_call d) (L := L) ht 60 0 (by omega) (j_up (j_up m 99 t s) 100 t v) (fun p hp => absurd hp (Nat.not_lt_zero p))
  have t1' : j_fin (c_call d) 269 6 [some (jR (102 + t)), some (jL 0), none, some (jI 0), some (jI 60)] [] (hH L (j_up (j_up m 99 t s) 100 t v)) = _ := t1
  refine ⟨m1, ?_, kpt_tr (kpt_up (by omega)) (kpt_tr (kpt_up (by omega)) (kpt_w t2 (fun b z h => by omega))), ?_, ?_, t3⟩
  · rw [E61, T61_0, if_pos (by omega), if_pos (by omega), if_pos (by omega), Int.toNat_natCast, E269, T269_0 ht, t1']
    simp only [Option.bind_some, Option.toList_some, List.cons_append, List.nil_append, Option.toList_none]
    rw [T61_24]
  · rw [kpt_at t2 (by omega), up_ne (by omega), up_eq rfl]
  · rw [kpt_at t2 (by omega), up_eq rfl]
