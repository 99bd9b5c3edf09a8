/-! What a pivot makes of a row. -/
def rowN (T : TB) (r c i : Nat) : Prop := (∀ k : Nat, k < tC T → nr (newE T r c i k)) ∧ nr (newI T r c i)
def pivB (T : TB) (r c : Nat) : Bool := decide ((∀ i : Nat, i < tR T → (∀ k : Nat, k < tC T → nr (newE T r c i k)) ∧ nr (newI T r c i)) ∧ (∀ k : Nat, k < tC T → nr (newS T r c k)) ∧ nr (newB T r c))
def pivF (T : TB) (r c : Nat) : TB := ((tR T, tC T, tP T + 1, newB T r c, -(te T r c)), fun i => if i = r then tos T c else tow T i, fun k => if k = c then tow T r else tos T k, fun i k => newE T r c i k, fun i => newI T r c i, fun k => newS T r c k)
theorem L50_41 {d : Nat} {L : j_B} {T : TB} (o : tOK T) {r c i : Nat} (hr : r < tR T) (hc : c < tC T) (hi : i < tR T) : ∀ j k : Nat, k + j = tC T → ∀ (m : j_M0) (o7 o9 : Option j_V), vC 41 T m → (∀ q : Nat, q < k → nr (newE T r c i q) ∧ m 47 (5 * i + q) = newE T r c i q) → ∃ s m', j_fin (c_call (d + 1)) 50 15 [some (jR 41), some (jI i), some (jI r), some (jI c), some (jL (te T i c)), none, some (jI k), o7, none, o9, none] [] (hH L m) = some (some (jI s), hH L m') ∧ kpt (fun b x => b = 47 ∧ 5 * i ≤ x ∧ x < 5 * i + 5 ∨ b = 48 ∧ x = i) m m' ∧ ((s = 1 ∧ rowN T r c i ∧ (∀ q : Nat, q < tC T → m' 47 (5 * i + q) = newE T r c i q) ∧ m' 48 i = newI T r c i) ∨ (s = 0 ∧ ¬ rowN T r c i)) := by
  have o1 := o.1
  have o2 := o.2.2.1
  have o3 := o.2.2.2.2.1
  intro j
  induction j with
  | zero =>
    intro k hk m o7 o9 v hw
    have k3 := v.2.1
    have k5 := v.2.2.2.2.2.2.2.2.1 i hi
    have k6 := v.2.2.2.2.2.2.2.2.1 r hr
    have r2 := o.2.2.2.2.2.2.2.2.1 i c hi hc
    have r5 := o.2.2.2.2.2.2.2.2.2.1 i hi
    have r6 := o.2.2.2.2.2.2.2.2.2.1 r hr
    simp only [Nat.reduceAdd] at k5 k6
    have hkk : k = tC T := by omega
    subst hkk
    have w : ∀ x m, c_call (d + 1) 144 [jL x] (hH L m) = some (some (jI (bI (nr x))), hH L m) := fun x m => Q144
    have fin : ∀ x : Int, x = newI T r c i → ∃ s m', j_fin (c_call (d + 1)) 50 169 [some (jR 41), some (jI i), some (jI r), some (jI c), some (jL (te T i c)), none, some (jI (tC T)), o7, none, o9, none] [jL x, jI i, jR 48] (hH L m) = some (some (jI s), hH L m') ∧ kpt (fun b x => b = 47 ∧ 5 * i ≤ x ∧ x < 5 * i + 5 ∨ b = 48 ∧ x = i) m m' ∧ ((s = 1 ∧ rowN T r c i ∧ (∀ q : Nat, q < tC T → m' 47 (5 * i + q) = newE T r c i q) ∧ m' 48 i = newI T r c i) ∨ (s = 0 ∧ ¬ rowN T r c i)) := by
      intro x hx
      subst hx
      rw [T50_169_41, if_pos (by omega), if_pos (by omega), Int.toNat_natCast, up_eq rfl, w]
      simp only [Option.bind_some, Option.toList_some, List.cons_append, List.nil_append, T50_179_41, bI_01, if_true]
      refine ⟨_, _, rfl, kpt_up (Or.inr ⟨rfl, rfl⟩), ?_⟩
      by_cases e : nr (newI T r c i)
      · refine Or.inl ⟨by unfold bI; rw [if_pos e], ⟨fun q hq => (hw q hq).1, e⟩, ?_, up_eq rfl⟩
        intro q hq
        rw [up_ne (by omega)]
        exact (hw q hq).2
      · exact Or.inr ⟨by unfold bI; rw [if_neg e], fun h => e h.2⟩
    rw [T50_15_41, if_neg (by omega)]
    by_cases e1 : i = r
    · rw [if_pos (by omega), if_pos (by omega), Int.toNat_natCast, k6, w64_id (by omega) (by omega)]
      apply fin
      unfold newI
      rw [if_pos e1]
    · rw [if_neg (by omega), if_pos (by omega), if_pos (by omega), Int.toNat_natCast, Int.toNat_natCast, k5, k6, Q51_41 v o hr hc (by omega) (by omega) (by omega) (by omega) (by omega) (by omega)]
      simp only [Option.bind_some, Option.toList_some, List.cons_append, List.nil_append]
      apply fin
      unfold newI
      rw [if_neg e1]
  | succ j ih =>
    intro k hk m o7 o9 v hw
    rw [Z50_41 v o hr hc hi (by omega)]
    by_cases e : nr (newE T r c i k)
    · rw [if_pos e]
      obtain ⟨s, m', h1, h2, h3⟩ := ih (k + 1) (by omega) (j_up m 47 (5 * i + k) (newE T r c i k)) (some (jL (te T i k))) (some (jL (newE T r c i k))) (vC_k v (fun b s h h' => up_ne (by omega))) (by
        intro q hq
        by_cases e' : q = k
        · subst e'
          exact ⟨e, up_eq rfl⟩
        · rw [up_nj (by omega)]
          exact hw q (by omega))
      exact ⟨s, m', h1, kpt_tr (kpt_up (Or.inl ⟨rfl, by omega, by omega⟩)) h2, h3⟩
    · rw [if_neg e]
      exact ⟨0, m, rfl, kpt_rfl, Or.inr ⟨rfl, fun h => e (h.1 k (by omega))⟩⟩
theorem Q50_41 {d : Nat} {L : j_B} {T : TB} {m : j_M0} (v : vC 41 T m) (o : tOK T) {r c i : Nat} (hr : r < tR T) (hc : c < tC T) (hi : i < tR T) : ∃ s m', c_call (d + 2) 50 [jR 41, jI i, jI r, jI c] (hH L m) = some (some (jI s), hH L m') ∧ kpt (fun b x => b = 47 ∧ 5 * i ≤ x ∧ x < 5 * i + 5 ∨ b = 48 ∧ x = i) m m' ∧ ((s = 1 ∧ rowN T r c i ∧ (∀ q : Nat, q < tC T → m' 47 (5 * i + q) = newE T r c i q) ∧ m' 48 i = newI T r c i) ∨ (s = 0 ∧ ¬ rowN T r c i)) := by
  have o1 := o.1
  have o2 := o.2.2.1
  have k1 := v.2.2.2.2.2.2.2.1 i c hi hc
  simp only [Nat.reduceAdd] at k1
  rw [E50, T50_0_41]
  simp (disch := omega) only [w32_id, show ((i : Int) * 5 + (c : Int)).toNat = 5 * i + c by omega, k1]
  rw [if_pos (by omega)]
  exact L50_41 o hr hc hi (tC T) 0 (by omega) m none none v (fun q h => absurd h (by omega))
theorem L50_55 {d : Nat} {L : j_B} {T : TB} (o : tOK T) {r c i : Nat} (hr : r < tR T) (hc : c < tC T) (hi : i < tR T) : ∀ j k : Nat, k + j = tC T → ∀ (m : j_M0) (o7 o9 : Option j_V), vC 55 T m → (∀ q : Nat, q < k → nr (newE T r c i q) ∧ m 61 (5 * i + q) = newE T r c i q) → ∃ s m', j_fin (c_call (d + 1)) 50 15 [some (jR 55), some (jI i), some (jI r), some (jI c), some (jL (te T i c)), none, some (jI k), o7, none, o9, none] [] (hH L m) = some (some (jI s), hH L m') ∧ kpt (fun b x => b = 61 ∧ 5 * i ≤ x ∧ x < 5 * i + 5 ∨ b = 62 ∧ x = i) m m' ∧ ((s = 1 ∧ rowN T r c i ∧ (∀ q : Nat, q < tC T → m' 61 (5 * i + q) = newE T r c i q) ∧ m' 62 i = newI T r c i) ∨ (s = 0 ∧ ¬ rowN T r c i)) := by
  have o1 := o.1
  have o2 := o.2.2.1
  have o3 := o.2.2.2.2.1
  intro j
  induction j with
  | zero =>
    intro k hk m o7 o9 v hw
    have k3 := v.2.1
    have k5 := v.2.2.2.2.2.2.2.2.1 i hi
    have k6 := v.2.2.2.2.2.2.2.2.1 r hr
    have r2 := o.2.2.2.2.2.2.2.2.1 i c hi hc
    have r5 := o.2.2.2.2.2.2.2.2.2.1 i hi
    have r6 := o.2.2.2.2.2.2.2.2.2.1 r hr
    simp only [Nat.reduceAdd] at k5 k6
    have hkk : k = tC T := by omega
    subst hkk
    have w : ∀ x m, c_call (d + 1) 144 [jL x] (hH L m) = some (some (jI (bI (nr x))), hH L m) := fun x m => Q144
    have fin : ∀ x : Int, x = newI T r c i → ∃ s m', j_fin (c_call (d + 1)) 50 169 [some (jR 55), some (jI i), some (jI r), some (jI c), some (jL (te T i c)), none, some (jI (tC T)), o7, none, o9, none] [jL x, jI i, jR 62] (hH L m) = some (some (jI s), hH L m') ∧ kpt (fun b x => b = 61 ∧ 5 * i ≤ x ∧ x < 5 * i + 5 ∨ b = 62 ∧ x = i) m m' ∧ ((s = 1 ∧ rowN T r c i ∧ (∀ q : Nat, q < tC T → m' 61 (5 * i + q) = newE T r c i q) ∧ m' 62 i = newI T r c i) ∨ (s = 0 ∧ ¬ rowN T r c i)) := by
      intro x hx
      subst hx
      rw [T50_169_55, if_pos (by omega), if_pos (by omega), Int.toNat_natCast, up_eq rfl, w]
      simp only [Option.bind_some, Option.toList_some, List.cons_append, List.nil_append, T50_179_55, bI_01, if_true]
      refine ⟨_, _, rfl, kpt_up (Or.inr ⟨rfl, rfl⟩), ?_⟩
      by_cases e : nr (newI T r c i)
      · refine Or.inl ⟨by unfold bI; rw [if_pos e], ⟨fun q hq => (hw q hq).1, e⟩, ?_, up_eq rfl⟩
        intro q hq
        rw [up_ne (by omega)]
        exact (hw q hq).2
      · exact Or.inr ⟨by unfold bI; rw [if_neg e], fun h => e h.2⟩
    rw [T50_15_55, if_neg (by omega)]
    by_cases e1 : i = r
    · rw [if_pos (by omega), if_pos (by omega), Int.toNat_natCast, k6, w64_id (by omega) (by omega)]
      apply fin
      unfold newI
      rw [if_pos e1]
    · rw [if_neg (by omega), if_pos (by omega), if_pos (by omega), Int.toNat_natCast, Int.toNat_natCast, k5, k6, Q51_55 v o hr hc (by omega) (by omega) (by omega) (by omega) (by omega) (by omega)]
      simp only [Option.bind_some, Option.toList_some, List.cons_append, List.nil_append]
      apply fin
      unfold newI
      rw [if_neg e1]
  | succ j ih =>
    intro k hk m o7 o9 v hw
    rw [Z50_55 v o hr hc hi (by omega)]
    by_cases e : nr (newE T r c i k)
    · rw [if_pos e]
      obtain ⟨s, m', h1, h2, h3⟩ := ih (k + 1) (by omega) (j_up m 61 (5 * i + k) (newE T r c i k)) (some (jL (te T i k))) (some (jL (newE T r c i k))) (vC_k v (fun b s h h' => up_ne (by omega))) (by
        intro q hq
        by_cases e' : q = k
        · subst e'
          exact ⟨e, up_eq rfl⟩
        · rw [up_nj (by omega)]
          exact hw q (by omega))
      exact ⟨s, m', h1, kpt_tr (kpt_up (Or.inl ⟨rfl, by omega, by omega⟩)) h2, h3⟩
    · rw [if_neg e]
      exact ⟨0, m, rfl, kpt_rfl, Or.inr ⟨rfl, fun h => e (h.1 k (by omega))⟩⟩
theorem Q50_55 {d : Nat} {L : j_B} {T : TB} {m : j_M0} (v : vC 55 T m) (o : tOK T) {r c i : Nat} (hr : r < tR T) (hc : c < tC T) (hi : i < tR T) : ∃ s m', c_call (d + 2) 50 [jR 55, jI i, jI r, jI c] (hH L m) = some (some (jI s), hH L m') ∧ kpt (fun b x => b = 61 ∧ 5 * i ≤ x ∧ x < 5 * i + 5 ∨ b = 62 ∧ x = i) m m' ∧ ((s = 1 ∧ rowN T r c i ∧ (∀ q : Nat, q < tC T → m' 61 (5 * i + q) = newE T r c i q) ∧ m' 62 i = newI T r c i) ∨ (s = 0 ∧ ¬ rowN T r c i)) := by
  have o1 := o.1
  have o2 := o.2.2.1
  have k1 := v.2.2.2.2.2.2.2.1 i c hi hc
  simp only [Nat.reduceAdd] at k1
  rw [E50, T50_0_55]
  simp (disch := omega) only [w32_id, show ((i : Int) * 5 + (c : Int)).toNat = 5 * i + c by omega, k1]
  rw [if_pos (by omega)]
  exact L50_55 o hr hc hi (tC T) 0 (by omega) m none none v (fun q h => absurd h (by omega))
