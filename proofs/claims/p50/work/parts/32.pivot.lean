/-! The class's pivot. -/
theorem up_at {m : j_M0} {a i j : Nat} {v : Int} : j_up m a i v a j = if j = i then v else m a j := by unfold j_up; rw [if_pos rfl]
theorem cpy_ne {m : j_M0} {a sp b dp n c j : Nat} (h : c ≠ b) : j_cpy m a sp b dp n c j = m c j := by unfold j_cpy; rw [if_neg h]
theorem cpy_at {m : j_M0} {a b n j : Nat} : j_cpy m a 0 b 0 n b j = if j < n then m a j else m b j := by
  unfold j_cpy
  rw [if_pos rfl]
  simp
theorem pivB_t {T : TB} {r c : Nat} (h1 : ∀ i : Nat, i < tR T → rowN T r c i) (h2 : ∀ k : Nat, k < tC T → nr (newS T r c k)) (h3 : nr (newB T r c)) : pivB T r c = true := by
  unfold pivB
  exact decide_eq_true ⟨h1, h2, h3⟩
theorem pivB_f {T : TB} {r c : Nat} (h : ¬ ((∀ i : Nat, i < tR T → rowN T r c i) ∧ (∀ k : Nat, k < tC T → nr (newS T r c k)) ∧ nr (newB T r c))) : pivB T r c = false := by
  unfold pivB
  exact decide_eq_false h
theorem F49_41 {C : Nat → List j_V → j_H → Option j_Z} {L : j_B} {T : TB} {m : j_M0} (v : vC 41 T m) (o : tOK T) {r c : Nat} (hr : r < tR T) (hc : c < tC T) (h1 : (∀ i : Nat, i < tR T → rowN T r c i ∧ (∀ q : Nat, q < tC T → m 47 (5 * i + q) = newE T r c i q) ∧ m 48 i = newI T r c i)) (h2 : (∀ q : Nat, q < tC T → nr (newS T r c q) ∧ m 49 q = newS T r c q)) : ∃ s m', j_fin C 49 134 [some (jR 41), some (jI r), some (jI c), some (jL (newB T r c)), none, none] [jI (bI (nr (newB T r c)))] (hH L m) = some (some (jI s), hH L m') ∧ kpt (fun b _ => 41 ≤ b ∧ b ≤ 49) m m' ∧ ((s = 1 ∧ pivB T r c = true ∧ vC 41 (pivF T r c) m') ∨ (s = 0 ∧ pivB T r c = false ∧ vC 41 T m')) := by
  have o1 := o.1
  have o2 := o.2.2.1
  have o3 := o.2.2.2.1
  have k0 := v.1
  have k1 := v.2.1
  have k2 := v.2.2.1
  have k3 := v.2.2.2.2.2.2.2.1 r c hr hc
  have k4 := v.2.2.2.2.2.1 r hr
  have k5 := v.2.2.2.2.2.2.1 c hc
  have r3 := o.2.2.2.2.2.2.2.2.1 r c hr hc
  simp only [Nat.reduceAdd] at k3 k4 k5
  by_cases e : nr (newB T r c)
  · rw [T49_134_41, if_neg (by rw [bI_0]; exact not_not_intro e)]
    simp (disch := omega) only [w32_id, show ((r : Int) * 5 + (c : Int)).toNat = 5 * r + c by omega, up_ne, up_nj, up_eq, cpy_ne, k0, k1, k2, k3, k4, k5, w64_id, Int.toNat_natCast, eq_true (show (0 : Int) ≤ (r : Int) * 5 + c ∧ (r : Int) * 5 + c < 100 by omega), eq_true (show (0 : Int) ≤ (tR T : Int) * 5 ∧ (0 : Int) ≤ 0 ∧ (0 : Int) ≤ 0 ∧ 0 + (tR T : Int) * 5 ≤ 100 ∧ 0 + (tR T : Int) * 5 ≤ 100 by omega), eq_true (show (0 : Int) ≤ (tR T : Int) ∧ (0 : Int) ≤ 0 ∧ (0 : Int) ≤ 0 ∧ 0 + (tR T : Int) ≤ 20 ∧ 0 + (tR T : Int) ≤ 20 by omega), eq_true (show (0 : Int) ≤ (tC T : Int) ∧ (0 : Int) ≤ 0 ∧ (0 : Int) ≤ 0 ∧ 0 + (tC T : Int) ≤ 5 ∧ 0 + (tC T : Int) ≤ 5 by omega), eq_true (show (0 : Int) ≤ (r : Int) ∧ (r : Int) < 20 by omega), eq_true (show (0 : Int) ≤ (c : Int) ∧ (c : Int) < 5 by omega), if_true]
    refine ⟨_, _, rfl, ?_, Or.inl ⟨rfl, pivB_t (fun i hi => (h1 i hi).1) (fun k hk => (h2 k hk).1) e, ?_⟩⟩
    · intro b x
      by_cases hb : 41 ≤ b ∧ b ≤ 49
      · exact Or.inl hb
      · right
        simp (disch := omega) only [up_ne, cpy_ne]
    · unfold vC
      simp (disch := omega) only [Nat.reduceAdd, up_ne, up_nj, up_eq, cpy_ne, k0, k1, k2, up_at, cpy_at, show ((tR T : Int) * 5).toNat = 5 * tR T by omega]
      refine ⟨rfl, rfl, ?_, rfl, rfl, ?_, ?_, ?_, ?_, ?_⟩
      · show (tP T : Int) + 1 = ((tP T + 1 : Nat) : Int)
        omega
      · intro i hi
        show _ = (if i = r then tos T c else tow T i)
        have := v.2.2.2.2.2.1 i hi
        simp only [Nat.reduceAdd] at this
        rw [this]
      · intro i hi
        show _ = (if i = c then tow T r else tos T i)
        have := v.2.2.2.2.2.2.1 i hi
        simp only [Nat.reduceAdd] at this
        rw [this]
      · intro i q hi hq
        replace hi : i < tR T := hi
        replace hq : q < tC T := hq
        rw [if_pos (by omega)]
        exact (h1 i hi).2.1 q hq
      · intro i hi
        replace hi : i < tR T := hi
        rw [if_pos hi]
        exact (h1 i hi).2.2
      · intro q hq
        replace hq : q < tC T := hq
        rw [if_pos hq]
        exact (h2 q hq).2
  · refine ⟨0, m, ?_, kpt_rfl, Or.inr ⟨rfl, pivB_f (fun h => e h.2.2), v⟩⟩
    rw [T49_134_41, if_pos (by rw [bI_0]; exact e)]
theorem L49b_41 {d : Nat} {L : j_B} {T : TB} (o : tOK T) {r c : Nat} (hr : r < tR T) (hc : c < tC T) : ∀ j k : Nat, k + j = tC T → ∀ (m : j_M0), vC 41 T m → (∀ i : Nat, i < tR T → rowN T r c i ∧ (∀ q : Nat, q < tC T → m 47 (5 * i + q) = newE T r c i q) ∧ m 48 i = newI T r c i) → (∀ q : Nat, q < k → nr (newS T r c q) ∧ m 49 q = newS T r c q) → ∃ s m', j_fin (c_call (d + 1)) 49 30 [some (jR 41), some (jI r), some (jI c), some (jI k), none, none] [] (hH L m) = some (some (jI s), hH L m') ∧ kpt (fun b _ => 41 ≤ b ∧ b ≤ 49) m m' ∧ ((s = 1 ∧ pivB T r c = true ∧ vC 41 (pivF T r c) m') ∨ (s = 0 ∧ pivB T r c = false ∧ vC 41 T m')) := by
  have o1 := o.1
  have o2 := o.2.2.1
  intro j
  induction j with
  | zero =>
    intro k hk m v h1 h2
    have hkk : k = tC T := by omega
    subst hkk
    have k1 := v.2.1
    have k3 := v.2.2.2.1
    have k4 := v.2.2.2.2.2.2.2.2.2 c hc
    have k5 := v.2.2.2.2.2.2.2.2.1 r hr
    have r1 := o.2.2.2.2.2.2.2.2.2.2.1 c hc
    have r2 := o.2.2.2.2.2.2.2.2.2.1 r hr
    have r3 := o.2.2.2.2.2.2.1
    have r4 := o.2.2.2.2.2.2.2.1
    simp only [Nat.reduceAdd] at k4 k5
    rw [T49_30_41, if_neg (by omega), if_pos (by omega), if_pos (by omega), Int.toNat_natCast, Int.toNat_natCast, k3, k4, k5, w64_id (by omega) (by omega), Q51_41 v o hr hc (by omega) (by omega) (by omega) (by omega) (by omega) (by omega)]
    simp only [Option.bind_some, Option.toList_some, List.cons_append, List.nil_append]
    rw [T49_129_41, Q144]
    simp only [Option.bind_some, Option.toList_some, List.cons_append, List.nil_append]
    exact F49_41 v o hr hc h1 h2
  | succ j ih =>
    intro k hk m v h1 h2
    have k1 := v.2.1
    have k4 := v.2.2.2.2.2.2.2.2.2 c hc
    have k6 := v.2.2.2.2.2.2.2.2.2 k (by omega)
    have k5 := v.2.2.2.2.2.2.2.1 r k hr (by omega)
    have r1 := o.2.2.2.2.2.2.2.2.2.2.1 c hc
    have r2 := o.2.2.2.2.2.2.2.2.2.2.1 k (by omega)
    have r3 := o.2.2.2.2.2.2.2.2.1 r k hr (by omega)
    simp only [Nat.reduceAdd] at k4 k5 k6
    have fin : j_fin (c_call (d + 1)) 49 30 [some (jR 41), some (jI r), some (jI c), some (jI k), none, none] [] (hH L m) = j_fin (c_call (d + 1)) 49 85 [some (jR 41), some (jI r), some (jI c), some (jI k), none, none] [jL (newS T r c k), jI k, jR 49] (hH L m) := by
      rw [T49_30_41, if_pos (by omega)]
      by_cases e : k = c
      · subst e
        rw [if_pos rfl, if_pos (by omega), Int.toNat_natCast, k4]
        unfold newS
        rw [if_pos rfl]
      · rw [if_neg (by omega), if_pos (by omega), if_pos (by omega)]
        simp (disch := omega) only [w32_id, show ((r : Int) * 5 + (k : Int)).toNat = 5 * r + k by omega, Int.toNat_natCast, k4, k5, k6]
        rw [if_pos (by omega), Q51_41 v o hr hc (by omega) (by omega) (by omega) (by omega) (by omega) (by omega)]
        simp only [Option.bind_some, Option.toList_some, List.cons_append, List.nil_append]
        unfold newS
        rw [if_neg e]
    rw [fin, T49_85_41, if_pos (by omega), if_pos (by omega), Int.toNat_natCast, up_eq rfl, Q144]
    simp only [Option.bind_some, Option.toList_some, List.cons_append, List.nil_append, T49_95_41, bI_0, nat1 (show k < 1000000 by omega)]
    have v' := vC_k (m' := j_up m 49 k (newS T r c k)) v (fun b s h h' => up_ne (by omega))
    by_cases e : nr (newS T r c k)
    · rw [if_neg (by simpa using e)]
      obtain ⟨s, m', g1, g2, g3⟩ := ih (k + 1) (by omega) _ v' (by
        intro i hi
        obtain ⟨a1, a2, a3⟩ := h1 i hi
        exact ⟨a1, fun q hq => (up_ne (by omega)).trans (a2 q hq), (up_ne (by omega)).trans a3⟩) (by
        intro q hq
        by_cases e' : q = k
        · subst e'
          exact ⟨e, up_eq rfl⟩
        · rw [up_nj (by omega)]
          exact h2 q (by omega))
      exact ⟨s, m', g1, kpt_tr (kpt_up ⟨by omega, by omega⟩) g2, g3⟩
    · rw [if_pos (by simpa using e)]
      exact ⟨0, _, rfl, kpt_up ⟨by omega, by omega⟩, Or.inr ⟨rfl, pivB_f (fun h => e (h.2.1 k (by omega))), v'⟩⟩
theorem L49a_41 {d : Nat} {L : j_B} {T : TB} (o : tOK T) {r c : Nat} (hr : r < tR T) (hc : c < tC T) : ∀ j k : Nat, k + j = tR T → ∀ (m : j_M0), vC 41 T m → (∀ i : Nat, i < k → rowN T r c i ∧ (∀ q : Nat, q < tC T → m 47 (5 * i + q) = newE T r c i q) ∧ m 48 i = newI T r c i) → ∃ s m', j_fin (c_call (d + 2)) 49 2 [some (jR 41), some (jI r), some (jI c), some (jI k), none, none] [] (hH L m) = some (some (jI s), hH L m') ∧ kpt (fun b _ => 41 ≤ b ∧ b ≤ 49) m m' ∧ ((s = 1 ∧ pivB T r c = true ∧ vC 41 (pivF T r c) m') ∨ (s = 0 ∧ pivB T r c = false ∧ vC 41 T m')) := by
  have o1 := o.1
  have o2 := o.2.2.1
  intro j
  induction j with
  | zero =>
    intro k hk m v h1
    have hkk : k = tR T := by omega
    subst hkk
    have k1 := v.1
    rw [T49_2_41, if_neg (by omega)]
    exact L49b_41 o hr hc (tC T) 0 (by omega) m v h1 (fun q h => absurd h (by omega))
  | succ j ih =>
    intro k hk m v h1
    have k1 := v.1
    obtain ⟨s, m', g1, g2, g3⟩ := Q50_41 (d := d) (L := L) v o hr hc (show k < tR T by omega)
    have v' := vC_k (m' := m') v (fun b s h h' => by
      rcases g2 b s with e | e
      · omega
      · exact e)
    have w : kpt (fun b _ => 41 ≤ b ∧ b ≤ 49) m m' := kpt_w g2 (fun b s h => by omega)
    rw [T49_2_41, if_pos (by omega), g1]
    simp only [Option.bind_some, Option.toList_some, List.cons_append, List.nil_append, T49_17_41, nat1 (show k < 1000000 by omega)]
    rcases g3 with ⟨rfl, n1, n2, n3⟩ | ⟨rfl, n⟩
    · rw [if_neg (by omega)]
      obtain ⟨s, m2, q1, q2, q3⟩ := ih (k + 1) (by omega) m' v' (by
        intro i hi
        by_cases e' : i = k
        · subst e'
          exact ⟨n1, n2, n3⟩
        · obtain ⟨a1, a2, a3⟩ := h1 i (by omega)
          refine ⟨a1, fun q hq => ?_, ?_⟩
          · rcases g2 47 (5 * i + q) with e | e
            · omega
            · exact e.trans (a2 q hq)
          · rcases g2 48 i with e | e
            · omega
            · exact e.trans a3)
      exact ⟨s, m2, q1, kpt_tr w q2, q3⟩
    · rw [if_pos rfl]
      exact ⟨0, m', rfl, w, Or.inr ⟨rfl, pivB_f (fun h => n (h.1 k (by omega))), v'⟩⟩
theorem Q49_41 {d : Nat} {L : j_B} {T : TB} {m : j_M0} (v : vC 41 T m) (o : tOK T) {r c : Nat} (hr : r < tR T) (hc : c < tC T) : ∃ s m', c_call (d + 3) 49 [jR 41, jI r, jI c] (hH L m) = some (some (jI s), hH L m') ∧ kpt (fun b _ => 41 ≤ b ∧ b ≤ 49) m m' ∧ ((s = 1 ∧ pivB T r c = true ∧ vC 41 (pivF T r c) m') ∨ (s = 0 ∧ pivB T r c = false ∧ vC 41 T m')) := by
  rw [E49, T49_0_41]
  exact L49a_41 o hr hc (tR T) 0 (by omega) m v (fun q h => absurd h (by omega))
theorem F49_55 {C : Nat → List j_V → j_H → Option j_Z} {L : j_B} {T : TB} {m : j_M0} (v : vC 55 T m) (o : tOK T) {r c : Nat} (hr : r < tR T) (hc : c < tC T) (h1 : (∀ i : Nat, i < tR T → rowN T r c i ∧ (∀ q : Nat, q < tC T → m 61 (5 * i + q) = newE T r c i q) ∧ m 62 i = newI T r c i)) (h2 : (∀ q : Nat, q < tC T → nr (newS T r c q) ∧ m 63 q = newS T r c q)) : ∃ s m', j_fin C 49 134 [some (jR 55), some (jI r), some (jI c), some (jL (newB T r c)), none, none] [jI (bI (nr (newB T r c)))] (hH L m) = some (some (jI s), hH L m') ∧ kpt (fun b _ => 55 ≤ b ∧ b ≤ 63) m m' ∧ ((s = 1 ∧ pivB T r c = true ∧ vC 55 (pivF T r c) m') ∨ (s = 0 ∧ pivB T r c = false ∧ vC 55 T m')) := by
  have o1 := o.1
  have o2 := o.2.2.1
  have o3 := o.2.2.2.1
  have k0 := v.1
  have k1 := v.2.1
  have k2 := v.2.2.1
  have k3 := v.2.2.2.2.2.2.2.1 r c hr hc
  have k4 := v.2.2.2.2.2.1 r hr
  have k5 := v.2.2.2.2.2.2.1 c hc
  have r3 := o.2.2.2.2.2.2.2.2.1 r c hr hc
  simp only [Nat.reduceAdd] at k3 k4 k5
  by_cases e : nr (newB T r c)
  · rw [T49_134_55, if_neg (by rw [bI_0]; exact not_not_intro e)]
    simp (disch := omega) only [w32_id, show ((r : Int) * 5 + (c : Int)).toNat = 5 * r + c by omega, up_ne, up_nj, up_eq, cpy_ne, k0, k1, k2, k3, k4, k5, w64_id, Int.toNat_natCast, eq_true (show (0 : Int) ≤ (r : Int) * 5 + c ∧ (r : Int) * 5 + c < 100 by omega), eq_true (show (0 : Int) ≤ (tR T : Int) * 5 ∧ (0 : Int) ≤ 0 ∧ (0 : Int) ≤ 0 ∧ 0 + (tR T : Int) * 5 ≤ 100 ∧ 0 + (tR T : Int) * 5 ≤ 100 by omega), eq_true (show (0 : Int) ≤ (tR T : Int) ∧ (0 : Int) ≤ 0 ∧ (0 : Int) ≤ 0 ∧ 0 + (tR T : Int) ≤ 20 ∧ 0 + (tR T : Int) ≤ 20 by omega), eq_true (show (0 : Int) ≤ (tC T : Int) ∧ (0 : Int) ≤ 0 ∧ (0 : Int) ≤ 0 ∧ 0 + (tC T : Int) ≤ 5 ∧ 0 + (tC T : Int) ≤ 5 by omega), eq_true (show (0 : Int) ≤ (r : Int) ∧ (r : Int) < 20 by omega), eq_true (show (0 : Int) ≤ (c : Int) ∧ (c : Int) < 5 by omega), if_true]
    refine ⟨_, _, rfl, ?_, Or.inl ⟨rfl, pivB_t (fun i hi => (h1 i hi).1) (fun k hk => (h2 k hk).1) e, ?_⟩⟩
    · intro b x
      by_cases hb : 55 ≤ b ∧ b ≤ 63
      · exact Or.inl hb
      · right
        simp (disch := omega) only [up_ne, cpy_ne]
    · unfold vC
      simp (disch := omega) only [Nat.reduceAdd, up_ne, up_nj, up_eq, cpy_ne, k0, k1, k2, up_at, cpy_at, show ((tR T : Int) * 5).toNat = 5 * tR T by omega]
      refine ⟨rfl, rfl, ?_, rfl, rfl, ?_, ?_, ?_, ?_, ?_⟩
      · show (tP T : Int) + 1 = ((tP T + 1 : Nat) : Int)
        omega
      · intro i hi
        show _ = (if i = r then tos T c else tow T i)
        have := v.2.2.2.2.2.1 i hi
        simp only [Nat.reduceAdd] at this
        rw [this]
      · intro i hi
        show _ = (if i = c then tow T r else tos T i)
        have := v.2.2.2.2.2.2.1 i hi
        simp only [Nat.reduceAdd] at this
        rw [this]
      · intro i q hi hq
        replace hi : i < tR T := hi
        replace hq : q < tC T := hq
        rw [if_pos (by omega)]
        exact (h1 i hi).2.1 q hq
      · intro i hi
        replace hi : i < tR T := hi
        rw [if_pos hi]
        exact (h1 i hi).2.2
      · intro q hq
        replace hq : q < tC T := hq
        rw [if_pos hq]
        exact (h2 q hq).2
  · refine ⟨0, m, ?_, kpt_rfl, Or.inr ⟨rfl, pivB_f (fun h => e h.2.2), v⟩⟩
    rw [T49_134_55, if_pos (by rw [bI_0]; exact e)]
theorem L49b_55 {d : Nat} {L : j_B} {T : TB} (o : tOK T) {r c : Nat} (hr : r < tR T) (hc : c < tC T) : ∀ j k : Nat, k + j = tC T → ∀ (m : j_M0), vC 55 T m → (∀ i : Nat, i < tR T → rowN T r c i ∧ (∀ q : Nat, q < tC T → m 61 (5 * i + q) = newE T r c i q) ∧ m 62 i = newI T r c i) → (∀ q : Nat, q < k → nr (newS T r c q) ∧ m 63 q = newS T r c q) → ∃ s m', j_fin (c_call (d + 1)) 49 30 [some (jR 55), some (jI r), some (jI c), some (jI k), none, none] [] (hH L m) = some (some (jI s), hH L m') ∧ kpt (fun b _ => 55 ≤ b ∧ b ≤ 63) m m' ∧ ((s = 1 ∧ pivB T r c = true ∧ vC 55 (pivF T r c) m') ∨ (s = 0 ∧ pivB T r c = false ∧ vC 55 T m')) := by
  have o1 := o.1
  have o2 := o.2.2.1
  intro j
  induction j with
  | zero =>
    intro k hk m v h1 h2
    have hkk : k = tC T := by omega
    subst hkk
    have k1 := v.2.1
    have k3 := v.2.2.2.1
    have k4 := v.2.2.2.2.2.2.2.2.2 c hc
    have k5 := v.2.2.2.2.2.2.2.2.1 r hr
    have r1 := o.2.2.2.2.2.2.2.2.2.2.1 c hc
    have r2 := o.2.2.2.2.2.2.2.2.2.1 r hr
    have r3 := o.2.2.2.2.2.2.1
    have r4 := o.2.2.2.2.2.2.2.1
    simp only [Nat.reduceAdd] at k4 k5
    rw [T49_30_55, if_neg (by omega), if_pos (by omega), if_pos (by omega), Int.toNat_natCast, Int.toNat_natCast, k3, k4, k5, w64_id (by omega) (by omega), Q51_55 v o hr hc (by omega) (by omega) (by omega) (by omega) (by omega) (by omega)]
    simp only [Option.bind_some, Option.toList_some, List.cons_append, List.nil_append]
    rw [T49_129_55, Q144]
    simp only [Option.bind_some, Option.toList_some, List.cons_append, List.nil_append]
    exact F49_55 v o hr hc h1 h2
  | succ j ih =>
    intro k hk m v h1 h2
    have k1 := v.2.1
    have k4 := v.2.2.2.2.2.2.2.2.2 c hc
    have k6 := v.2.2.2.2.2.2.2.2.2 k (by omega)
    have k5 := v.2.2.2.2.2.2.2.1 r k hr (by omega)
    have r1 := o.2.2.2.2.2.2.2.2.2.2.1 c hc
    have r2 := o.2.2.2.2.2.2.2.2.2.2.1 k (by omega)
    have r3 := o.2.2.2.2.2.2.2.2.1 r k hr (by omega)
    simp only [Nat.reduceAdd] at k4 k5 k6
    have fin : j_fin (c_call (d + 1)) 49 30 [some (jR 55), some (jI r), some (jI c), some (jI k), none, none] [] (hH L m) = j_fin (c_call (d + 1)) 49 85 [some (jR 55), some (jI r), some (jI c), some (jI k), none, none] [jL (newS T r c k), jI k, jR 63] (hH L m) := by
      rw [T49_30_55, if_pos (by omega)]
      by_cases e : k = c
      · subst e
        rw [if_pos rfl, if_pos (by omega), Int.toNat_natCast, k4]
        unfold newS
        rw [if_pos rfl]
      · rw [if_neg (by omega), if_pos (by omega), if_pos (by omega)]
        simp (disch := omega) only [w32_id, show ((r : Int) * 5 + (k : Int)).toNat = 5 * r + k by omega, Int.toNat_natCast, k4, k5, k6]
        rw [if_pos (by omega), Q51_55 v o hr hc (by omega) (by omega) (by omega) (by omega) (by omega) (by omega)]
        simp only [Option.bind_some, Option.toList_some, List.cons_append, List.nil_append]
        unfold newS
        rw [if_neg e]
    rw [fin, T49_85_55, if_pos (by omega), if_pos (by omega), Int.toNat_natCast, up_eq rfl, Q144]
    simp only [Option.bind_some, Option.toList_some, List.cons_append, List.nil_append, T49_95_55, bI_0, nat1 (show k < 1000000 by omega)]
    have v' := vC_k (m' := j_up m 63 k (newS T r c k)) v (fun b s h h' => up_ne (by omega))
    by_cases e : nr (newS T r c k)
    · rw [if_neg (by simpa using e)]
      obtain ⟨s, m', g1, g2, g3⟩ := ih (k + 1) (by omega) _ v' (by
        intro i hi
        obtain ⟨a1, a2, a3⟩ := h1 i hi
        exact ⟨a1, fun q hq => (up_ne (by omega)).trans (a2 q hq), (up_ne (by omega)).trans a3⟩) (by
        intro q hq
        by_cases e' : q = k
        · subst e'
          exact ⟨e, up_eq rfl⟩
        · rw [up_nj (by omega)]
          exact h2 q (by omega))
      exact ⟨s, m', g1, kpt_tr (kpt_up ⟨by omega, by omega⟩) g2, g3⟩
    · rw [if_pos (by simpa using e)]
      exact ⟨0, _, rfl, kpt_up ⟨by omega, by omega⟩, Or.inr ⟨rfl, pivB_f (fun h => e (h.2.1 k (by omega))), v'⟩⟩
theorem L49a_55 {d : Nat} {L : j_B} {T : TB} (o : tOK T) {r c : Nat} (hr : r < tR T) (hc : c < tC T) : ∀ j k : Nat, k + j = tR T → ∀ (m : j_M0), vC 55 T m → (∀ i : Nat, i < k → rowN T r c i ∧ (∀ q : Nat, q < tC T → m 61 (5 * i + q) = newE T r c i q) ∧ m 62 i = newI T r c i) → ∃ s m', j_fin (c_call (d + 2)) 49 2 [some (jR 55), some (jI r), some (jI c), some (jI k), none, none] [] (hH L m) = some (some (jI s), hH L m') ∧ kpt (fun b _ => 55 ≤ b ∧ b ≤ 63) m m' ∧ ((s = 1 ∧ pivB T r c = true ∧ vC 55 (pivF T r c) m') ∨ (s = 0 ∧ pivB T r c = false ∧ vC 55 T m')) := by
  have o1 := o.1
  have o2 := o.2.2.1
  intro j
  induction j with
  | zero =>
    intro k hk m v h1
    have hkk : k = tR T := by omega
    subst hkk
    have k1 := v.1
    rw [T49_2_55, if_neg (by omega)]
    exact L49b_55 o hr hc (tC T) 0 (by omega) m v h1 (fun q h => absurd h (by omega))
  | succ j ih =>
    intro k hk m v h1
    have k1 := v.1
    obtain ⟨s, m', g1, g2, g3⟩ := Q50_55 (d := d) (L := L) v o hr hc (show k < tR T by omega)
    have v' := vC_k (m' := m') v (fun b s h h' => by
      rcases g2 b s with e | e
      · omega
      · exact e)
    have w : kpt (fun b _ => 55 ≤ b ∧ b ≤ 63) m m' := kpt_w g2 (fun b s h => by omega)
    rw [T49_2_55, if_pos (by omega), g1]
    simp only [Option.bind_some, Option.toList_some, List.cons_append, List.nil_append, T49_17_55, nat1 (show k < 1000000 by omega)]
    rcases g3 with ⟨rfl, n1, n2, n3⟩ | ⟨rfl, n⟩
    · rw [if_neg (by omega)]
      obtain ⟨s, m2, q1, q2, q3⟩ := ih (k + 1) (by omega) m' v' (by
        intro i hi
        by_cases e' : i = k
        · subst e'
          exact ⟨n1, n2, n3⟩
        · obtain ⟨a1, a2, a3⟩ := h1 i (by omega)
          refine ⟨a1, fun q hq => ?_, ?_⟩
          · rcases g2 61 (5 * i + q) with e | e
            · omega
            · exact e.trans (a2 q hq)
          · rcases g2 62 i with e | e
            · omega
            · exact e.trans a3)
      exact ⟨s, m2, q1, kpt_tr w q2, q3⟩
    · rw [if_pos rfl]
      exact ⟨0, m', rfl, w, Or.inr ⟨rfl, pivB_f (fun h => n (h.1 k (by omega))), v'⟩⟩
theorem Q49_55 {d : Nat} {L : j_B} {T : TB} {m : j_M0} (v : vC 55 T m) (o : tOK T) {r c : Nat} (hr : r < tR T) (hc : c < tC T) : ∃ s m', c_call (d + 3) 49 [jR 55, jI r, jI c] (hH L m) = some (some (jI s), hH L m') ∧ kpt (fun b _ => 55 ≤ b ∧ b ≤ 63) m m' ∧ ((s = 1 ∧ pivB T r c = true ∧ vC 55 (pivF T r c) m') ∨ (s = 0 ∧ pivB T r c = false ∧ vC 55 T m')) := by
  rw [E49, T49_0_55]
  exact L49a_55 o hr hc (tR T) 0 (by omega) m v (fun q h => absurd h (by omega))
