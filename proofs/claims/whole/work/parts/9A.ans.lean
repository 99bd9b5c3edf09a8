/-! The script stays; what an answer is. -/
/-! the script stays; what an answer is -/
theorem put_ok : j_code.all (fun c => c.all (fun e => match e.2.1 with
  | .putfield _ => e.2.2.1 != 32
  | _ => true)) = true := by decide +kernel
theorem put_at {y pc a b : Nat} {n : Nat} {z : Int} (h : j_at y pc = some (.putfield n, a, b, z)) : a ≠ 32 := by
  unfold j_at at h
  split at h
  · rename_i c e
    have h1 := List.all_eq_true.mp put_ok c (List.mem_of_getElem? e)
    have h2 := List.all_eq_true.mp h1 _ (j_lk_mem h)
    exact bne_iff_ne.mp h2
  · cases h
def kP0 (h g : j_H) : Prop := ∀ L : Nat, h.1[0]? = some (32, L) → g.1[0]? = some (32, L) ∧ g.2.2 0 = h.2.2 0
theorem kP0_rf (h : j_H) : kP0 h h := fun _ e => ⟨e, rfl⟩
theorem kP0_tr {h g k : j_H} (h1 : kP0 h g) (h2 : kP0 g k) : kP0 h k := fun L e => by
  obtain ⟨a1, a2⟩ := h1 L e
  obtain ⟨b1, b2⟩ := h2 L a1
  exact ⟨b1, b2.trans a2⟩
theorem len_0 {α : Type} {l : List α} {x : α} (h : l[0]? = some x) : 0 < l.length := by
  cases l with
  | nil => cases h
  | cons _ _ => exact Nat.succ_pos _
theorem kP0_new {h : j_H} {c n : Nat} : kP0 h (j_new h c n) := fun L e => by
  have l := len_0 e
  refine ⟨?_, ?_⟩
  · show (h.1 ++ [(c, n)])[0]? = _
    rw [List.getElem?_append_left l]
    exact e
  · funext z
    show (if 0 = h.1.length then 0 else h.2.2 0 z) = _
    rw [if_neg (by omega)]
theorem kP0_mul {h : j_H} {n : Nat} : ∀ k : Nat, kP0 h (j_mul h n k) := by
  intro k
  induction k with
  | zero => exact kP0_rf h
  | succ k ih => exact kP0_tr ih kP0_new
theorem kP0_mna {h : j_H} {k n : Nat} : kP0 h (j_mna h k n) := fun L e => by
  have l := len_0 e
  obtain ⟨b1, b2⟩ := kP0_mul (h := (h.1 ++ [(36, k)], h.2.1 ++ [(List.range k).map (fun i => some (h.1.length + 1 + i))], j_zero h.2.2 h.1.length)) (n := n) k L (by
    show (h.1 ++ [(36, k)])[0]? = _
    rw [List.getElem?_append_left l]
    exact e)
  refine ⟨b1, b2.trans (funext fun z => ?_)⟩
  show (if 0 = h.1.length then 0 else h.2.2 0 z) = _
  rw [if_neg (by omega)]
theorem kP0_up {h : j_H} {r : List (List (Option Nat))} {a i : Nat} {x : Int} (ha : a ≠ 0) : kP0 h (h.1, r, j_up h.2.2 a i x) := fun L e => ⟨e, funext fun z => by
  show (if 0 = a then _ else h.2.2 0 z) = _
  rw [if_neg (fun g => ha g.symm)]⟩
theorem kP0_cpy {h : j_H} {r : List (List (Option Nat))} {a sp b dp n : Nat} (hb : b ≠ 0) : kP0 h (h.1, r, j_cpy h.2.2 a sp b dp n) := fun L e => ⟨e, funext fun z => by
  show (if 0 = b then _ else h.2.2 0 z) = _
  rw [if_neg (fun g => hb g.symm)]⟩
theorem kP0_r {h : j_H} {r : List (List (Option Nat))} : kP0 h (h.1, r, h.2.2) := fun L e => ⟨e, rfl⟩
theorem kP0_put {h : j_H} {r : List (List (Option Nat))} {a d i c w : Nat} {x : Int} (hd : h.1[a]? = some (d, w)) (hc : d = c) (h32 : c ≠ 32) : kP0 h (h.1, r, j_up h.2.2 a i x) := fun L e => by
  by_cases ha : a = 0
  · subst ha
    rw [e] at hd
    cases hd
    exact absurd hc.symm h32
  · exact kP0_up ha L e
def tyT (y : Nat) (v : Option j_V) : Prop := (j_ret y = 1 ∨ j_ret y = 3 → ∃ x : Int, v = some (jI x)) ∧ (j_ret y = 2 → ∃ x : Int, v = some (jL x))
set_option maxHeartbeats 4000000 in
theorem j_step_kp (y pc : Nat) (ls : j_L) (st : List j_V) (h : j_H) : j_step y pc ls st h True (fun _ _ _ g => kP0 h g) (fun v g => kP0 h g ∧ tyT y v) (fun _ _ _ => True) := by
  unfold j_step
  cases hq : j_at y pc with
  | none => trivial
  | some q =>
    obtain ⟨i, a, b, z⟩ := q
    simp only [j_op]
    cases i
    case ifCond c off => cases c <;> (simp only [j_if]; split <;> first | trivial | (split <;> exact kP0_rf h))
    case if_icmp c off => cases c <;> (simp only [j_if2]; split <;> first | trivial | (split <;> exact kP0_rf h))
    case getfield =>
      dsimp only
      split
      · unfold j_ob
        split
        · split
          · unfold j_get
            split
            · exact kP0_rf h
            · exact kP0_rf h
            · exact kP0_rf h
            · simp only [j_op]
              split
              · exact kP0_rf h
              · trivial
          · trivial
        · trivial
      · trivial
    case putfield =>
      have h32 := put_at hq
      dsimp only
      split
      · unfold j_ob
        split
        · rename_i hd
          split
          · rename_i hc
            unfold j_put
            split <;> split <;> first | trivial | exact kP0_put hd hc h32 | exact kP0_r | (split <;> first | trivial | exact kP0_put hd hc h32 | exact kP0_r)
          · trivial
        · trivial
      · trivial
    case invokevirtual =>
      dsimp only
      split
      · split
        · unfold j_ob
          split
          · split
            · split <;> trivial
            · trivial
          · trivial
        · trivial
      · trivial
    case invokestatic =>
      dsimp only
      split
      · split
        · split
          · split
            · split
              · exact kP0_cpy (by omega)
              · trivial
            · trivial
          · trivial
        · trivial
      · split <;> trivial
    case ireturn =>
      dsimp only
      split
      · split
        · rename_i e
          exact ⟨kP0_rf h, fun _ => ⟨_, rfl⟩, fun e2 => absurd (e.symm.trans e2) (by decide)⟩
        · split
          · rename_i e
            split
            · exact ⟨kP0_rf h, fun _ => ⟨_, rfl⟩, fun e2 => absurd (e.symm.trans e2) (by decide)⟩
            · trivial
          · trivial
      · trivial
    case lreturn =>
      dsimp only
      split
      · split
        · rename_i e
          exact ⟨kP0_rf h, fun e2 => by omega, fun _ => ⟨_, rfl⟩⟩
        · trivial
      · trivial
    case return_ =>
      dsimp only
      split
      · split
        · rename_i e
          exact ⟨kP0_rf h, fun e2 => by omega, fun e2 => by omega⟩
        · trivial
      · trivial
    all_goals dsimp only
    all_goals first | trivial | exact kP0_rf h | exact kP0_new | ((try simp only [j_bI, j_bL, j_uI, j_uL, j_el, j_sI, j_sL, j_rg, j_op]); repeat' (first | trivial | exact kP0_rf h | exact kP0_new | exact kP0_mna | exact kP0_up (by omega) | split | dsimp only))
theorem j_run_kp {C : Nat → List j_V → j_H → Option j_Z} (hCc : ∀ k as h z, C k as h = some z → kP0 h z.2) {n y pc : Nat} {ls : j_L} {st : List j_V} {h : j_H} {z : j_Z} (e : j_run C n y pc ls st h = some z) : kP0 h z.2 ∧ tyT y z.1 := by
  induction n generalizing pc ls st h with
  | zero => cases e
  | succ n ih =>
    unfold j_run at e
    have h1 := j_step_kp y pc ls st h
    rw [j_step_by] at e h1
    generalize j_res y pc ls st h = q at e h1
    match q, h1 with
    | none, _ => cases e
    | some (.inl (a, b, c, d)), h1 => exact ⟨kP0_tr h1 (ih e).1, (ih e).2⟩
    | some (.inr (.inl (v, g))), h1 => cases e; exact h1
    | some (.inr (.inr (a, b, c))), h1 =>
      simp only [j_by] at e
      cases hc : C a b h with
      | none => rw [hc] at e; cases e
      | some w => rw [hc] at e; exact ⟨kP0_tr (hCc _ _ _ _ hc) (ih e).1, (ih e).2⟩
theorem c_call_kp {d y : Nat} {as : List j_V} {h : j_H} {z : j_Z} (e : c_call d y as h = some z) : kP0 h z.2 ∧ tyT y z.1 := by
  induction d generalizing y as h z with
  | zero => cases e
  | succ d ih =>
    unfold c_call at e
    split at e
    · obtain ⟨n, e⟩ := (j_fin_some _).mp e
      exact j_run_kp (fun k as h z hz => (ih hz).1) e
    · cases e
/-- a pair of calls whose answer is an int -/
theorem PA_i {L : Nat} {xs : Nat → Int32} {y u : Nat} {as : List j_V} {m : j_M0} (p : PA L xs y u as m) (hr : j_ret y = 1 ∨ j_ret y = 3) : ∃ (x : Int) (m1 m2 : j_M0), c_call 10 y (jR 2 :: as) (hH L m) = some (some (jI x), hH L m1) ∧ c_call 10 u (jR 109 :: as) (hH L m1) = some (some (jI x), hH L m2) ∧ m1 0 = m 0 ∧ Rel xs m2 := by
  obtain ⟨v, m1, m2, h1, h2, h3⟩ := p
  obtain ⟨k1, k2⟩ := c_call_kp h1
  obtain ⟨x, hx⟩ := k2.1 hr
  replace hx : some v = some (jI x) := hx
  cases hx
  exact ⟨x, m1, m2, h1, h2, (k1 L rfl).2, h3⟩
theorem PA_l {L : Nat} {xs : Nat → Int32} {y u : Nat} {as : List j_V} {m : j_M0} (p : PA L xs y u as m) (hr : j_ret y = 2) : ∃ (x : Int) (m1 m2 : j_M0), c_call 10 y (jR 2 :: as) (hH L m) = some (some (jL x), hH L m1) ∧ c_call 10 u (jR 109 :: as) (hH L m1) = some (some (jL x), hH L m2) ∧ m1 0 = m 0 ∧ Rel xs m2 := by
  obtain ⟨v, m1, m2, h1, h2, h3⟩ := p
  obtain ⟨k1, k2⟩ := c_call_kp h1
  obtain ⟨x, hx⟩ := k2.2 hr
  replace hx : some v = some (jL x) := hx
  cases hx
  exact ⟨x, m1, m2, h1, h2, (k1 L rfl).2, h3⟩
