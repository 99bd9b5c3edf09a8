/-! A step, told once; the meaning of a method as the limit of its runs. -/
set_option maxHeartbeats 4000000 in
theorem j_step_by {α : Type} (y pc : Nat) (ls : j_L) (st : List j_V) (h : j_H) (bad : α) (nx : Nat → j_L → List j_V → j_H → α) (rt : Option j_V → j_H → α) (cl : Nat → List j_V → List j_V → α) : j_step y pc ls st h bad nx rt cl = j_by (j_res y pc ls st h) bad nx rt cl := by
  unfold j_res j_step
  cases j_at y pc with
  | none => rfl
  | some q =>
    obtain ⟨i, a, b, z⟩ := q
    simp only [j_op]
    cases i
    case ifCond c off => cases c <;> (simp only [j_if]; split <;> first | rfl | (split <;> rfl))
    case if_icmp c off => cases c <;> (simp only [j_if2]; split <;> first | rfl | (split <;> rfl))
    case getfield => 
      dsimp only
      split
      · have G : ∀ (α : Type) (bad : α) (a0 : Nat) (nx : j_V → α), j_get h a0 a b bad nx = match j_get h a0 a b (none : Option j_V) some with
          | some v => nx v
          | none => bad := by
          intro α bad a0 nx
          unfold j_get
          split
          · rfl
          · rfl
          · rfl
          · simp only [j_op]
            split <;> rfl
        unfold j_obk j_fk
        rw [G, G (j_R)]
        split
        · split
          · split
            · split <;> rfl
            · split
              · split <;> rfl
              · rfl
          · rfl
        · rfl
      · rfl
    case putfield =>
      dsimp only
      split
      · unfold j_ob
        split
        · split
          · unfold j_put
            split <;> split <;> first | rfl | (split <;> rfl)
          · rfl
        · rfl
      · rfl
    case invokevirtual =>
      dsimp only
      split
      · split
        · split
          · split <;> rfl
          · rfl
        · split
          · unfold j_obk
            split
            · split
              · split <;> rfl
              · rfl
            · rfl
          · rfl
      · rfl
    case invokespecial =>
      dsimp only
      split
      · rfl
      · split
        · split
          · split
            · rfl
            · unfold j_obs
              split
              · split
                · rfl
                · unfold j_obk
                  split
                  · split <;> rfl
                  · rfl
              · rfl
          · rfl
        · rfl
    case invokestatic =>
      dsimp only
      split
      · rfl
      · split
        · split
          · split
            · split
              · split <;> rfl
              · rfl
            · rfl
          · rfl
        · split <;> rfl
    case checkcast =>
      dsimp only
      split
      · unfold j_ob
        split
        · split <;> rfl
        · rfl
      · rfl
    all_goals dsimp only
    all_goals first | rfl | ((try simp only [j_bI, j_bL, j_uI, j_uL, j_el, j_sI, j_sL, j_rg, j_op]); repeat' (first | rfl | split | dsimp only))
section J2
variable (C : Nat → List j_V → j_H → Option j_Z)
noncomputable def j_run : Nat → Nat → Nat → j_L → List j_V → j_H → Option j_Z
  | 0, _, _, _, _, _ => none
  | n + 1, y, pc, ls, st, h => j_step y pc ls st h none (fun pc ls st h => j_run n y pc ls st h) (fun v h => some (v, h)) (fun k as r => (C k as h).bind fun z => j_run n y (pc + 3) ls (z.1.toList ++ r) z.2)
theorem j_run_mono {n y pc : Nat} {ls : j_L} {st : List j_V} {h : j_H} {z : j_Z} (e : j_run C n y pc ls st h = some z) : j_run C (n + 1) y pc ls st h = some z := by
  induction n generalizing pc ls st h with
  | zero => cases e
  | succ n ih =>
    unfold j_run at e ⊢
    rw [j_step_by] at e ⊢
    generalize j_res y pc ls st h = q at e ⊢
    match q with
    | none => exact e
    | some (.inl (a, b, c, d)) => exact ih e
    | some (.inr (.inl (v, g))) => exact e
    | some (.inr (.inr (a, b, c))) =>
      simp only [j_by] at e ⊢
      cases hc : C a b h with
      | none => rw [hc] at e; cases e
      | some w => rw [hc] at e; exact ih e
theorem j_run_le {n k y pc : Nat} {ls : j_L} {st : List j_V} {h : j_H} {z : j_Z} (e : j_run C n y pc ls st h = some z) (hk : n ≤ k) : j_run C k y pc ls st h = some z := by
  induction hk with
  | refl => exact e
  | step _ ih => exact j_run_mono C ih
noncomputable def j_fin (y pc : Nat) (ls : j_L) (st : List j_V) (h : j_H) : Option j_Z := @dite (Option j_Z) (∃ z n, j_run C n y pc ls st h = some z) (Classical.propDecidable _) (fun e => some e.choose) (fun _ => none)
theorem j_fin_some {y pc : Nat} {ls : j_L} {st : List j_V} {h : j_H} {z : j_Z} : j_fin C y pc ls st h = some z ↔ ∃ n, j_run C n y pc ls st h = some z := by
  unfold j_fin
  constructor
  · intro e
    split at e
    · rename_i hz
      cases e
      exact hz.choose_spec
    · cases e
  · rintro ⟨n, e⟩
    have hz : ∃ z n, j_run C n y pc ls st h = some z := ⟨z, n, e⟩
    rw [dif_pos hz]
    obtain ⟨k, hk⟩ := hz.choose_spec
    have h1 := j_run_le C e (Nat.le_max_left n k)
    have h2 := j_run_le C hk (Nat.le_max_right n k)
    exact h2.symm.trans h1
theorem j_ext {a b : Option j_Z} (h1 : ∀ z, a = some z → b = some z) (h2 : ∀ z, b = some z → a = some z) : a = b := by
  cases a with
  | none => cases b with
    | none => rfl
    | some z => exact h2 z rfl
  | some z => exact (h1 z rfl).symm
theorem j_fin_step (y pc : Nat) (ls : j_L) (st : List j_V) (h : j_H) : j_fin C y pc ls st h = j_step y pc ls st h none (j_fin C y) (fun v h => some (v, h)) (fun k as r => (C k as h).bind fun z => j_fin C y (pc + 3) ls (z.1.toList ++ r) z.2) := by
  rw [j_step_by]
  apply j_ext
  · intro z e
    obtain ⟨n, e⟩ := (j_fin_some C).mp e
    cases n with
    | zero => cases e
    | succ n =>
      unfold j_run at e
      rw [j_step_by] at e
      generalize j_res y pc ls st h = q at e ⊢
      match q with
      | none => exact e
      | some (.inl (a, b, c, d)) => exact (j_fin_some C).mpr ⟨n, e⟩
      | some (.inr (.inl (v, g))) => exact e
      | some (.inr (.inr (a, b, c))) =>
        simp only [j_by] at e ⊢
        cases hc : C a b h with
        | none => rw [hc] at e; cases e
        | some w => rw [hc] at e; exact (j_fin_some C).mpr ⟨n, e⟩
  · intro z e
    have key : ∃ n, j_run C (n + 1) y pc ls st h = some z := by
      unfold j_run
      simp only [j_step_by]
      generalize j_res y pc ls st h = q at e ⊢
      match q with
      | none => cases e
      | some (.inl (a, b, c, d)) => exact (j_fin_some C).mp e
      | some (.inr (.inl (v, g))) => exact ⟨0, e⟩
      | some (.inr (.inr (a, b, c))) =>
        simp only [j_by] at e ⊢
        cases hc : C a b h with
        | none => rw [hc] at e; cases e
        | some w => rw [hc] at e; exact (j_fin_some C).mp e
    obtain ⟨n, hn⟩ := key
    exact (j_fin_some C).mpr ⟨n + 1, hn⟩
end J2
/-- a method's first locals -/
def j_ent : List j_V → j_L
  | [] => []
  | v :: r => if j_isL v = true then some v :: none :: j_ent r else some v :: j_ent r
noncomputable def j_ml (y : Nat) : Nat := match j_meth[y]? with
  | some q => q.2.2.1
  | none => 0
noncomputable def j_loc (y : Nat) (as : List j_V) : j_L := j_ent as ++ List.replicate (j_ml y - (j_ent as).length) none
/-- the meaning of method y, calls d deep -/
noncomputable def j_call : Nat → Nat → List j_V → j_H → Option j_Z
  | 0, _, _, _ => none
  | d + 1, y, as, h => j_fin (j_call d) y 0 (j_loc y as) [] h
/-- the same by the kernel: n steps a method -/
noncomputable def j_do (n : Nat) : Nat → Nat → List j_V → j_H → Option j_Z
  | 0, _, _, _ => none
  | d + 1, y, as, h => j_run (j_do n d) n y 0 (j_loc y as) [] h
theorem j_run_sub {C D : Nat → List j_V → j_H → Option j_Z} (hCD : ∀ k as h z, C k as h = some z → D k as h = some z) {n y pc : Nat} {ls : j_L} {st : List j_V} {h : j_H} {z : j_Z} (e : j_run C n y pc ls st h = some z) : j_run D n y pc ls st h = some z := by
  induction n generalizing pc ls st h with
  | zero => cases e
  | succ n ih =>
    unfold j_run at e ⊢
    rw [j_step_by] at e ⊢
    generalize j_res y pc ls st h = q at e ⊢
    match q with
    | none => exact e
    | some (.inl (a, b, c, d)) => exact ih e
    | some (.inr (.inl (v, g))) => exact e
    | some (.inr (.inr (a, b, c))) =>
      simp only [j_by] at e ⊢
      cases hc : C a b h with
      | none => rw [hc] at e; cases e
      | some w => rw [hc] at e; rw [hCD _ _ _ _ hc]; exact ih e
theorem j_do_call {n d y : Nat} {as : List j_V} {h : j_H} {z : j_Z} (e : j_do n d y as h = some z) : j_call d y as h = some z := by
  induction d generalizing y as h z with
  | zero => cases e
  | succ d ih =>
    unfold j_do at e
    unfold j_call
    exact (j_fin_some _).mpr ⟨n, j_run_sub (fun k as h z hz => ih hz) e⟩
theorem j_call_mono {d y : Nat} {as : List j_V} {h : j_H} {z : j_Z} (e : j_call d y as h = some z) : j_call (d + 1) y as h = some z := by
  induction d generalizing y as h z with
  | zero => cases e
  | succ d ih =>
    unfold j_call at e ⊢
    obtain ⟨n, e⟩ := (j_fin_some _).mp e
    exact (j_fin_some _).mpr ⟨n, j_run_sub (fun k as h z hz => ih hz) e⟩
