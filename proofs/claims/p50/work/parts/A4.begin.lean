/-! The script stays; the constructor by the kernel; the elder numbers. -/
theorem put_ok : j_code.all (fun c => c.all (fun e => match e.2.1 with
  | .putfield _ => e.2.2.1 != 32
  | _ => true)) = true := by decide +kernel
theorem put_at {y pc a b : Nat} {n : Nat} {z : Int} (h : j_at y pc = some (.putfield n, a, b, z)) : a ≠ 32 := by
  unfold j_at at h
  split at h
  · rename_i c e
    have h1 := List.all_eq_true.mp put_ok c (List.mem_of_getElem? e)
    have h2 := List.all_eq_true.mp h1 _ (j_lk_mem h)
    exact bne_iff_ne.mp h2
  · cases h
def kP0 (h g : j_H) : Prop := ∀ L : Nat, h.1[0]? = some (32, L) → g.1[0]? = some (32, L) ∧ g.2.2 0 = h.2.2 0
theorem kP0_rf (h : j_H) : kP0 h h := fun _ e => ⟨e, rfl⟩
theorem kP0_tr {h g k : j_H} (h1 : kP0 h g) (h2 : kP0 g k) : kP0 h k := fun L e => by
  obtain ⟨a1, a2⟩ := h1 L e
  obtain ⟨b1, b2⟩ := h2 L a1
  exact ⟨b1, b2.trans a2⟩
theorem len_0 {α : Type} {l : List α} {x : α} (h : l[0]? = some x) : 0 < l.length := by
  cases l with
  | nil => cases h
  | cons _ _ => exact Nat.succ_pos _
theorem kP0_new {h : j_H} {c n : Nat} : kP0 h (j_new h c n) := fun L e => by
  have l := len_0 e
  refine ⟨?_, ?_⟩
  · show (h.1 ++ [(c, n)])[0]? = _
    rw [List.getElem?_append_left l]
    exact e
  · funext z
    show (if 0 = h.1.length then 0 else h.2.2 0 z) = _
    rw [if_neg (by omega)]
theorem kP0_mul {h : j_H} {n : Nat} : ∀ k : Nat, kP0 h (j_mul h n k) := by
  intro k
  induction k with
  | zero => exact kP0_rf h
  | succ k ih => exact kP0_tr ih kP0_new
theorem kP0_mna {h : j_H} {k n : Nat} : kP0 h (j_mna h k n) := fun L e => by
  have l := len_0 e
  obtain ⟨b1, b2⟩ := kP0_mul (h := (h.1 ++ [(36, k)], h.2.1 ++ [(List.range k).map (fun i => some (h.1.length + 1 + i))], j_zero h.2.2 h.1.length)) (n := n) k L (by
    show (h.1 ++ [(36, k)])[0]? = _
    rw [List.getElem?_append_left l]
    exact e)
  refine ⟨b1, b2.trans (funext fun z => ?_)⟩
  show (if 0 = h.1.length then 0 else h.2.2 0 z) = _
  rw [if_neg (by omega)]
theorem kP0_up {h : j_H} {r : List (List (Option Nat))} {a i : Nat} {x : Int} (ha : a ≠ 0) : kP0 h (h.1, r, j_up h.2.2 a i x) := fun L e => ⟨e, funext fun z => by
  show (if 0 = a then _ else h.2.2 0 z) = _
  rw [if_neg (fun g => ha g.symm)]⟩
theorem kP0_cpy {h : j_H} {r : List (List (Option Nat))} {a sp b dp n : Nat} (hb : b ≠ 0) : kP0 h (h.1, r, j_cpy h.2.2 a sp b dp n) := fun L e => ⟨e, funext fun z => by
  show (if 0 = b then _ else h.2.2 0 z) = _
  rw [if_neg (fun g => hb g.symm)]⟩
theorem kP0_r {h : j_H} {r : List (List (Option Nat))} : kP0 h (h.1, r, h.2.2) := fun L e => ⟨e, rfl⟩
theorem kP0_put {h : j_H} {r : List (List (Option Nat))} {a d i c w : Nat} {x : Int} (hd : h.1[a]? = some (d, w)) (hc : d = c) (h32 : c ≠ 32) : kP0 h (h.1, r, j_up h.2.2 a i x) := fun L e => by
  by_cases ha : a = 0
  · subst ha
    rw [e] at hd
    cases hd
    exact absurd hc.symm h32
  · exact kP0_up ha L e
theorem kP0_cln {h : j_H} {a n : Nat} : kP0 h (j_cln h a n) := fun L e => by
  have l := len_0 e
  refine ⟨?_, funext fun z => ?_⟩
  · show (h.1 ++ [(34, n)])[0]? = _
    rw [List.getElem?_append_left l]
    exact e
  · show (if 0 = h.1.length then _ else (if 0 = h.1.length then 0 else h.2.2 0 z)) = _
    rw [if_neg (by omega), if_neg (by omega)]
set_option maxHeartbeats 4000000 in
theorem j_step_kp (y pc : Nat) (ls : j_L) (st : List j_V) (h : j_H) : j_step y pc ls st h True (fun _ _ _ g => kP0 h g) (fun _ g => kP0 h g) (fun _ _ _ => True) := by
  unfold j_step
  cases hq : j_at y pc with
  | none => trivial
  | some q =>
    obtain ⟨i, a, b, z⟩ := q
    simp only [j_op]
    cases i
    case ifCond c off => cases c <;> (simp only [j_if]; split <;> first | trivial | (split <;> exact kP0_rf h))
    case if_icmp c off => cases c <;> (simp only [j_if2]; split <;> first | trivial | (split <;> exact kP0_rf h))
    case getfield =>
      dsimp only
      split
      · unfold j_obk j_fk j_get
        repeat' (first | trivial | exact kP0_rf h | split | simp only [j_op])
      · trivial
    case putfield =>
      have h32 := put_at hq
      dsimp only
      split
      · unfold j_ob
        split
        · rename_i hd
          split
          · rename_i hc
            unfold j_put
            split <;> split <;> first | trivial | exact kP0_put hd hc h32 | exact kP0_r | (split <;> first | trivial | exact kP0_put hd hc h32 | exact kP0_r)
          · trivial
        · trivial
      · trivial
    case invokevirtual =>
      dsimp only
      unfold j_obk
      repeat' (first | trivial | exact kP0_cln | split)
    case invokespecial =>
      dsimp only
      unfold j_obs j_obk
      repeat' (first | trivial | exact kP0_rf h | split)
    case invokestatic =>
      dsimp only
      repeat' (first | trivial | exact kP0_cpy (by omega) | split)
    case checkcast =>
      dsimp only
      unfold j_ob
      repeat' (first | trivial | exact kP0_rf h | split)
    all_goals dsimp only
    all_goals first | trivial | exact kP0_rf h | exact kP0_new | ((try simp only [j_bI, j_bL, j_uI, j_uL, j_el, j_sI, j_sL, j_rg, j_op]); repeat' (first | trivial | exact kP0_rf h | exact kP0_new | exact kP0_mna | exact kP0_up (by omega) | split | dsimp only))
theorem j_run_kp {C : Nat → List j_V → j_H → Option j_Z} (hCc : ∀ k as h z, C k as h = some z → kP0 h z.2) {n y pc : Nat} {ls : j_L} {st : List j_V} {h : j_H} {z : j_Z} (e : j_run C n y pc ls st h = some z) : kP0 h z.2 := by
  induction n generalizing pc ls st h with
  | zero => cases e
  | succ n ih =>
    unfold j_run at e
    have h1 := j_step_kp y pc ls st h
    rw [j_step_by] at e h1
    generalize j_res y pc ls st h = q at e h1
    match q, h1 with
    | none, _ => cases e
    | some (.inl (a, b, c, d)), h1 => exact kP0_tr h1 (ih e)
    | some (.inr (.inl (v, g))), h1 => cases e; exact h1
    | some (.inr (.inr (a, b, c))), h1 =>
      simp only [j_by] at e
      cases hc : C a b h with
      | none => rw [hc] at e; cases e
      | some w => rw [hc] at e; exact kP0_tr (hCc _ _ _ _ hc) (ih e)
theorem c_call_kp {d y : Nat} {as : List j_V} {h : j_H} {z : j_Z} (e : c_call d y as h = some z) : kP0 h z.2 := by
  induction d generalizing y as h z with
  | zero => cases e
  | succ d ih =>
    unfold c_call at e
    split at e
    · obtain ⟨n, e⟩ := (j_fin_some _).mp e
      exact j_run_kp (fun k as h z hz => ih hz) e
    · cases e
/-! the constructor, by the kernel -/
def b_h0 : j_H := ([(31, 0), (32, 6)], [[], []], fun a i => if a = 1 then (s_tn i).toInt else if 1000000 ≤ a then s_kb a i else 0)
noncomputable def b_r1 : Option j_Z := c_do 3000 10 87 [jR 2] (j_new b_h0 12 13)
def b_K : List (Nat × Nat) := (j_KR 0).set 0 (31, 0)
theorem b_c1 : b_r1.map (fun z => (z.1, z.2.1, z.2.2.1)) = some (none, b_K, j_PR) := by decide +kernel
noncomputable def b_h1 : j_H := (b_r1.getD (none, b_h0)).2
theorem b_h1e : b_h1 = (b_r1.getD (none, b_h0)).2 := by unfold b_h1; rfl
theorem b_some {o : Option j_Z} {d : j_H} {K : List (Nat × Nat)} {P : List (List (Option Nat))} (h : o.map (fun z => (z.1, z.2.1, z.2.2.1)) = some (none, K, P)) : o = some (none, (o.getD (none, d)).2) ∧ (o.getD (none, d)).2.1 = K ∧ (o.getD (none, d)).2.2.1 = P := by
  cases o with
  | none => cases h
  | some z =>
    obtain ⟨v, k, p, m⟩ := z
    simp only [Option.map_some, Option.some.injEq, Prod.mk.injEq] at h
    obtain ⟨rfl, rfl, rfl⟩ := h
    exact ⟨rfl, rfl, rfl⟩
theorem b_d1 : c_do 3000 10 87 [jR 2] (j_new b_h0 12 13) = some (none, b_h1) ∧ b_h1.1 = b_K ∧ b_h1.2.1 = j_PR := by
  obtain ⟨h1, h2, h3⟩ := b_some (d := b_h0) b_c1
  rw [← b_h1e] at h1 h2 h3
  exact ⟨h1, h2, h3⟩
theorem id_map (l : List (Option Nat)) : l.map (Option.map (fun a => a)) = l := by
  rw [show (Option.map (fun a : Nat => a)) = id from funext (fun o => by cases o <;> rfl)]
  exact List.map_id l
theorem b_Pi (L : Nat) : q_Pi (fun a => a) [(31, 0), (32, 6)] [(32, L), (32, 6)] := by
  refine ⟨fun a b h => h, rfl, rfl, fun a _ => rfl, rfl, ⟨by decide, by decide⟩, fun a ha => ?_⟩
  have h2 : a = 0 ∨ a = 1 := by
    have : a < 2 := ha
    omega
  rcases h2 with rfl | rfl
  · exact .inl rfl
  · exact .inr rfl
/-- the memory behind the constructor, as it comes -/
noncomputable def b_mr (xs : Nat → Int32) : j_M0 := fun a i => if a = 0 then (xs i).toInt else b_h1.2.2 a i
def hR (L : Nat) (m : j_M0) : j_H := (j_KR L, j_PR, m)
set_option maxRecDepth 100000 in
theorem b_new (L : Nat) (xs : Nat → Int32) : c_call 10 87 [jR 2] (j_new (l_h0 L xs) 12 13) = some (none, hR L (b_mr xs)) := by
  obtain ⟨h1, h2, h3⟩ := b_d1
  have e1 := c_do_call h1
  have w0 : q_H (fun a => a) [(31, 0), (32, 6)] [(32, L), (32, 6)] b_h0 (l_h0 L xs) := by
    refine ⟨⟨[], rfl, rfl⟩, ⟨rfl, rfl⟩, fun a => (id_map _).symm, fun a i ha => ?_⟩
    have hz : a ≠ 0 := fun e => ha (by rw [e]; rfl)
    show (if a = 0 then (xs i).toInt else if a = 1 then (s_tn i).toInt else if 1000000 ≤ a then s_kb a i else 0) = _
    rw [if_neg hz]
    rfl
  have w1 := q_new (b_Pi L) w0 12 13
  obtain ⟨u, u1, u2, u3⟩ := q_Zr (q_call (b_Pi L) 10 87 [jR 2] _ _ w1) e1
  obtain ⟨v, k, p, m⟩ := u
  have hv : v = none := u2
  subst hv
  have hz := c_call_kp u1 L rfl
  obtain ⟨⟨T, t1, t2⟩, ⟨l1, l2⟩, r1, m1⟩ := u3
  have hk : k = j_KR L := by
    have t3 : b_K = [(31, 0), (32, 6)] ++ T := h2.symm.trans t1
    have t4 : T = (j_KR 0).drop 2 := by
      have := congrArg (List.drop 2) t3
      exact this.symm
    show k = j_KR L
    have t5 : k = [(32, L), (32, 6)] ++ T := t2
    rw [t5, t4]
    rfl
  have hp : p = j_PR := by
    apply List.ext_getElem?
    intro a
    have e2 := r1 a
    have l3 : p.length = j_PR.length := by
      have a1 : p.length = b_h1.1.length := l2
      have a2 : b_h1.2.1.length = b_h1.1.length := l1
      rw [a1, ← a2, h3]
    have e3 : p.getD a [] = j_PR.getD a [] := by
      rw [id_map, h3] at e2
      exact e2
    rw [List.getD_eq_getElem?_getD, List.getD_eq_getElem?_getD] at e3
    by_cases ha : a < p.length
    · rw [List.getElem?_eq_getElem ha, List.getElem?_eq_getElem (l3 ▸ ha)] at e3 ⊢
      exact congrArg some e3
    · rw [List.getElem?_eq_none (by omega), List.getElem?_eq_none (by omega)]
  have hm : m = b_mr xs := by
    funext a i
    unfold b_mr
    by_cases ha : a = 0
    · rw [if_pos ha, ha]
      exact congrFun hz.2 i
    · rw [if_neg ha]
      refine m1 a i (fun e4 => ?_)
      rw [h2] at e4
      have e5 : ∀ b : Nat, b < 114 → b ≠ 0 → b_K[b]? ≠ some (31, 0) := by decide +kernel
      have e6 : a < 114 := by
        have := (List.getElem?_eq_some_iff.mp e4).1
        exact this
      exact e5 a e6 ha e4
  refine (show c_call 10 87 [jR 2] (j_new (l_h0 L xs) 12 13) = _ from u1).trans ?_
  rw [hk, hp, hm]
  rfl
/-! by the elder numbers -/
def q_i (a : Nat) : Nat := if a < 87 then a else if a < 109 then a + 5 else if a < 114 then a - 22 else a
set_option maxRecDepth 100000 in
theorem b_PiR (L : Nat) : q_Pi q_i (j_KL L) (j_KR L) := by
  have l1 : (j_KL L).length = 114 := rfl
  have l2 : (j_KR L).length = 114 := rfl
  refine ⟨fun a b h => ?_, rfl, rfl, fun a ha => ?_, by rw [l1, l2], ⟨by rw [l1]; decide, by rw [l1]; decide⟩, fun a ha => .inr ?_⟩
  · unfold q_i at h
    repeat' split at h
    all_goals omega
  · rw [l1] at ha
    unfold q_i
    rw [if_neg (by omega), if_neg (by omega), if_neg (by omega)]
  · rw [l1] at ha
    have h0 : ∀ b : Nat, b < 114 → b ≠ 0 → (j_KR 0)[q_i b]? = (j_KL 0)[b]? ∧ q_i b ≠ 0 := by decide +kernel
    by_cases e : a = 0
    · rw [e]
      rfl
    · obtain ⟨h1, h2⟩ := h0 a ha e
      obtain ⟨k, hk⟩ : ∃ k, q_i a = k + 1 := ⟨q_i a - 1, by omega⟩
      obtain ⟨j, hj⟩ : ∃ j, a = j + 1 := ⟨a - 1, by omega⟩
      rw [hk, hj] at h1 ⊢
      exact h1
noncomputable def b_m (xs : Nat → Int32) : j_M0 := fun a i => b_mr xs (q_i a) i
set_option maxRecDepth 100000 in
theorem b_H (L : Nat) (xs : Nat → Int32) : q_H q_i (j_KL L) (j_KR L) (hH (L, [], []) (b_m xs)) (hR L (b_mr xs)) := by
  refine ⟨⟨[], rfl, (List.append_nil _).symm⟩, ⟨?_, rfl⟩, fun a => ?_, fun a i _ => rfl⟩
  · show (j_PL ++ []).length = (j_KL L ++ []).length
    rw [List.append_nil, List.append_nil]
    rfl
  · show j_PR.getD (q_i a) [] = ((j_PL ++ []).getD a []).map (Option.map q_i)
    rw [List.append_nil]
    have h0 : ∀ a, a < 114 → j_PR.getD (q_i a) [] = (j_PL.getD a []).map (Option.map q_i) := by decide +kernel
    by_cases e : a < 114
    · exact h0 a e
    · have e2 : q_i a = a := by
        unfold q_i
        rw [if_neg (by omega), if_neg (by omega), if_neg (by omega)]
      rw [e2, List.getD_eq_getElem?_getD, List.getD_eq_getElem?_getD, List.getElem?_eq_none (show j_PR.length ≤ a by show 114 ≤ a; omega), List.getElem?_eq_none (show j_PL.length ≤ a by show 114 ≤ a; omega)]
      rfl
