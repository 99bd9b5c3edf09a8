/-! The law's beginning: both objects made (by the kernel, and e_do); behind it the cells by the elder numbers. -/
def hR (L : Nat) (m : j_M0) : j_H := (j_KR L, j_PR, m)
def b_h0 : j_H := ([(31, 0), (32, 6)], [[], []], fun a i => if a = 1 then (s_tn i).toInt else 0)
noncomputable def b_r1 : Option j_Z := c_do 3000 10 87 [jR 2] (j_new b_h0 10 13)
def b_K : List (Nat × Nat) := (j_KR 0).set 0 (31, 0)
theorem b_c1 : b_r1.map (fun z => (z.1, z.2.1, z.2.2.1)) = some (none, b_K.take 114, j_PR.take 114) := by decide +kernel
noncomputable def b_h1 : j_H := (b_r1.getD (none, b_h0)).2
theorem b_h1e : b_h1 = (b_r1.getD (none, b_h0)).2 := by unfold b_h1; rfl
noncomputable def b_r2 : Option j_Z := c_do 3000 10 148 [jR 114] (j_new b_h1 12 29)
theorem b_c2 : b_r2.map (fun z => (z.1, z.2.1, z.2.2.1)) = some (none, b_K, j_PR) := by decide +kernel
noncomputable def b_h2 : j_H := (b_r2.getD (none, b_h0)).2
theorem b_h2e : b_h2 = (b_r2.getD (none, b_h0)).2 := by unfold b_h2; rfl
theorem b_some {o : Option j_Z} {d : j_H} {K : List (Nat × Nat)} {P : List (List (Option Nat))} (h : o.map (fun z => (z.1, z.2.1, z.2.2.1)) = some (none, K, P)) : o = some (none, (o.getD (none, d)).2) ∧ (o.getD (none, d)).2.1 = K ∧ (o.getD (none, d)).2.2.1 = P := by
  cases o with
  | none => cases h
  | some z =>
    obtain ⟨v, k, p, m⟩ := z
    simp only [Option.map_some, Option.some.injEq, Prod.mk.injEq] at h
    obtain ⟨rfl, rfl, rfl⟩ := h
    exact ⟨rfl, rfl, rfl⟩
theorem b_e0 (L : Nat) (xs : Nat → Int32) : e_R L (fun i => (xs i).toInt) b_h0 = l_h0 L xs := by
  unfold e_R b_h0 l_h0
  rfl
/-- the memory at the loop's head, as it came -/
noncomputable def b_mr (xs : Nat → Int32) : j_M0 := fun a i => if a = 0 then (xs i).toInt else b_h2.2.2 a i
theorem b_d1 : c_do 3000 10 87 [jR 2] (j_new b_h0 10 13) = some (none, b_h1) := by
  obtain ⟨h1, -, -⟩ := b_some (d := b_h0) b_c1
  rw [← b_h1e] at h1
  exact h1
theorem b_new1 (L : Nat) (xs : Nat → Int32) : c_call 10 87 [jR 2] (j_new (l_h0 L xs) 10 13) = some (none, e_R L (fun i => (xs i).toInt) b_h1) := by
  have h2 := e_do (L := L) (xs := fun i => (xs i).toInt) 10 87 [jR 2] (j_new b_h0 10 13) _ b_d1 rfl
  rw [← (e_new (L := L) (xs := fun i => (xs i).toInt) (c := 10) (n := 13) (show b_h0.1[0]? = some (31, 0) from rfl)).1, b_e0] at h2
  have h3 := c_do_call h2.1
  rw [h3]
theorem b_h1_0 : b_h1.1[0]? = some (31, 0) := by
  obtain ⟨-, h2, -⟩ := b_some (d := b_h0) b_c1
  rw [b_h1e, h2]
  decide +kernel
theorem b_h1_l : b_h1.1.length = 114 := by
  obtain ⟨-, h2, -⟩ := b_some (d := b_h0) b_c1
  rw [b_h1e, h2]
  decide +kernel
theorem b_new2 (L : Nat) (xs : Nat → Int32) : c_call 10 148 [jR 114] (j_new (e_R L (fun i => (xs i).toInt) b_h1) 12 29) = some (none, hR L (b_mr xs)) := by
  obtain ⟨h1, h2, h3⟩ := b_some (d := b_h0) b_c2
  have h4 := e_do (L := L) (xs := fun i => (xs i).toInt) 10 148 [jR 114] (j_new b_h1 12 29) _ h1 (e_new (L := L) (xs := fun i => (xs i).toInt) b_h1_0).2
  rw [← (e_new (L := L) (xs := fun i => (xs i).toInt) (c := 12) (n := 29) b_h1_0).1] at h4
  refine (c_do_call h4.1).trans ?_
  have h5 : e_R L (fun i => (xs i).toInt) (b_r2.getD (none, b_h0)).2 = hR L (b_mr xs) := by
    have h6 : b_K.set 0 (32, L) = j_KR L := by
      unfold b_K j_KR
      rfl
    unfold e_R hR b_mr
    rw [b_h2e, h2, h3, h6]
  rw [← h5]
theorem b_begR (L : Nat) (xs : Nat → Int32) : j_fin (c_call 10) 271 0 [some (jR 0), none, none, none] [] (l_h0 L xs) = j_fin (c_call 10) 271 18 [some (jR 0), some (jR 2), some (jR 114), some (jI 0)] [] (hR L (b_mr xs)) := by
  refine (S_new at_271_0).trans ?_
  refine (S_dup rfl at_271_3).trans ?_
  refine (S_invi (b := 0) (by decide) rfl (Nat.le_of_ble_eq_true rfl) at_271_4).trans ?_
  show ((c_call 10 87 [jR 2] (j_new (l_h0 L xs) 10 13)).bind _) = _
  rw [b_new1]
  show j_fin (c_call 10) 271 7 [some (jR 0), none, none, none] [jR 2] _ = _
  refine (S_astore_n (l1 := [some (jR 0), some (jR 2), none, none]) rfl at_271_7).trans ?_
  refine (S_new at_271_8).trans ?_
  refine (S_dup rfl at_271_11).trans ?_
  refine (S_invi (b := 0) (by decide) rfl (Nat.le_of_ble_eq_true rfl) at_271_12).trans ?_
  rw [e_len, b_h1_l]
  show ((c_call 10 148 [jR 114] (j_new (e_R L (fun i => (xs i).toInt) b_h1) 12 29)).bind _) = _
  rw [b_new2]
  show j_fin (c_call 10) 271 15 [some (jR 0), some (jR 2), none, none] [jR 114] _ = _
  refine (S_astore_n (l1 := [some (jR 0), some (jR 2), some (jR 114), none]) rfl at_271_15).trans ?_
  refine (S_iconst at_271_16).trans ?_
  exact S_istore_n (l1 := [some (jR 0), some (jR 2), some (jR 114), some (jI 0)]) rfl at_271_17
/-- the memory at the loop's head, by the elder numbers -/
noncomputable def b_hm : j_M0 := fun a i => b_h2.2.2 (q_i a) i
noncomputable def b_m (xs : Nat → Int32) : j_M0 := fun a i => if a = 0 then (xs i).toInt else b_hm a i
set_option maxRecDepth 100000 in
theorem b_P0 : ∀ a, a < 160 → j_PL.getD (q_p a) [] = (j_PR.getD a []).map (Option.map q_p) := by decide +kernel
set_option maxRecDepth 100000 in
theorem b_PRl : j_PR.length = 160 := by decide +kernel
set_option maxRecDepth 100000 in
theorem b_PLl : j_PL.length = 160 := by decide +kernel
theorem b_H (L : Nat) (xs : Nat → Int32) : q_H L (hR L (b_mr xs)) (hH L (b_m xs)) := by
  refine ⟨⟨[], (List.append_nil _).symm, (List.append_nil _).symm⟩, ⟨?_, ?_⟩, fun a => ?_, fun a i => ?_⟩
  · show j_PR.length = (j_KR L).length
    rw [b_PRl, q_KRl]
  · show j_PL.length = (j_KR L).length
    rw [b_PLl, q_KRl]
  · show j_PL.getD (q_p a) [] = (j_PR.getD a []).map (Option.map q_p)
    by_cases e : a < 160
    · exact b_P0 a e
    · rw [q_ge (by omega), List.getD_eq_getElem?_getD, List.getD_eq_getElem?_getD, List.getElem?_eq_none (by rw [b_PLl]; omega), List.getElem?_eq_none (by rw [b_PRl]; omega)]
      rfl
  · show (if q_p a = 0 then (xs i).toInt else b_h2.2.2 (q_i (q_p a)) i) = (if a = 0 then (xs i).toInt else b_h2.2.2 a i)
    rw [q_ip]
    have e : (q_p a = 0) ↔ (a = 0) := q_eq a 0
    simp only [e]
theorem b_end {L : Nat} {xs : Nat → Int32} {m : j_M0} (e : j_fin (c_call 10) 271 18 [some (jR 0), some (jR 2), some (jR 109), some (jI 0)] [] (hH L (b_m xs)) = some (some (jI 1), hH L m)) : ∃ h : j_H, j_fin (c_call 10) 271 0 [some (jR 0), none, none, none] [] (l_h0 L xs) = some (some (jI 1), h) ∧ h.1 = j_KR L := by
  rw [b_begR]
  obtain ⟨z, h1, h2, h3⟩ := q_Zl (q_fin (q_call 10) 271 18 [some (jR 0), some (jR 2), some (jR 114), some (jI 0)] [] (b_H L xs)) e
  obtain ⟨v, h⟩ := z
  refine ⟨h, ?_, ?_⟩
  · rw [h1]
    replace h2 : some (jI 1) = q_f v := h2
    rcases v with _ | (x | x | x)
    · cases h2
    · replace h2 : some (jI 1) = some (jI x) := h2
      rw [← h2]
    · cases h2
    · cases h2
  · obtain ⟨⟨T, h4, h5⟩, -⟩ := h3
    have h6 : j_KL L = j_KL L ++ T := h5
    have h7 : T = [] := by
      have := congrArg List.length h6
      rw [List.length_append] at this
      exact List.eq_nil_of_length_eq_zero (by omega)
    rw [h7, List.append_nil] at h4
    exact h4
