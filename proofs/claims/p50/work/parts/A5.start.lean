/-! What the constructor leaves; the law's first steps; the goal out of a run by the elder numbers. -/
noncomputable def b_hm : j_M0 := fun a i => b_h1.2.2 (q_i a) i
theorem b_f_t1 : ∀ i : Nat, i < 6 → b_hm 1 i = tenF i := by decide +kernel
theorem b_f_c5 : ∀ i : Nat, i < 5 → b_hm 5 i = 1 := by decide +kernel
theorem b_f_c6 : ∀ i : Nat, i < 8 → b_hm 6 i = 0 ∧ b_hm 7 i = 0 ∧ b_hm 13 i = 0 := by decide +kernel
theorem b_f_c8 : ∀ i : Nat, i < 40 → b_hm 8 i = 0 := by decide +kernel
theorem b_f_one : b_hm 4 0 = 2 ∧ b_hm 4 1 = 0 ∧ b_hm 9 0 = 0 ∧ b_hm 3 3 = 1 ∧ b_hm 3 4 = 4 ∧ b_hm 3 5 = 0 ∧ b_hm 3 8 = 0 ∧ b_hm 2 12 = 0 ∧ b_hm 93 0 = 0 ∧ b_hm 99 0 = -1 := by decide +kernel
theorem q_i0 {a : Nat} (h : q_i a = 0) : a = 0 := by
  unfold q_i at h
  repeat' split at h
  all_goals omega
theorem b_ne {xs : Nat → Int32} {a i : Nat} (h : a ≠ 0) : b_m xs a i = b_hm a i := if_neg (fun e => h (q_i0 e))
/-- the row behind the constructor -/
def g_0 : Nat → Int := fun i => if i = 3 then 4 else 0
def g_1 : Nat → Int := begG g_0 2
theorem begG_X' {g : Nat → Int} {v : Int} (x3 : 0 ≤ g 3 ∧ g 3 ≤ 6) : gX (begG g v) := by
  unfold gX
  rw [begG_2, begG_3, begG_z (i := 4) (by omega), begG_z (i := 5) (by omega), begG_z (i := 6) (by omega)]
  refine ⟨fun r hr => ?_, by omega, x3, by omega, fun k hk => by omega, by omega, fun k hk => by omega, by omega, fun k hk => by omega, fun i j hij hj => by omega⟩
  rw [begG_z (i := 68 + r) (by omega)]; omega
theorem Rel_0 (xs : Nat → Int32) (t : Nat → Int) : Rel xs g_1 none t 0 (b_m xs) := by
  obtain ⟨o1, o2, o3, o4, o5, o6, o7, o8, o9, o10⟩ := b_f_one
  have h3 : g_0 3 = 4 := rfl
  have z : ∀ i : Nat, i ≠ 0 ∧ i ≠ 2 ∧ i ≠ 3 ∧ ¬ (7 ≤ i ∧ i < 12) ∧ i < 150 → begG g_0 2 i = 0 := fun i h => begG_z h
  refine ⟨⟨fun i => (show (if q_i 0 = 0 then (xs i).toInt else b_h1.2.2 (q_i 0) i) = (xs i).toInt from if_pos rfl), fun i hi => (b_ne (by decide)).trans (b_f_t1 i hi)⟩, begG_R (by decide), begG_X' (by rw [h3]; decide), ?_, (b_ne (by decide)).trans o8, ⟨(b_ne (by decide)).trans o9, fun i hi => absurd hi (Nat.not_lt_zero i)⟩, (b_ne (by decide)).trans o10⟩
  show stR 3 (begG g_0 2) (b_m xs)
  have m4 : b_m xs 4 0 = 2 := (b_ne (by decide)).trans o1
  have m41 : b_m xs 4 1 = 0 := (b_ne (by decide)).trans o2
  have m9 : b_m xs 9 0 = 0 := (b_ne (by decide)).trans o3
  refine ⟨⟨⟨?_, ?_, ?_, ?_, fun p hp => ?_, fun r hr => ?_, fun i hi => ?_⟩, ?_, ?_, fun p hp => ?_, fun r hr => ?_, fun r p hr hp => ?_⟩, ofR_0 (a := 9) m9 (z 6 (by omega)), fun r hr => ?_, ?_, ?_, ?_, fun k hk => ?_, ?_, fun k hk => ?_⟩
  · rw [m4]; decide
  · rw [m4]; decide
  · rw [m41]; decide
  · rw [m41]; decide
  · rw [b_ne (by decide), b_f_c5 p hp]; decide
  · rw [b_ne (by decide), b_ne (by decide), (b_f_c6 r hr).1, (b_f_c6 r hr).2.1]; decide
  · rw [b_ne (by decide), b_f_c8 i hi]; decide
  · rw [m4, begG_0]
  · rw [m41, z 1 (by omega)]
  · rw [b_ne (by decide), b_f_c5 p hp, begG_c (by omega)]
  · rw [z 1 (by omega)] at hr; omega
  · rw [z 1 (by omega)] at hr; omega
  · rw [z _ (by omega), show 3 + 10 = 13 from rfl, b_ne (by decide)]
    exact (b_f_c6 r hr).2.2
  · rw [b_ne (by decide), begG_2]; exact o4
  · rw [b_ne (by decide), begG_3, h3]; exact o5
  · rw [b_ne (by decide), z 4 (by omega)]; exact o6
  · rw [z 4 (by omega)] at hk; omega
  · rw [b_ne (by decide), z 5 (by omega)]; exact o7
  · rw [z 5 (by omega)] at hk; omega
/-- the constants stand in memory -/
def kmR (m : j_M0) : Prop := ∀ a i : Nat, 1000000 ≤ a → i < 101 → m a i = s_kb a i
theorem kn_87 : j_kn[87]? = some (12, 2, 0) := by decide +kernel
theorem b_begR (L : Nat) (xs : Nat → Int32) : j_fin (c_call 10) 271 0 l_ls [] (l_h0 L xs) = j_fin (c_call 10) 271 8 (some (jR 0) :: some (jR 2) :: List.replicate 20 none) [] (hR L (b_mr xs)) := by
  refine (S_new ⟨by decide, by show 2 < 900000; decide⟩ at_271_0).trans ?_
  refine (S_dup rfl at_271_3).trans ?_
  refine (S_invi (b := 0) (kd := 0) (by decide) kn_87 rfl (Nat.le_of_ble_eq_true rfl) at_271_4).trans ?_
  show ((c_call 10 87 [jR 2] (j_new (l_h0 L xs) 12 13)).bind _) = _
  rw [b_new]
  show j_fin (c_call 10) 271 7 l_ls [jR 2] _ = _
  exact S_astore_n (l1 := some (jR 0) :: some (jR 2) :: List.replicate 20 none) rfl at_271_7
set_option maxRecDepth 100000 in
theorem KL_s (L : Nat) : ((j_KR L).map (fun q => q.2)).sum = L + ((j_KR 0).map (fun q => q.2)).sum := by
  unfold j_KR
  simp only [List.map_cons, List.map_nil, List.sum_cons, List.sum_nil, Nat.reduceAdd]
set_option maxRecDepth 100000 in
theorem KR_7 : ((j_KR 0).map (fun q => q.2)).sum ≤ 7000 := by decide +kernel
/-- what is left to show, by the elder numbers -/
def l_Goal2 : Prop := ∀ (L : Nat) (xs : Nat → Int32), L ≤ 260 → ∃ (E1 : List (Nat × Nat)) (E2 : List (List (Option Nat))) (m : j_M0), j_fin (c_call 10) 271 8 (some (jR 0) :: some (jR 2) :: List.replicate 20 none) [] (hH (L, [], []) (b_m xs)) = some (some (jI 1), hH (L, E1, E2) m) ∧ E1.length ≤ 100000 ∧ (E1.map (fun q => q.2)).sum ≤ 1900000
set_option maxRecDepth 100000 in
theorem l_goal_of (G : l_Goal2) : l_Goal := fun L xs hL => by
  obtain ⟨E1, E2, m, e, h1, h2⟩ := G L xs hL
  obtain ⟨u, u1, u2, u3⟩ := q_Zr (q_fin (b_PiR L) (q_call (b_PiR L) 10) 271 8 (some (jR 0) :: some (jR 2) :: List.replicate 20 none) [] (b_H L xs)) e
  obtain ⟨v, h⟩ := u
  obtain ⟨⟨T, t1, t2⟩, -⟩ := u3
  have hT : T = E1 := List.append_cancel_left (t1.symm.trans rfl)
  refine ⟨h, ?_, ?_, ?_⟩
  · rw [b_begR]
    have hv : v = some (jI 1) := u2
    rw [← hv]
    exact u1
  · rw [t2, hT, List.length_append, show (j_KR L).length = 114 from rfl]
    omega
  · unfold s_sl
    have k7 := KR_7
    rw [t2, hT, List.map_append, List.sum_append, KL_s]
    omega
