/-! Builders: a text appended: what then holds. -/
theorem getD_app (s x : List Int) (i : Nat) : (s ++ x).getD i 0 = if i < s.length then s.getD i 0 else x.getD (i - s.length) 0 := by
  rw [List.getD_eq_getElem?_getD]
  by_cases e : i < s.length
  · rw [if_pos e, List.getElem?_append_left e, List.getD_eq_getElem?_getD]
  · rw [if_neg e, List.getElem?_append_right (by omega), List.getD_eq_getElem?_getD]
theorem sB_app {h : j_H} {a b c u v : Nat} {s x : List Int} {n : Int} (w : sB h a b c s) (wt : sT h u v x) (hva : v ≠ a) (hvb : v ≠ b) (hk : s.length + x.length ≤ c) (hn : n = ((s.length + x.length : Nat) : Int)) : sB (aB h a b v s.length x.length n) a b c (s ++ x) ∧ xF (fun z => z = a ∨ z = b) 0 0 h (aB h a b v s.length x.length n) := by
  obtain ⟨⟨k1, k3, kr⟩, ⟨k2, kc⟩, ⟨hs, h16, h1000⟩, hv, hby, h127, ha2, hb2⟩ := w
  have hab : a ≠ b := fun e => by rw [e, k3] at k1; cases k1
  have mb : ∀ i, (aB h a b v s.length x.length n).2.2 b i = if s.length ≤ i ∧ i < s.length + x.length then h.2.2 v (i - s.length) else h.2.2 b i := fun i => by
    show (if b = a then _ else (if b = b then (if s.length ≤ i ∧ i < s.length + x.length then h.2.2 v (0 + (i - s.length)) else h.2.2 b i) else _)) = _
    rw [if_neg (fun e => hab e.symm), if_pos rfl, Nat.zero_add]
  refine ⟨⟨⟨k1, k3, kr⟩, ⟨?_, ?_⟩, ⟨by rw [List.length_append]; exact hk, h16, h1000⟩, fun i hi => ?_, fun i hi => ?_, fun y hy => ?_, ha2, hb2⟩, ⟨⟨[], (List.append_nil _).symm, Nat.le_refl _, Nat.le_refl _⟩, ⟨Nat.le_refl _, fun e => e⟩, fun _ _ _ => rfl, fun z i _ hz => ?_⟩⟩
  · show (if a = a then (if 1 = 3 then n else (if a = b then _ else h.2.2 a 1)) else _) = 0
    rw [if_pos rfl, if_neg (by decide), if_neg hab]
    exact k2
  · show (if a = a then (if 3 = 3 then n else _) else _) = _
    rw [if_pos rfl, if_pos rfl, hn, List.length_append]
  · rw [List.length_append] at hi
    rw [mb, getD_app]
    by_cases e : i < s.length
    · rw [if_neg (by omega), if_pos e]
      exact hv i e
    · rw [if_pos (by omega), if_neg e]
      exact wt.2.2.2.2.1 _ (by omega)
  · rw [mb]
    split
    · rename_i e
      rw [wt.2.2.2.2.1 _ (by omega), List.getD_eq_getElem?_getD, List.getElem?_eq_getElem (by omega)]
      have := wt.2.2.2.2.2.1 _ (List.getElem_mem (show i - s.length < x.length by omega))
      show -128 ≤ x[i - s.length] ∧ x[i - s.length] ≤ 127
      omega
    · exact hby i hi
  · rcases List.mem_append.mp hy with e | e
    · exact h127 y e
    · exact wt.2.2.2.2.2.1 y e
  · show (if z = a then _ else (if z = b then _ else h.2.2 z i)) = _
    rw [if_neg (fun e => hz (Or.inl e)), if_neg (fun e => hz (Or.inr e))]
theorem aB_l {h : j_H} {a b v k l : Nat} {n : Int} : (aB h a b v k l n).1 = h.1 ∧ (aB h a b v k l n).2.1 = h.2.1 := ⟨rfl, rfl⟩
theorem R283 {d a u : Nat} {h h2 : j_H} (k1 : h.1[a]? = some (1, 4)) (e : c_call (d + 5) 291 [jR a, jR u] h = some (some (jR a), h2)) : c_call (d + 6) 283 [jR a, jR u] h = some (some (jR a), h2) := by
  refine E283.trans ?_
  refine (S_aload_n rfl at_283_0).trans ?_
  refine (S_aload_n rfl at_283_1).trans ?_
  refine (S_invp (b := 1) (by decide) kn_291 rfl (kd_of k1) (Nat.le_of_ble_eq_true rfl) at_283_2).trans ?_
  show (((c_call (d + 5)) 291 [jR a, jR u] h).bind _) = _
  rw [e]
  show j_fin (c_call (d + 5)) 283 5 [some (jR a), some (jR u)] [jR a] h2 = _
  refine (S_pop rfl at_283_5).trans ?_
  refine (S_aload_n rfl at_283_6).trans ?_
  exact S_aret rfl at_283_7
theorem w32_nn {k l : Nat} (h : k + l ≤ 100000) : w32 ((k : Int) + (l : Int)) = ((k + l : Nat) : Int) := by
  rw [w32_id (by omega) (by omega)]
  omega
/-- append of a text -/
theorem A283 {d : Nat} {h : j_H} {a b c u v : Nat} {s x : List Int} (w : sB h a b c s) (wt : sT h u v x) (hw : h.2.1.length = h.1.length) (hl : h.1.length < 800000) (hvb : v ≠ b) (hv2 : 2 ≤ v) (hf : s.length + x.length ≤ 2 * c + 1) (hc : c ≤ 400) : ∃ (h' : j_H) (b' c' : Nat), c_call (d + 6) 283 [jR a, jR u] h = some (some (jR a), h') ∧ sB h' a b' c' (s ++ x) ∧ xF (fun z => z = a ∨ z = b) 1 (2 * c + 2) h h' ∧ (b' = b ∨ h.1.length ≤ b') ∧ (c' = c ∨ (c' = 2 * c + 2 ∧ c < s.length + x.length)) ∧ h'.2.1.length = h'.1.length ∧ h'.1.length ≤ h.1.length + 1 := by
  obtain ⟨⟨k1, k3, kr⟩, ⟨k2, kc⟩, ⟨hs, h16, h1000⟩, hv, hby, h127, ha2, hb2⟩ := id w
  have hua : u ≠ a := fun e => by
    have h1 := wt.1
    rw [e, kd_of k1] at h1
    cases h1
  have hva : v ≠ a := fun e => by
    have h1 := wt.2.2.1
    rw [e, kd_of k1] at h1
    cases h1
  have hab : a ≠ b := fun e => by rw [e, k3] at k1; cases k1
  have lb := (List.getElem?_eq_some_iff.mp k3).1
  have la := (List.getElem?_eq_some_iff.mp k1).1
  by_cases g : s.length + x.length ≤ c
  · have e292 : c_call (d + 4) 292 [jR a, jI ((s.length + x.length : Nat) : Int)] h = some (none, h) := R292a k1 kr k3 k2 h1000 (by omega)
    have e := R291 (d := d) k1 kc wt (w32_nn (by omega)) e292 k1 kr k3 k2 kc wt hv2 hb2 g h1000 hab
    obtain ⟨y1, y2⟩ := sB_app w wt hva hvb g rfl
    refine ⟨_, b, c, R283 k1 e, y1, xF_w y2 hw (fun z hz => Or.inl hz) (by omega) (by omega), Or.inl rfl, Or.inl rfl, hw, Nat.le_succ _⟩
  · obtain ⟨z1, z2, z3⟩ := sB_grow w hw (by omega) rfl hc
    obtain ⟨⟨j1, j3, jr⟩, ⟨j2, jc⟩, -⟩ := id z1
    have e292 : c_call (d + 4) 292 [jR a, jI ((s.length + x.length : Nat) : Int)] h = some (none, gB h a b c (2 * c + 2)) := R292b k1 kr k3 k2 h1000 rfl (by omega) (by omega) hb2 (by omega) (byt_of (fun i hi => by
      show -128 ≤ (if b = h.1.length then 0 else h.2.2 b (0 + i)) ∧ (if b = h.1.length then 0 else h.2.2 b (0 + i)) ≤ 127
      rw [if_neg (by omega), Nat.zero_add]
      exact hby i hi))
    have wt1 : sT (gB h a b c (2 * c + 2)) u v x := sT_x z2 hw (by omega) wt hua hva
    have hvn : v ≠ h.1.length := fun e => by
      rcases (kd_x z2 (by omega) wt.2.2.1).2 with h1 | h1 <;> omega
    have e := R291 (d := d) k1 kc wt (w32_nn (by omega)) e292 j1 jr j3 j2 jc wt1 hv2 (by omega) (by omega) (by omega) (Nat.ne_of_lt la)
    obtain ⟨y1, y2⟩ := sB_app z1 wt1 hva hvn (by omega) rfl
    have w1 : (gB h a b c (2 * c + 2)).2.1.length = (gB h a b c (2 * c + 2)).1.length := z2.2.1.2 hw
    have z2' : xF (fun z => z = a ∨ z = h.1.length) 1 (2 * c + 2) h (gB h a b c (2 * c + 2)) := xF_w z2 hw (fun z hz => Or.inl (Or.inl hz)) (Nat.le_refl _) (Nat.le_refl _)
    refine ⟨_, h.1.length, 2 * c + 2, R283 k1 e, y1, xF_w (xF_tr z2' y2) hw (fun z hz => ?_) (Nat.le_refl _) (Nat.le_refl _), Or.inr (Nat.le_refl _), Or.inr ⟨rfl, by omega⟩, w1, ?_⟩
    · rcases hz with hz | hz
      · exact Or.inl (Or.inl hz)
      · exact Or.inr ⟨by omega, by omega⟩
    · show (gB h a b c (2 * c + 2)).1.length ≤ _
      omega
