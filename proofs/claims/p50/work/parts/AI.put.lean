/-! Letters put behind a builder's: what then holds. -/
theorem sB_put {h h' : j_H} {a b c : Nat} {s ds : List Int} (w : sB h a b c s) (hk : s.length + ds.length ≤ c) (hd : ∀ x ∈ ds, 0 ≤ x ∧ x ≤ 127) (e1 : h'.1 = h.1) (e2 : h'.2.1 = h.2.1) (e3 : ∀ z i, h'.2.2 z i = if z = a ∧ i = 3 then ((s.length + ds.length : Nat) : Int) else if z = b ∧ s.length ≤ i ∧ i < s.length + ds.length then ds.getD (i - s.length) 0 else h.2.2 z i) : sB h' a b c (s ++ ds) ∧ xF (fun z => z = a ∨ z = b) 0 0 h h' := by
  obtain ⟨⟨k1, k3, kr⟩, ⟨k2, kc⟩, ⟨hs, h16, h1000⟩, hv, hby, h127, ha2, hb2⟩ := w
  have hab : a ≠ b := fun e => by rw [e, k3] at k1; cases k1
  refine ⟨⟨⟨by rw [e1]; exact k1, by rw [e1]; exact k3, by unfold j_rf; rw [e2]; exact kr⟩, ⟨?_, ?_⟩, ⟨by rw [List.length_append]; exact hk, h16, h1000⟩, fun i hi => ?_, fun i hi => ?_, fun y hy => ?_, ha2, hb2⟩, ⟨⟨[], by rw [e1, List.append_nil], Nat.le_refl _, Nat.le_refl _⟩, ⟨by rw [e2]; exact Nat.le_refl _, fun e => by rw [e1, e2]; exact e⟩, fun z _ _ => by rw [e2], fun z i _ hz => ?_⟩⟩
  · rw [e3, if_neg (fun e => absurd e.2 (by decide)), if_neg (fun e => hab e.1)]
    exact k2
  · rw [e3, if_pos ⟨rfl, rfl⟩, List.length_append]
  · rw [List.length_append] at hi
    rw [e3, if_neg (fun e => hab e.1.symm), getD_app]
    by_cases e : i < s.length
    · rw [if_neg (by omega), if_pos e]
      exact hv i e
    · rw [if_pos ⟨rfl, by omega, hi⟩, if_neg e]
  · rw [e3, if_neg (fun e => hab e.1.symm)]
    by_cases e : b = b ∧ s.length ≤ i ∧ i < s.length + ds.length
    · rw [if_pos e, List.getD_eq_getElem?_getD, List.getElem?_eq_getElem (show i - s.length < ds.length by omega)]
      have := hd _ (List.getElem_mem (show i - s.length < ds.length by omega))
      show -128 ≤ ds[i - s.length] ∧ ds[i - s.length] ≤ 127
      omega
    · rw [if_neg e]
      exact hby i hi
  · rcases List.mem_append.mp hy with e | e
    · exact h127 y e
    · exact hd y e
  · rw [e3, if_neg (fun e => hz (Or.inl e.1)), if_neg (fun e => hz (Or.inr e.1))]
theorem dgF_r {x : Int} (h : -99 ≤ x ∧ x ≤ 99) : ∀ y ∈ dgF x, 0 ≤ y ∧ y ≤ 127 := by
  intro y hy
  unfold dgF at hy
  rcases List.mem_append.mp hy with hy | hy
  · rcases List.mem_append.mp hy with hy | hy
    · split at hy
      · rw [List.mem_singleton.mp hy]
        decide
      · exact absurd hy List.not_mem_nil
    · split at hy
      · rw [List.mem_singleton.mp hy]
        omega
      · exact absurd hy List.not_mem_nil
  · rw [List.mem_singleton.mp hy]
    omega
