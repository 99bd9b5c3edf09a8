/-! A number appended; the heap as the class's and the law's own again. -/
theorem A284 {d : Nat} {h : j_H} {a b c : Nat} {s : List Int} {x : Int} (w : sB h a b c s) (hx : -99 ≤ x ∧ x ≤ 99) (hk : s.length + 3 ≤ c) (hl : h.1.length ≤ 1000000) (km : kmD h) : ∃ h' : j_H, c_call (d + 6) 284 [jR a, jI x] h = some (some (jR a), h') ∧ sB h' a b c (s ++ dgF x) ∧ xF (fun z => z = a ∨ z = b) 0 0 h h' := by
  by_cases h1 : x < 0
  · by_cases h2 : x ≤ -10
    · exact A284d w (by omega) hk hl km
    · exact A284c w (by omega) (by omega) hl km
  · by_cases h2 : 10 ≤ x
    · exact A284b w (by omega) (by omega) hl km
    · exact A284a w (by omega) (by omega) hl km
theorem dgF_l (x : Int) : (dgF x).length ≤ 3 ∧ 1 ≤ (dgF x).length := by
  unfold dgF
  split <;> split <;> simp
set_option maxRecDepth 100000 in
theorem PL_l : j_PL.length = 114 := by decide +kernel
set_option maxRecDepth 100000 in
theorem hH_x {W : Nat → Prop} {c n : Nat} {B : j_B} {m : j_M0} {h' : j_H} (x : xF W c n (hH B m) h') (hW : ∀ a, W a → 114 ≤ a) : ∃ (B' : j_B) (m' : j_M0), h' = hH B' m' ∧ B'.1 = B.1 ∧ (∃ T : List (Nat × Nat), B'.2.1 = B.2.1 ++ T ∧ T.length ≤ c ∧ (T.map (fun q => q.2)).sum ≤ n) ∧ (∀ a i : Nat, a < 114 → m' a i = m a i) ∧ ∀ a i : Nat, 1000000 ≤ a → ¬ W a → m' a i = m a i := by
  obtain ⟨⟨T, t1, t2, t3⟩, ⟨x2, -⟩, x3, x4⟩ := x
  obtain ⟨K, P, m'⟩ := h'
  have e1 : K = j_KL B.1 ++ (B.2.1 ++ T) := by
    have : K = (j_KL B.1 ++ B.2.1) ++ T := t1
    rw [this, List.append_assoc]
  have l0 : (j_PL ++ B.2.2).length = 114 + B.2.2.length := by rw [List.length_append, PL_l]
  have lP : 114 ≤ P.length := by
    have : (j_PL ++ B.2.2).length ≤ P.length := x2
    omega
  have e2 : P.take 114 = j_PL := by
    apply List.ext_getElem?
    intro a
    by_cases ha : a < 114
    · have h3 : P.getD a [] = (j_PL ++ B.2.2).getD a [] := x3 a (by show a < (j_PL ++ B.2.2).length; omega) (fun g => by have := hW a g; omega)
      rw [List.getD_eq_getElem?_getD, List.getD_eq_getElem?_getD, List.getElem?_append_left (by rw [PL_l]; exact ha), List.getElem?_eq_getElem (show a < P.length by omega), List.getElem?_eq_getElem (show a < j_PL.length by rw [PL_l]; exact ha)] at h3
      rw [List.getElem?_take, if_pos ha, List.getElem?_eq_getElem (show a < P.length by omega), List.getElem?_eq_getElem (show a < j_PL.length by rw [PL_l]; exact ha)]
      exact congrArg some h3
    · rw [List.getElem?_eq_none (by rw [List.length_take]; omega), List.getElem?_eq_none (by rw [PL_l]; omega)]
  refine ⟨(B.1, B.2.1 ++ T, P.drop 114), m', ?_, rfl, ⟨T, rfl, t2, t3⟩, fun a i ha => ?_, fun a i ha hn => x4 a i (Or.inr ha) hn⟩
  · show (K, P, m') = (j_KL B.1 ++ (B.2.1 ++ T), j_PL ++ P.drop 114, m')
    rw [← e1, ← e2, List.take_append_drop]
  · refine x4 a i (Or.inl ?_) (fun g => by have := hW a g; omega)
    show a < (j_KL B.1 ++ B.2.1).length
    rw [List.length_append, show (j_KL B.1).length = 114 from rfl]
    omega
/-- the class, told by its row, doesn't care for the law's own -/
theorem RQ_low {xs : Nat → Int32} {g : Nat → Int} {q : Option (Nat → Int)} {t : Nat → Int} {N : Nat} {m m' : j_M0} (w : Rel xs g q t N m) (k : ∀ a i : Nat, a < 114 → m' a i = m a i) : Rel xs g q t N m' := by
  obtain ⟨w1, w2, w3, w4, w5, w6, w7⟩ := w
  exact ⟨baR_k w1 (fun b z h => k _ _ (by omega)), w2, w3, stR_k w4 (fun b z h h' => k _ _ (by omega)), imQ_k w5 (fun b z h => k _ _ (by omega)), tC_k w6 (fun b z h => k _ _ (by omega)), (k _ _ (by omega)).trans w7⟩
