/-! What a call changes. -/
/-- what a call may change -/
def uPd (b z : Nat) : Prop := (3 ≤ b ∧ b ≤ 18) ∨ b = 110 ∨ (b = 2 ∧ z = 11) ∨ (b = 115 ∧ z = 18) ∨ sc b z
theorem gX_hand {g : Nat → Int} (hg : gR g) (hx : gX g) {r : Nat} {v : Int} (hr : r < 8) (hv : 0 ≤ v ∧ v ≤ 9) : gX (gU g (68 + r) v) := by
  have kg : ∀ z : Nat, ¬ (z = 68 + r) → (gU g (68 + r) v) z = g z := fun z h => by
    simp (disch := omega) only [gU_ne]
  obtain ⟨x1, x2, x3, x4, x5, x6, x7, x8, x9, x10⟩ := hx
  have h0 := hg.1
  have h5 := hg.2.1
  have h8 := hg.2.2.2.1
  refine ⟨?_, ?_, ?_, ?_, ?_, ?_, ?_, ?_, ?_, ?_⟩
  · exact fun q hq => by
      unfold gU
      split
      · exact hv
      · exact x1 q hq
  · exact by
      rw [kg 2 (by omega)]
      exact x2
  · exact by
      rw [kg 3 (by omega)]
      exact x3
  · exact by
      rw [kg 4 (by omega)]
      exact x4
  · exact fun k hk => by
      rw [kg 4 (by omega)] at hk
      rw [kg (76 + 2 * k) (by omega), kg (77 + 2 * k) (by omega), kg 0 (by omega)]
      exact x5 k hk
  · exact by
      rw [kg 5 (by omega)]
      exact x6
  · exact fun k hk => by
      rw [kg 5 (by omega)] at hk
      rw [kg (86 + 3 * k) (by omega), kg (87 + 3 * k) (by omega), kg (88 + 3 * k) (by omega)]
      exact x7 k hk
  · exact by
      rw [kg 6 (by omega)]
      exact x8
  · exact fun k hk => by
      rw [kg 6 (by omega)] at hk
      rw [kg (110 + 2 * k) (by omega), kg (111 + 2 * k) (by omega), kg 0 (by omega)]
      exact x9 k hk
  · exact fun i j hij hj => by
      rw [kg 6 (by omega)] at hj
      rw [kg (110 + 2 * i) (by omega), kg (110 + 2 * j) (by omega)]
      exact x10 i j hij hj
theorem stR_hand {g : Nat → Int} {m m' : j_M0} (hg : gR g) (hx : gX g) (st : stR 3 g m) {r : Nat} {v : Int} (hr : r < 8) (hv : 0 ≤ v ∧ v ≤ 9) (em : ∀ b z : Nat, 3 ≤ b → b ≤ 18 → m' b z = (j_up m 13 r v) b z) : stR 3 (gU g (68 + r) v) m' := by
  have kg : ∀ z : Nat, ¬ (z = 68 + r) → (gU g (68 + r) v) z = g z := fun z h => by
    simp (disch := omega) only [gU_ne]
  have km : ∀ b z : Nat, ¬ (b < 3 ∨ 18 < b ∨ b = 13) → m' b z = m b z := fun b z h => by
    rw [em b z (by omega) (by omega)]
    unfold j_up
    grind
  have h0 := hg.1
  have h5 := hg.2.1
  have h8 := hg.2.2.2.1
  have x4 := hx.2.2.2.1
  have x6 := hx.2.2.2.2.2.1
  have x8 := hx.2.2.2.2.2.2.2.1
  refine ⟨?_, ?_, ?_, ?_, ?_, ?_, ?_, ?_, ?_⟩
  · exact pkR_g (pkR_k st.1 (fun b z h h' => km _ _ (by omega))) (fun z hz => kg _ (by omega)) (by omega) (by omega)
  · exact ofR_g (ofR_k st.2.1 (fun b z h h' => km _ _ (by omega))) (by omega) (fun z hz => kg _ (by omega))
  · exact fun q hq => by
      rw [em _ _ (by omega) (by omega), up_at]
      by_cases e : q = r
      · subst e
        rw [if_pos rfl, gU_eq rfl]
      · rw [if_neg e, gU_ne (by omega)]
        exact st.2.2.1 q hq
  · exact (km _ _ (by omega)).trans (st.2.2.2.1.trans (kg _ (by omega)).symm)
  · exact (km _ _ (by omega)).trans (st.2.2.2.2.1.trans (kg _ (by omega)).symm)
  · exact (km _ _ (by omega)).trans (st.2.2.2.2.2.1.trans (kg _ (by omega)).symm)
  · exact fun k hk => by
      rw [kg 4 (by omega)] at hk
      exact ⟨(km _ _ (by omega)).trans ((st.2.2.2.2.2.2.1 k hk).1.trans (kg _ (by omega)).symm), (km _ _ (by omega)).trans ((st.2.2.2.2.2.2.1 k hk).2.trans (kg _ (by omega)).symm)⟩
  · exact (km _ _ (by omega)).trans (st.2.2.2.2.2.2.2.1.trans (kg _ (by omega)).symm)
  · exact fun k hk => by
      rw [kg 5 (by omega)] at hk
      exact ⟨(km _ _ (by omega)).trans ((st.2.2.2.2.2.2.2.2 k hk).1.trans (kg _ (by omega)).symm), (km _ _ (by omega)).trans ((st.2.2.2.2.2.2.2.2 k hk).2.1.trans (kg _ (by omega)).symm), (km _ _ (by omega)).trans ((st.2.2.2.2.2.2.2.2 k hk).2.2.trans (kg _ (by omega)).symm)⟩
theorem gX_by {g : Nat → Int} (hg : gR g) (hx : gX g) {v : Int} (hv : 1 ≤ v ∧ v ≤ 10) : gX (gU g 2 v) := by
  have kg : ∀ z : Nat, ¬ (z = 2) → (gU g 2 v) z = g z := fun z h => by
    simp (disch := omega) only [gU_ne]
  obtain ⟨x1, x2, x3, x4, x5, x6, x7, x8, x9, x10⟩ := hx
  have h0 := hg.1
  have h5 := hg.2.1
  have h8 := hg.2.2.2.1
  refine ⟨?_, ?_, ?_, ?_, ?_, ?_, ?_, ?_, ?_, ?_⟩
  · exact fun r hr => by
      rw [kg _ (by omega)]
      exact x1 r hr
  · exact by
      rw [gU_eq rfl]
      exact hv
  · exact by
      rw [kg 3 (by omega)]
      exact x3
  · exact by
      rw [kg 4 (by omega)]
      exact x4
  · exact fun k hk => by
      rw [kg 4 (by omega)] at hk
      rw [kg (76 + 2 * k) (by omega), kg (77 + 2 * k) (by omega), kg 0 (by omega)]
      exact x5 k hk
  · exact by
      rw [kg 5 (by omega)]
      exact x6
  · exact fun k hk => by
      rw [kg 5 (by omega)] at hk
      rw [kg (86 + 3 * k) (by omega), kg (87 + 3 * k) (by omega), kg (88 + 3 * k) (by omega)]
      exact x7 k hk
  · exact by
      rw [kg 6 (by omega)]
      exact x8
  · exact fun k hk => by
      rw [kg 6 (by omega)] at hk
      rw [kg (110 + 2 * k) (by omega), kg (111 + 2 * k) (by omega), kg 0 (by omega)]
      exact x9 k hk
  · exact fun i j hij hj => by
      rw [kg 6 (by omega)] at hj
      rw [kg (110 + 2 * i) (by omega), kg (110 + 2 * j) (by omega)]
      exact x10 i j hij hj
theorem stR_by {g : Nat → Int} {m m' : j_M0} (hg : gR g) (hx : gX g) (st : stR 3 g m) {v : Int} (hv : 1 ≤ v ∧ v ≤ 10) (em : ∀ b z : Nat, 3 ≤ b → b ≤ 18 → m' b z = (j_up m 3 3 v) b z) : stR 3 (gU g 2 v) m' := by
  have kg : ∀ z : Nat, ¬ (z = 2) → (gU g 2 v) z = g z := fun z h => by
    simp (disch := omega) only [gU_ne]
  have km : ∀ b z : Nat, ¬ (b < 3 ∨ 18 < b ∨ b = 3 ∧ z = 3) → m' b z = m b z := fun b z h => by
    rw [em b z (by omega) (by omega)]
    unfold j_up
    grind
  have h0 := hg.1
  have h5 := hg.2.1
  have h8 := hg.2.2.2.1
  have x4 := hx.2.2.2.1
  have x6 := hx.2.2.2.2.2.1
  have x8 := hx.2.2.2.2.2.2.2.1
  refine ⟨?_, ?_, ?_, ?_, ?_, ?_, ?_, ?_, ?_⟩
  · exact pkR_g (pkR_k st.1 (fun b z h h' => km _ _ (by omega))) (fun z hz => kg _ (by omega)) (by omega) (by omega)
  · exact ofR_g (ofR_k st.2.1 (fun b z h h' => km _ _ (by omega))) (by omega) (fun z hz => kg _ (by omega))
  · exact fun r hr => (km _ _ (by omega)).trans ((st.2.2.1 r hr).trans (kg _ (by omega)).symm)
  · exact by
      rw [em _ _ (by omega) (by omega), up_eq rfl, gU_eq rfl]
  · exact (km _ _ (by omega)).trans (st.2.2.2.2.1.trans (kg _ (by omega)).symm)
  · exact (km _ _ (by omega)).trans (st.2.2.2.2.2.1.trans (kg _ (by omega)).symm)
  · exact fun k hk => by
      rw [kg 4 (by omega)] at hk
      exact ⟨(km _ _ (by omega)).trans ((st.2.2.2.2.2.2.1 k hk).1.trans (kg _ (by omega)).symm), (km _ _ (by omega)).trans ((st.2.2.2.2.2.2.1 k hk).2.trans (kg _ (by omega)).symm)⟩
  · exact (km _ _ (by omega)).trans (st.2.2.2.2.2.2.2.1.trans (kg _ (by omega)).symm)
  · exact fun k hk => by
      rw [kg 5 (by omega)] at hk
      exact ⟨(km _ _ (by omega)).trans ((st.2.2.2.2.2.2.2.2 k hk).1.trans (kg _ (by omega)).symm), (km _ _ (by omega)).trans ((st.2.2.2.2.2.2.2.2 k hk).2.1.trans (kg _ (by omega)).symm), (km _ _ (by omega)).trans ((st.2.2.2.2.2.2.2.2 k hk).2.2.trans (kg _ (by omega)).symm)⟩
theorem gX_box {g : Nat → Int} (hg : gR g) (hx : gX g) {v : Int} (hv : 0 ≤ v ∧ v ≤ 6) : gX (gU g 3 v) := by
  have kg : ∀ z : Nat, ¬ (z = 3) → (gU g 3 v) z = g z := fun z h => by
    simp (disch := omega) only [gU_ne]
  obtain ⟨x1, x2, x3, x4, x5, x6, x7, x8, x9, x10⟩ := hx
  have h0 := hg.1
  have h5 := hg.2.1
  have h8 := hg.2.2.2.1
  refine ⟨?_, ?_, ?_, ?_, ?_, ?_, ?_, ?_, ?_, ?_⟩
  · exact fun r hr => by
      rw [kg _ (by omega)]
      exact x1 r hr
  · exact by
      rw [kg 2 (by omega)]
      exact x2
  · exact by
      rw [gU_eq rfl]
      exact hv
  · exact by
      rw [kg 4 (by omega)]
      exact x4
  · exact fun k hk => by
      rw [kg 4 (by omega)] at hk
      rw [kg (76 + 2 * k) (by omega), kg (77 + 2 * k) (by omega), kg 0 (by omega)]
      exact x5 k hk
  · exact by
      rw [kg 5 (by omega)]
      exact x6
  · exact fun k hk => by
      rw [kg 5 (by omega)] at hk
      rw [kg (86 + 3 * k) (by omega), kg (87 + 3 * k) (by omega), kg (88 + 3 * k) (by omega)]
      exact x7 k hk
  · exact by
      rw [kg 6 (by omega)]
      exact x8
  · exact fun k hk => by
      rw [kg 6 (by omega)] at hk
      rw [kg (110 + 2 * k) (by omega), kg (111 + 2 * k) (by omega), kg 0 (by omega)]
      exact x9 k hk
  · exact fun i j hij hj => by
      rw [kg 6 (by omega)] at hj
      rw [kg (110 + 2 * i) (by omega), kg (110 + 2 * j) (by omega)]
      exact x10 i j hij hj
theorem stR_box {g : Nat → Int} {m m' : j_M0} (hg : gR g) (hx : gX g) (st : stR 3 g m) {v : Int} (hv : 0 ≤ v ∧ v ≤ 6) (em : ∀ b z : Nat, 3 ≤ b → b ≤ 18 → m' b z = (j_up m 3 4 v) b z) : stR 3 (gU g 3 v) m' := by
  have kg : ∀ z : Nat, ¬ (z = 3) → (gU g 3 v) z = g z := fun z h => by
    simp (disch := omega) only [gU_ne]
  have km : ∀ b z : Nat, ¬ (b < 3 ∨ 18 < b ∨ b = 3 ∧ z = 4) → m' b z = m b z := fun b z h => by
    rw [em b z (by omega) (by omega)]
    unfold j_up
    grind
  have h0 := hg.1
  have h5 := hg.2.1
  have h8 := hg.2.2.2.1
  have x4 := hx.2.2.2.1
  have x6 := hx.2.2.2.2.2.1
  have x8 := hx.2.2.2.2.2.2.2.1
  refine ⟨?_, ?_, ?_, ?_, ?_, ?_, ?_, ?_, ?_⟩
  · exact pkR_g (pkR_k st.1 (fun b z h h' => km _ _ (by omega))) (fun z hz => kg _ (by omega)) (by omega) (by omega)
  · exact ofR_g (ofR_k st.2.1 (fun b z h h' => km _ _ (by omega))) (by omega) (fun z hz => kg _ (by omega))
  · exact fun r hr => (km _ _ (by omega)).trans ((st.2.2.1 r hr).trans (kg _ (by omega)).symm)
  · exact (km _ _ (by omega)).trans (st.2.2.2.1.trans (kg _ (by omega)).symm)
  · exact by
      rw [em _ _ (by omega) (by omega), up_eq rfl, gU_eq rfl]
  · exact (km _ _ (by omega)).trans (st.2.2.2.2.2.1.trans (kg _ (by omega)).symm)
  · exact fun k hk => by
      rw [kg 4 (by omega)] at hk
      exact ⟨(km _ _ (by omega)).trans ((st.2.2.2.2.2.2.1 k hk).1.trans (kg _ (by omega)).symm), (km _ _ (by omega)).trans ((st.2.2.2.2.2.2.1 k hk).2.trans (kg _ (by omega)).symm)⟩
  · exact (km _ _ (by omega)).trans (st.2.2.2.2.2.2.2.1.trans (kg _ (by omega)).symm)
  · exact fun k hk => by
      rw [kg 5 (by omega)] at hk
      exact ⟨(km _ _ (by omega)).trans ((st.2.2.2.2.2.2.2.2 k hk).1.trans (kg _ (by omega)).symm), (km _ _ (by omega)).trans ((st.2.2.2.2.2.2.2.2 k hk).2.1.trans (kg _ (by omega)).symm), (km _ _ (by omega)).trans ((st.2.2.2.2.2.2.2.2 k hk).2.2.trans (kg _ (by omega)).symm)⟩
theorem gX_sn0 {g : Nat → Int} (hg : gR g) (hx : gX g)  : gX (gU g 4 0) := by
  have kg : ∀ z : Nat, ¬ (z = 4) → (gU g 4 0) z = g z := fun z h => by
    simp (disch := omega) only [gU_ne]
  obtain ⟨x1, x2, x3, x4, x5, x6, x7, x8, x9, x10⟩ := hx
  have h0 := hg.1
  have h5 := hg.2.1
  have h8 := hg.2.2.2.1
  refine ⟨?_, ?_, ?_, ?_, ?_, ?_, ?_, ?_, ?_, ?_⟩
  · exact fun r hr => by
      rw [kg _ (by omega)]
      exact x1 r hr
  · exact by
      rw [kg 2 (by omega)]
      exact x2
  · exact by
      rw [kg 3 (by omega)]
      exact x3
  · exact by
      rw [gU_eq rfl]
      omega
  · exact fun k hk => by
      rw [gU_eq rfl] at hk
      omega
  · exact by
      rw [kg 5 (by omega)]
      exact x6
  · exact fun k hk => by
      rw [kg 5 (by omega)] at hk
      rw [kg (86 + 3 * k) (by omega), kg (87 + 3 * k) (by omega), kg (88 + 3 * k) (by omega)]
      exact x7 k hk
  · exact by
      rw [kg 6 (by omega)]
      exact x8
  · exact fun k hk => by
      rw [kg 6 (by omega)] at hk
      rw [kg (110 + 2 * k) (by omega), kg (111 + 2 * k) (by omega), kg 0 (by omega)]
      exact x9 k hk
  · exact fun i j hij hj => by
      rw [kg 6 (by omega)] at hj
      rw [kg (110 + 2 * i) (by omega), kg (110 + 2 * j) (by omega)]
      exact x10 i j hij hj
theorem stR_sn0 {g : Nat → Int} {m m' : j_M0} (hg : gR g) (hx : gX g) (st : stR 3 g m)  (em : ∀ b z : Nat, 3 ≤ b → b ≤ 18 → m' b z = (j_up m 3 5 0) b z) : stR 3 (gU g 4 0) m' := by
  have kg : ∀ z : Nat, ¬ (z = 4) → (gU g 4 0) z = g z := fun z h => by
    simp (disch := omega) only [gU_ne]
  have km : ∀ b z : Nat, ¬ (b < 3 ∨ 18 < b ∨ b = 3 ∧ z = 5) → m' b z = m b z := fun b z h => by
    rw [em b z (by omega) (by omega)]
    unfold j_up
    grind
  have h0 := hg.1
  have h5 := hg.2.1
  have h8 := hg.2.2.2.1
  have x4 := hx.2.2.2.1
  have x6 := hx.2.2.2.2.2.1
  have x8 := hx.2.2.2.2.2.2.2.1
  refine ⟨?_, ?_, ?_, ?_, ?_, ?_, ?_, ?_, ?_⟩
  · exact pkR_g (pkR_k st.1 (fun b z h h' => km _ _ (by omega))) (fun z hz => kg _ (by omega)) (by omega) (by omega)
  · exact ofR_g (ofR_k st.2.1 (fun b z h h' => km _ _ (by omega))) (by omega) (fun z hz => kg _ (by omega))
  · exact fun r hr => (km _ _ (by omega)).trans ((st.2.2.1 r hr).trans (kg _ (by omega)).symm)
  · exact (km _ _ (by omega)).trans (st.2.2.2.1.trans (kg _ (by omega)).symm)
  · exact (km _ _ (by omega)).trans (st.2.2.2.2.1.trans (kg _ (by omega)).symm)
  · exact by
      rw [em _ _ (by omega) (by omega), up_eq rfl, gU_eq rfl]
  · exact fun k hk => by
      rw [gU_eq rfl] at hk
      omega
  · exact (km _ _ (by omega)).trans (st.2.2.2.2.2.2.2.1.trans (kg _ (by omega)).symm)
  · exact fun k hk => by
      rw [kg 5 (by omega)] at hk
      exact ⟨(km _ _ (by omega)).trans ((st.2.2.2.2.2.2.2.2 k hk).1.trans (kg _ (by omega)).symm), (km _ _ (by omega)).trans ((st.2.2.2.2.2.2.2.2 k hk).2.1.trans (kg _ (by omega)).symm), (km _ _ (by omega)).trans ((st.2.2.2.2.2.2.2.2 k hk).2.2.trans (kg _ (by omega)).symm)⟩
theorem gX_pn0 {g : Nat → Int} (hg : gR g) (hx : gX g)  : gX (gU g 5 0) := by
  have kg : ∀ z : Nat, ¬ (z = 5) → (gU g 5 0) z = g z := fun z h => by
    simp (disch := omega) only [gU_ne]
  obtain ⟨x1, x2, x3, x4, x5, x6, x7, x8, x9, x10⟩ := hx
  have h0 := hg.1
  have h5 := hg.2.1
  have h8 := hg.2.2.2.1
  refine ⟨?_, ?_, ?_, ?_, ?_, ?_, ?_, ?_, ?_, ?_⟩
  · exact fun r hr => by
      rw [kg _ (by omega)]
      exact x1 r hr
  · exact by
      rw [kg 2 (by omega)]
      exact x2
  · exact by
      rw [kg 3 (by omega)]
      exact x3
  · exact by
      rw [kg 4 (by omega)]
      exact x4
  · exact fun k hk => by
      rw [kg 4 (by omega)] at hk
      rw [kg (76 + 2 * k) (by omega), kg (77 + 2 * k) (by omega), kg 0 (by omega)]
      exact x5 k hk
  · exact by
      rw [gU_eq rfl]
      omega
  · exact fun k hk => by
      rw [gU_eq rfl] at hk
      omega
  · exact by
      rw [kg 6 (by omega)]
      exact x8
  · exact fun k hk => by
      rw [kg 6 (by omega)] at hk
      rw [kg (110 + 2 * k) (by omega), kg (111 + 2 * k) (by omega), kg 0 (by omega)]
      exact x9 k hk
  · exact fun i j hij hj => by
      rw [kg 6 (by omega)] at hj
      rw [kg (110 + 2 * i) (by omega), kg (110 + 2 * j) (by omega)]
      exact x10 i j hij hj
theorem stR_pn0 {g : Nat → Int} {m m' : j_M0} (hg : gR g) (hx : gX g) (st : stR 3 g m)  (em : ∀ b z : Nat, 3 ≤ b → b ≤ 18 → m' b z = (j_up m 3 8 0) b z) : stR 3 (gU g 5 0) m' := by
  have kg : ∀ z : Nat, ¬ (z = 5) → (gU g 5 0) z = g z := fun z h => by
    simp (disch := omega) only [gU_ne]
  have km : ∀ b z : Nat, ¬ (b < 3 ∨ 18 < b ∨ b = 3 ∧ z = 8) → m' b z = m b z := fun b z h => by
    rw [em b z (by omega) (by omega)]
    unfold j_up
    grind
  have h0 := hg.1
  have h5 := hg.2.1
  have h8 := hg.2.2.2.1
  have x4 := hx.2.2.2.1
  have x6 := hx.2.2.2.2.2.1
  have x8 := hx.2.2.2.2.2.2.2.1
  refine ⟨?_, ?_, ?_, ?_, ?_, ?_, ?_, ?_, ?_⟩
  · exact pkR_g (pkR_k st.1 (fun b z h h' => km _ _ (by omega))) (fun z hz => kg _ (by omega)) (by omega) (by omega)
  · exact ofR_g (ofR_k st.2.1 (fun b z h h' => km _ _ (by omega))) (by omega) (fun z hz => kg _ (by omega))
  · exact fun r hr => (km _ _ (by omega)).trans ((st.2.2.1 r hr).trans (kg _ (by omega)).symm)
  · exact (km _ _ (by omega)).trans (st.2.2.2.1.trans (kg _ (by omega)).symm)
  · exact (km _ _ (by omega)).trans (st.2.2.2.2.1.trans (kg _ (by omega)).symm)
  · exact (km _ _ (by omega)).trans (st.2.2.2.2.2.1.trans (kg _ (by omega)).symm)
  · exact fun k hk => by
      rw [kg 4 (by omega)] at hk
      exact ⟨(km _ _ (by omega)).trans ((st.2.2.2.2.2.2.1 k hk).1.trans (kg _ (by omega)).symm), (km _ _ (by omega)).trans ((st.2.2.2.2.2.2.1 k hk).2.trans (kg _ (by omega)).symm)⟩
  · exact by
      rw [em _ _ (by omega) (by omega), up_eq rfl, gU_eq rfl]
  · exact fun k hk => by
      rw [gU_eq rfl] at hk
      omega
theorem gX_see {g : Nat → Int} (hg : gR g) (hx : gX g) {k : Nat} {x v : Int} (hk : g 4 = k) (hk5 : k < 5) (hp : 0 ≤ x ∧ x < g 0) (hv : 0 ≤ v ∧ v ≤ 999) : gX (gU (gU (gU g (76 + 2 * k) x) (77 + 2 * k) v) 4 ((k + 1 : Nat) : Int)) := by
  have kg : ∀ z : Nat, ¬ (z = 4 ∨ z = 76 + 2 * k ∨ z = 77 + 2 * k) → (gU (gU (gU g (76 + 2 * k) x) (77 + 2 * k) v) 4 ((k + 1 : Nat) : Int)) z = g z := fun z h => by
    simp (disch := omega) only [gU_ne]
  obtain ⟨x1, x2, x3, x4, x5, x6, x7, x8, x9, x10⟩ := hx
  have h0 := hg.1
  have h5 := hg.2.1
  have h8 := hg.2.2.2.1
  refine ⟨?_, ?_, ?_, ?_, ?_, ?_, ?_, ?_, ?_, ?_⟩
  · exact fun r hr => by
      rw [kg _ (by omega)]
      exact x1 r hr
  · exact by
      rw [kg 2 (by omega)]
      exact x2
  · exact by
      rw [kg 3 (by omega)]
      exact x3
  · exact by
      rw [gU_eq rfl]
      omega
  · exact fun q hq => by
      rw [gU_eq rfl] at hq
      rw [kg 0 (by omega)]
      by_cases e : q = k
      · subst e
        simp (disch := omega) only [gU_ne, gU_eq]
        exact ⟨hp, hv⟩
      · rw [kg _ (by omega), kg _ (by omega)]
        exact x5 q (by omega)
  · exact by
      rw [kg 5 (by omega)]
      exact x6
  · exact fun k hk => by
      rw [kg 5 (by omega)] at hk
      rw [kg (86 + 3 * k) (by omega), kg (87 + 3 * k) (by omega), kg (88 + 3 * k) (by omega)]
      exact x7 k hk
  · exact by
      rw [kg 6 (by omega)]
      exact x8
  · exact fun k hk => by
      rw [kg 6 (by omega)] at hk
      rw [kg (110 + 2 * k) (by omega), kg (111 + 2 * k) (by omega), kg 0 (by omega)]
      exact x9 k hk
  · exact fun i j hij hj => by
      rw [kg 6 (by omega)] at hj
      rw [kg (110 + 2 * i) (by omega), kg (110 + 2 * j) (by omega)]
      exact x10 i j hij hj
theorem stR_see {g : Nat → Int} {m m' : j_M0} (hg : gR g) (hx : gX g) (st : stR 3 g m) {k : Nat} {x v : Int} (hk : g 4 = k) (hk5 : k < 5) (hp : 0 ≤ x ∧ x < g 0) (hv : 0 ≤ v ∧ v ≤ 999) (em : ∀ b z : Nat, 3 ≤ b → b ≤ 18 → m' b z = (j_up (j_up (j_up m 14 k x) 15 k v) 3 5 ((k + 1 : Nat) : Int)) b z) : stR 3 (gU (gU (gU g (76 + 2 * k) x) (77 + 2 * k) v) 4 ((k + 1 : Nat) : Int)) m' := by
  have kg : ∀ z : Nat, ¬ (z = 4 ∨ z = 76 + 2 * k ∨ z = 77 + 2 * k) → (gU (gU (gU g (76 + 2 * k) x) (77 + 2 * k) v) 4 ((k + 1 : Nat) : Int)) z = g z := fun z h => by
    simp (disch := omega) only [gU_ne]
  have km : ∀ b z : Nat, ¬ (b < 3 ∨ 18 < b ∨ (b = 3 ∧ z = 5) ∨ (b = 14 ∨ b = 15) ∧ z = k) → m' b z = m b z := fun b z h => by
    rw [em b z (by omega) (by omega)]
    unfold j_up
    grind
  have h0 := hg.1
  have h5 := hg.2.1
  have h8 := hg.2.2.2.1
  have x4 := hx.2.2.2.1
  have x6 := hx.2.2.2.2.2.1
  have x8 := hx.2.2.2.2.2.2.2.1
  refine ⟨?_, ?_, ?_, ?_, ?_, ?_, ?_, ?_, ?_⟩
  · exact pkR_g (pkR_k st.1 (fun b z h h' => km _ _ (by omega))) (fun z hz => kg _ (by omega)) (by omega) (by omega)
  · exact ofR_g (ofR_k st.2.1 (fun b z h h' => km _ _ (by omega))) (by omega) (fun z hz => kg _ (by omega))
  · exact fun r hr => (km _ _ (by omega)).trans ((st.2.2.1 r hr).trans (kg _ (by omega)).symm)
  · exact (km _ _ (by omega)).trans (st.2.2.2.1.trans (kg _ (by omega)).symm)
  · exact (km _ _ (by omega)).trans (st.2.2.2.2.1.trans (kg _ (by omega)).symm)
  · exact by
      rw [em _ _ (by omega) (by omega), up_eq rfl, gU_eq rfl]
  · exact fun q hq => by
      rw [gU_eq rfl] at hq
      by_cases e : q = k
      · subst e
        simp (disch := omega) only [gU_ne, gU_eq, em, up_ne, up_eq]
        exact ⟨trivial, trivial⟩
      · rw [kg _ (by omega), kg _ (by omega), km _ _ (by omega), km _ _ (by omega)]
        exact st.2.2.2.2.2.2.1 q (by omega)
  · exact (km _ _ (by omega)).trans (st.2.2.2.2.2.2.2.1.trans (kg _ (by omega)).symm)
  · exact fun k hk => by
      rw [kg 5 (by omega)] at hk
      exact ⟨(km _ _ (by omega)).trans ((st.2.2.2.2.2.2.2.2 k hk).1.trans (kg _ (by omega)).symm), (km _ _ (by omega)).trans ((st.2.2.2.2.2.2.2.2 k hk).2.1.trans (kg _ (by omega)).symm), (km _ _ (by omega)).trans ((st.2.2.2.2.2.2.2.2 k hk).2.2.trans (kg _ (by omega)).symm)⟩
theorem gX_plan {g : Nat → Int} (hg : gR g) (hx : gX g) {k : Nat} {w x v : Int} (hk : g 5 = k) (hk5 : k < 8) (hw : 0 ≤ w ∧ w ≤ 2) (hp : 0 ≤ x ∧ x < 8) (hv : plN w v = 1) : gX (gU (gU (gU (gU g (86 + 3 * k) w) (87 + 3 * k) x) (88 + 3 * k) v) 5 ((k + 1 : Nat) : Int)) := by
  have kg : ∀ z : Nat, ¬ (z = 5 ∨ z = 86 + 3 * k ∨ z = 87 + 3 * k ∨ z = 88 + 3 * k) → (gU (gU (gU (gU g (86 + 3 * k) w) (87 + 3 * k) x) (88 + 3 * k) v) 5 ((k + 1 : Nat) : Int)) z = g z := fun z h => by
    simp (disch := omega) only [gU_ne]
  obtain ⟨x1, x2, x3, x4, x5, x6, x7, x8, x9, x10⟩ := hx
  have h0 := hg.1
  have h5 := hg.2.1
  have h8 := hg.2.2.2.1
  refine ⟨?_, ?_, ?_, ?_, ?_, ?_, ?_, ?_, ?_, ?_⟩
  · exact fun r hr => by
      rw [kg _ (by omega)]
      exact x1 r hr
  · exact by
      rw [kg 2 (by omega)]
      exact x2
  · exact by
      rw [kg 3 (by omega)]
      exact x3
  · exact by
      rw [kg 4 (by omega)]
      exact x4
  · exact fun k hk => by
      rw [kg 4 (by omega)] at hk
      rw [kg (76 + 2 * k) (by omega), kg (77 + 2 * k) (by omega), kg 0 (by omega)]
      exact x5 k hk
  · exact by
      rw [gU_eq rfl]
      omega
  · exact fun q hq => by
      rw [gU_eq rfl] at hq
      by_cases e : q = k
      · subst e
        simp (disch := omega) only [gU_ne, gU_eq]
        exact ⟨hw, hp, hv⟩
      · rw [kg _ (by omega), kg _ (by omega), kg _ (by omega)]
        exact x7 q (by omega)
  · exact by
      rw [kg 6 (by omega)]
      exact x8
  · exact fun k hk => by
      rw [kg 6 (by omega)] at hk
      rw [kg (110 + 2 * k) (by omega), kg (111 + 2 * k) (by omega), kg 0 (by omega)]
      exact x9 k hk
  · exact fun i j hij hj => by
      rw [kg 6 (by omega)] at hj
      rw [kg (110 + 2 * i) (by omega), kg (110 + 2 * j) (by omega)]
      exact x10 i j hij hj
theorem stR_plan {g : Nat → Int} {m m' : j_M0} (hg : gR g) (hx : gX g) (st : stR 3 g m) {k : Nat} {w x v : Int} (hk : g 5 = k) (hk5 : k < 8) (hw : 0 ≤ w ∧ w ≤ 2) (hp : 0 ≤ x ∧ x < 8) (hv : plN w v = 1) (em : ∀ b z : Nat, 3 ≤ b → b ≤ 18 → m' b z = (j_up (j_up (j_up (j_up m 16 k w) 17 k x) 18 k v) 3 8 ((k + 1 : Nat) : Int)) b z) : stR 3 (gU (gU (gU (gU g (86 + 3 * k) w) (87 + 3 * k) x) (88 + 3 * k) v) 5 ((k + 1 : Nat) : Int)) m' := by
  have kg : ∀ z : Nat, ¬ (z = 5 ∨ z = 86 + 3 * k ∨ z = 87 + 3 * k ∨ z = 88 + 3 * k) → (gU (gU (gU (gU g (86 + 3 * k) w) (87 + 3 * k) x) (88 + 3 * k) v) 5 ((k + 1 : Nat) : Int)) z = g z := fun z h => by
    simp (disch := omega) only [gU_ne]
  have km : ∀ b z : Nat, ¬ (b < 3 ∨ 18 < b ∨ (b = 3 ∧ z = 8) ∨ (b = 16 ∨ b = 17 ∨ b = 18) ∧ z = k) → m' b z = m b z := fun b z h => by
    rw [em b z (by omega) (by omega)]
    unfold j_up
    grind
  have h0 := hg.1
  have h5 := hg.2.1
  have h8 := hg.2.2.2.1
  have x4 := hx.2.2.2.1
  have x6 := hx.2.2.2.2.2.1
  have x8 := hx.2.2.2.2.2.2.2.1
  refine ⟨?_, ?_, ?_, ?_, ?_, ?_, ?_, ?_, ?_⟩
  · exact pkR_g (pkR_k st.1 (fun b z h h' => km _ _ (by omega))) (fun z hz => kg _ (by omega)) (by omega) (by omega)
  · exact ofR_g (ofR_k st.2.1 (fun b z h h' => km _ _ (by omega))) (by omega) (fun z hz => kg _ (by omega))
  · exact fun r hr => (km _ _ (by omega)).trans ((st.2.2.1 r hr).trans (kg _ (by omega)).symm)
  · exact (km _ _ (by omega)).trans (st.2.2.2.1.trans (kg _ (by omega)).symm)
  · exact (km _ _ (by omega)).trans (st.2.2.2.2.1.trans (kg _ (by omega)).symm)
  · exact (km _ _ (by omega)).trans (st.2.2.2.2.2.1.trans (kg _ (by omega)).symm)
  · exact fun k hk => by
      rw [kg 4 (by omega)] at hk
      exact ⟨(km _ _ (by omega)).trans ((st.2.2.2.2.2.2.1 k hk).1.trans (kg _ (by omega)).symm), (km _ _ (by omega)).trans ((st.2.2.2.2.2.2.1 k hk).2.trans (kg _ (by omega)).symm)⟩
  · exact by
      rw [em _ _ (by omega) (by omega), up_eq rfl, gU_eq rfl]
  · exact fun q hq => by
      rw [gU_eq rfl] at hq
      by_cases e : q = k
      · subst e
        simp (disch := omega) only [gU_ne, gU_eq, em, up_ne, up_eq]
        exact ⟨trivial, trivial, trivial⟩
      · rw [kg _ (by omega), kg _ (by omega), kg _ (by omega), km _ _ (by omega), km _ _ (by omega), km _ _ (by omega)]
        exact st.2.2.2.2.2.2.2.2 q (by omega)
