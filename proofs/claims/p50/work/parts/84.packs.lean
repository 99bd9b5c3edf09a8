/-! bound, cost, factor, less. -/
/-- an empty shelf -/
theorem ofR_0 {a : Nat} {g : Nat → Int} {m : j_M0} (h : m a 0 = 0) (h6 : g 6 = 0) : ofR a g m := by
  refine ⟨by rw [h, h6], fun i j _ hj => ?_, fun i hi => ?_, fun i hi => ?_, fun i hi => ?_⟩
  · rw [h6] at hj; omega
  · rw [h6] at hi; omega
  · rw [h6] at hi; omega
  · rw [h6] at hi; omega
/-- fewer rules -/
theorem pkR_many {a : Nat} {g : Nat → Int} {m : j_M0} (w : pkR a g m) {v : Int} (hv : 0 ≤ v ∧ v ≤ g 1) : pkR a (gU g 1 v) (j_up m a 1 v) := by
  obtain ⟨w1, w2, w3, w4, w5, w6⟩ := w
  obtain ⟨a1, a2, a3, a4, a5, a6, a7⟩ := w1
  refine ⟨⟨?_, ?_, ?_, ?_, fun p hp => ?_, fun q hq => ?_, fun i hi => ?_⟩, ?_, ?_, fun p hp => ?_, fun q hq => ?_, fun q p hq hp => ?_⟩
  · rw [up_nj (by omega)]; exact a1
  · rw [up_nj (by omega)]; exact a2
  · rw [up_eq rfl]; exact hv.1
  · rw [up_eq rfl]; omega
  · rw [up_ne (by omega)]; exact a5 p hp
  · rw [up_ne (by omega), up_ne (by omega)]; exact a6 q hq
  · rw [up_ne (by omega)]; exact a7 i hi
  · rw [up_nj (by omega), gU_ne (by omega)]; exact w2
  · rw [up_eq rfl, gU_eq rfl]
  · rw [up_ne (by omega), gU_ne (by omega)]; exact w4 p hp
  · rw [gU_eq rfl] at hq
    rw [up_ne (by omega), up_ne (by omega), gU_ne (by omega), gU_ne (by omega)]
    exact w5 q (by omega)
  · rw [gU_eq rfl] at hq
    rw [gU_ne (by omega)] at hp
    rw [up_ne (by omega), gU_ne (by omega)]
    exact w6 q p (by omega) hp
theorem gX_bound {g : Nat → Int} (hg : gR g) (hx : gX g) {r : Nat} {v : Int} (hr : (r : Int) < g 1) (hv : -99 ≤ v ∧ v ≤ 999) : gX (gU g (13 + 7 * r) v) := by
  have kg : ∀ z : Nat, ¬ (z = 13 + 7 * r) → (gU g (13 + 7 * r) v) z = g z := fun z h => by
    simp (disch := omega) only [gU_ne]
  obtain ⟨x1, x2, x3, x4, x5, x6, x7, x8, x9, x10⟩ := hx
  have h0 := hg.1
  have h5 := hg.2.1
  have h8 := hg.2.2.2.1
  refine ⟨?_, ?_, ?_, ?_, ?_, ?_, ?_, ?_, ?_, ?_⟩
  · exact fun r hr => by
      rw [kg _ (by omega)]
      exact x1 r hr
  · exact by
      rw [kg 2 (by omega)]
      exact x2
  · exact by
      rw [kg 3 (by omega)]
      exact x3
  · exact by
      rw [kg 4 (by omega)]
      exact x4
  · exact fun k hk => by
      rw [kg 4 (by omega)] at hk
      rw [kg (76 + 2 * k) (by omega), kg (77 + 2 * k) (by omega), kg 0 (by omega)]
      exact x5 k hk
  · exact by
      rw [kg 5 (by omega)]
      exact x6
  · exact fun k hk => by
      rw [kg 5 (by omega)] at hk
      rw [kg (86 + 3 * k) (by omega), kg (87 + 3 * k) (by omega), kg (88 + 3 * k) (by omega)]
      exact x7 k hk
  · exact by
      rw [kg 6 (by omega)]
      exact x8
  · exact fun k hk => by
      rw [kg 6 (by omega)] at hk
      rw [kg (110 + 2 * k) (by omega), kg (111 + 2 * k) (by omega), kg 0 (by omega)]
      exact x9 k hk
  · exact fun i j hij hj => by
      rw [kg 6 (by omega)] at hj
      rw [kg (110 + 2 * i) (by omega), kg (110 + 2 * j) (by omega)]
      exact x10 i j hij hj
theorem stR_bound {g : Nat → Int} {m m' : j_M0} (hg : gR g) (hx : gX g) (st : stR 3 g m) {r : Nat} {v : Int} (hr : (r : Int) < g 1) (hv : -99 ≤ v ∧ v ≤ 999) (em : ∀ b z : Nat, 3 ≤ b → b ≤ 18 → m' b z = (j_up m 7 r v) b z) : stR 3 (gU g (13 + 7 * r) v) m' := by
  have kg : ∀ z : Nat, ¬ (z = 13 + 7 * r) → (gU g (13 + 7 * r) v) z = g z := fun z h => by
    simp (disch := omega) only [gU_ne]
  have km : ∀ b z : Nat, ¬ (b < 3 ∨ 18 < b ∨ b = 7) → m' b z = m b z := fun b z h => by
    rw [em b z (by omega) (by omega)]
    unfold j_up
    grind
  have h0 := hg.1
  have h5 := hg.2.1
  have h8 := hg.2.2.2.1
  have x4 := hx.2.2.2.1
  have x6 := hx.2.2.2.2.2.1
  have x8 := hx.2.2.2.2.2.2.2.1
  refine ⟨?_, ?_, ?_, ?_, ?_, ?_, ?_, ?_, ?_⟩
  · exact pkR_k (pkR_bound (a := 4) st.1 hr hv) (fun b z h h' => em b z (by omega) (by omega))
  · exact ofR_g (ofR_k st.2.1 (fun b z h h' => km _ _ (by omega))) (by omega) (fun z hz => kg _ (by omega))
  · exact fun r hr => (km _ _ (by omega)).trans ((st.2.2.1 r hr).trans (kg _ (by omega)).symm)
  · exact (km _ _ (by omega)).trans (st.2.2.2.1.trans (kg _ (by omega)).symm)
  · exact (km _ _ (by omega)).trans (st.2.2.2.2.1.trans (kg _ (by omega)).symm)
  · exact (km _ _ (by omega)).trans (st.2.2.2.2.2.1.trans (kg _ (by omega)).symm)
  · exact fun k hk => by
      rw [kg 4 (by omega)] at hk
      exact ⟨(km _ _ (by omega)).trans ((st.2.2.2.2.2.2.1 k hk).1.trans (kg _ (by omega)).symm), (km _ _ (by omega)).trans ((st.2.2.2.2.2.2.1 k hk).2.trans (kg _ (by omega)).symm)⟩
  · exact (km _ _ (by omega)).trans (st.2.2.2.2.2.2.2.1.trans (kg _ (by omega)).symm)
  · exact fun k hk => by
      rw [kg 5 (by omega)] at hk
      exact ⟨(km _ _ (by omega)).trans ((st.2.2.2.2.2.2.2.2 k hk).1.trans (kg _ (by omega)).symm), (km _ _ (by omega)).trans ((st.2.2.2.2.2.2.2.2 k hk).2.1.trans (kg _ (by omega)).symm), (km _ _ (by omega)).trans ((st.2.2.2.2.2.2.2.2 k hk).2.2.trans (kg _ (by omega)).symm)⟩
theorem gX_cost {g : Nat → Int} (hg : gR g) (hx : gX g) {c : Nat} {v : Int} (hc : c < 5) (hv : 0 ≤ v ∧ v ≤ 99) : gX (gU (gU g (7 + c) v) 6 0) := by
  have kg : ∀ z : Nat, ¬ (z = 7 + c ∨ z = 6) → (gU (gU g (7 + c) v) 6 0) z = g z := fun z h => by
    simp (disch := omega) only [gU_ne]
  obtain ⟨x1, x2, x3, x4, x5, x6, x7, x8, x9, x10⟩ := hx
  have h0 := hg.1
  have h5 := hg.2.1
  have h8 := hg.2.2.2.1
  refine ⟨?_, ?_, ?_, ?_, ?_, ?_, ?_, ?_, ?_, ?_⟩
  · exact fun r hr => by
      rw [kg _ (by omega)]
      exact x1 r hr
  · exact by
      rw [kg 2 (by omega)]
      exact x2
  · exact by
      rw [kg 3 (by omega)]
      exact x3
  · exact by
      rw [kg 4 (by omega)]
      exact x4
  · exact fun k hk => by
      rw [kg 4 (by omega)] at hk
      rw [kg (76 + 2 * k) (by omega), kg (77 + 2 * k) (by omega), kg 0 (by omega)]
      exact x5 k hk
  · exact by
      rw [kg 5 (by omega)]
      exact x6
  · exact fun k hk => by
      rw [kg 5 (by omega)] at hk
      rw [kg (86 + 3 * k) (by omega), kg (87 + 3 * k) (by omega), kg (88 + 3 * k) (by omega)]
      exact x7 k hk
  · exact by
      rw [gU_eq rfl]
      omega
  · exact fun k hk => by
      rw [gU_eq rfl] at hk
      omega
  · exact fun i j hij hj => by
      rw [gU_eq rfl] at hj
      omega
theorem stR_cost {g : Nat → Int} {m m' : j_M0} (hg : gR g) (hx : gX g) (st : stR 3 g m) {c : Nat} {v : Int} (hc : c < 5) (hv : 0 ≤ v ∧ v ≤ 99) (em : ∀ b z : Nat, 3 ≤ b → b ≤ 18 → m' b z = (j_up (j_up m 5 c v) 9 0 0) b z) : stR 3 (gU (gU g (7 + c) v) 6 0) m' := by
  have kg : ∀ z : Nat, ¬ (z = 7 + c ∨ z = 6) → (gU (gU g (7 + c) v) 6 0) z = g z := fun z h => by
    simp (disch := omega) only [gU_ne]
  have km : ∀ b z : Nat, ¬ (b < 3 ∨ 18 < b ∨ b = 5 ∨ b = 9) → m' b z = m b z := fun b z h => by
    rw [em b z (by omega) (by omega)]
    unfold j_up
    grind
  have h0 := hg.1
  have h5 := hg.2.1
  have h8 := hg.2.2.2.1
  have x4 := hx.2.2.2.1
  have x6 := hx.2.2.2.2.2.1
  have x8 := hx.2.2.2.2.2.2.2.1
  refine ⟨?_, ?_, ?_, ?_, ?_, ?_, ?_, ?_, ?_⟩
  · exact pkR_k (pkR_g (pkR_cost (a := 4) st.1 hc hv) (fun z hz => gU_ne (by omega)) (by rw [gU_ne (by omega)]; exact h8) (by rw [gU_ne (by omega)]; exact h5)) (fun b z h h' => (em b z (by omega) (by omega)).trans (up_ne (by omega)))
  · exact ofR_0 (by rw [em _ _ (by omega) (by omega), up_eq rfl]) (gU_eq rfl)
  · exact fun r hr => (km _ _ (by omega)).trans ((st.2.2.1 r hr).trans (kg _ (by omega)).symm)
  · exact (km _ _ (by omega)).trans (st.2.2.2.1.trans (kg _ (by omega)).symm)
  · exact (km _ _ (by omega)).trans (st.2.2.2.2.1.trans (kg _ (by omega)).symm)
  · exact (km _ _ (by omega)).trans (st.2.2.2.2.2.1.trans (kg _ (by omega)).symm)
  · exact fun k hk => by
      rw [kg 4 (by omega)] at hk
      exact ⟨(km _ _ (by omega)).trans ((st.2.2.2.2.2.2.1 k hk).1.trans (kg _ (by omega)).symm), (km _ _ (by omega)).trans ((st.2.2.2.2.2.2.1 k hk).2.trans (kg _ (by omega)).symm)⟩
  · exact (km _ _ (by omega)).trans (st.2.2.2.2.2.2.2.1.trans (kg _ (by omega)).symm)
  · exact fun k hk => by
      rw [kg 5 (by omega)] at hk
      exact ⟨(km _ _ (by omega)).trans ((st.2.2.2.2.2.2.2.2 k hk).1.trans (kg _ (by omega)).symm), (km _ _ (by omega)).trans ((st.2.2.2.2.2.2.2.2 k hk).2.1.trans (kg _ (by omega)).symm), (km _ _ (by omega)).trans ((st.2.2.2.2.2.2.2.2 k hk).2.2.trans (kg _ (by omega)).symm)⟩
theorem gX_fac {g : Nat → Int} (hg : gR g) (hx : gX g) {r c : Nat} {v : Int} (hr : (r : Int) < g 1) (hc : c < 5) (hv : -9 ≤ v ∧ v ≤ 9) : gX (gU g (14 + 7 * r + c) v) := by
  have kg : ∀ z : Nat, ¬ (z = 14 + 7 * r + c) → (gU g (14 + 7 * r + c) v) z = g z := fun z h => by
    simp (disch := omega) only [gU_ne]
  obtain ⟨x1, x2, x3, x4, x5, x6, x7, x8, x9, x10⟩ := hx
  have h0 := hg.1
  have h5 := hg.2.1
  have h8 := hg.2.2.2.1
  refine ⟨?_, ?_, ?_, ?_, ?_, ?_, ?_, ?_, ?_, ?_⟩
  · exact fun r hr => by
      rw [kg _ (by omega)]
      exact x1 r hr
  · exact by
      rw [kg 2 (by omega)]
      exact x2
  · exact by
      rw [kg 3 (by omega)]
      exact x3
  · exact by
      rw [kg 4 (by omega)]
      exact x4
  · exact fun k hk => by
      rw [kg 4 (by omega)] at hk
      rw [kg (76 + 2 * k) (by omega), kg (77 + 2 * k) (by omega), kg 0 (by omega)]
      exact x5 k hk
  · exact by
      rw [kg 5 (by omega)]
      exact x6
  · exact fun k hk => by
      rw [kg 5 (by omega)] at hk
      rw [kg (86 + 3 * k) (by omega), kg (87 + 3 * k) (by omega), kg (88 + 3 * k) (by omega)]
      exact x7 k hk
  · exact by
      rw [kg 6 (by omega)]
      exact x8
  · exact fun k hk => by
      rw [kg 6 (by omega)] at hk
      rw [kg (110 + 2 * k) (by omega), kg (111 + 2 * k) (by omega), kg 0 (by omega)]
      exact x9 k hk
  · exact fun i j hij hj => by
      rw [kg 6 (by omega)] at hj
      rw [kg (110 + 2 * i) (by omega), kg (110 + 2 * j) (by omega)]
      exact x10 i j hij hj
theorem stR_fac {g : Nat → Int} {m m' : j_M0} (hg : gR g) (hx : gX g) (st : stR 3 g m) {r c : Nat} {v : Int} (hr : (r : Int) < g 1) (hc : c < 5) (hv : -9 ≤ v ∧ v ≤ 9) (em : ∀ b z : Nat, 3 ≤ b → b ≤ 18 → m' b z = (j_up m 8 (5 * r + c) v) b z) : stR 3 (gU g (14 + 7 * r + c) v) m' := by
  have kg : ∀ z : Nat, ¬ (z = 14 + 7 * r + c) → (gU g (14 + 7 * r + c) v) z = g z := fun z h => by
    simp (disch := omega) only [gU_ne]
  have km : ∀ b z : Nat, ¬ (b < 3 ∨ 18 < b ∨ b = 8) → m' b z = m b z := fun b z h => by
    rw [em b z (by omega) (by omega)]
    unfold j_up
    grind
  have h0 := hg.1
  have h5 := hg.2.1
  have h8 := hg.2.2.2.1
  have x4 := hx.2.2.2.1
  have x6 := hx.2.2.2.2.2.1
  have x8 := hx.2.2.2.2.2.2.2.1
  refine ⟨?_, ?_, ?_, ?_, ?_, ?_, ?_, ?_, ?_⟩
  · exact pkR_k (pkR_fac (a := 4) st.1 hr hc hv) (fun b z h h' => em b z (by omega) (by omega))
  · exact ofR_g (ofR_k st.2.1 (fun b z h h' => km _ _ (by omega))) (by omega) (fun z hz => kg _ (by omega))
  · exact fun r hr => (km _ _ (by omega)).trans ((st.2.2.1 r hr).trans (kg _ (by omega)).symm)
  · exact (km _ _ (by omega)).trans (st.2.2.2.1.trans (kg _ (by omega)).symm)
  · exact (km _ _ (by omega)).trans (st.2.2.2.2.1.trans (kg _ (by omega)).symm)
  · exact (km _ _ (by omega)).trans (st.2.2.2.2.2.1.trans (kg _ (by omega)).symm)
  · exact fun k hk => by
      rw [kg 4 (by omega)] at hk
      exact ⟨(km _ _ (by omega)).trans ((st.2.2.2.2.2.2.1 k hk).1.trans (kg _ (by omega)).symm), (km _ _ (by omega)).trans ((st.2.2.2.2.2.2.1 k hk).2.trans (kg _ (by omega)).symm)⟩
  · exact (km _ _ (by omega)).trans (st.2.2.2.2.2.2.2.1.trans (kg _ (by omega)).symm)
  · exact fun k hk => by
      rw [kg 5 (by omega)] at hk
      exact ⟨(km _ _ (by omega)).trans ((st.2.2.2.2.2.2.2.2 k hk).1.trans (kg _ (by omega)).symm), (km _ _ (by omega)).trans ((st.2.2.2.2.2.2.2.2 k hk).2.1.trans (kg _ (by omega)).symm), (km _ _ (by omega)).trans ((st.2.2.2.2.2.2.2.2 k hk).2.2.trans (kg _ (by omega)).symm)⟩
theorem gX_less {g : Nat → Int} (hg : gR g) (hx : gX g) {r : Nat} (hr : g 1 = ((r + 1 : Nat) : Int)) : gX (gU (gU g 1 (r : Int)) (68 + r) 0) := by
  have kg : ∀ z : Nat, ¬ (z = 1 ∨ z = 68 + r) → (gU (gU g 1 (r : Int)) (68 + r) 0) z = g z := fun z h => by
    simp (disch := omega) only [gU_ne]
  obtain ⟨x1, x2, x3, x4, x5, x6, x7, x8, x9, x10⟩ := hx
  have h0 := hg.1
  have h5 := hg.2.1
  have h8 := hg.2.2.2.1
  refine ⟨?_, ?_, ?_, ?_, ?_, ?_, ?_, ?_, ?_, ?_⟩
  · exact fun q hq => by
      rw [show gU (gU g 1 (r : Int)) (68 + r) 0 (68 + q) = if 68 + q = 68 + r then 0 else gU g 1 (r : Int) (68 + q) from rfl]
      split
      · omega
      · rw [gU_ne (by omega)]; exact x1 q hq
  · exact by
      rw [kg 2 (by omega)]
      exact x2
  · exact by
      rw [kg 3 (by omega)]
      exact x3
  · exact by
      rw [kg 4 (by omega)]
      exact x4
  · exact fun k hk => by
      rw [kg 4 (by omega)] at hk
      rw [kg (76 + 2 * k) (by omega), kg (77 + 2 * k) (by omega), kg 0 (by omega)]
      exact x5 k hk
  · exact by
      rw [kg 5 (by omega)]
      exact x6
  · exact fun k hk => by
      rw [kg 5 (by omega)] at hk
      rw [kg (86 + 3 * k) (by omega), kg (87 + 3 * k) (by omega), kg (88 + 3 * k) (by omega)]
      exact x7 k hk
  · exact by
      rw [kg 6 (by omega)]
      exact x8
  · exact fun k hk => by
      rw [kg 6 (by omega)] at hk
      rw [kg (110 + 2 * k) (by omega), kg (111 + 2 * k) (by omega), kg 0 (by omega)]
      exact x9 k hk
  · exact fun i j hij hj => by
      rw [kg 6 (by omega)] at hj
      rw [kg (110 + 2 * i) (by omega), kg (110 + 2 * j) (by omega)]
      exact x10 i j hij hj
theorem stR_less {g : Nat → Int} {m m' : j_M0} (hg : gR g) (hx : gX g) (st : stR 3 g m) {r : Nat} (hr : g 1 = ((r + 1 : Nat) : Int)) (em : ∀ b z : Nat, 3 ≤ b → b ≤ 18 → m' b z = (j_up (j_up m 4 1 (r : Int)) 13 r 0) b z) : stR 3 (gU (gU g 1 (r : Int)) (68 + r) 0) m' := by
  have kg : ∀ z : Nat, ¬ (z = 1 ∨ z = 68 + r) → (gU (gU g 1 (r : Int)) (68 + r) 0) z = g z := fun z h => by
    simp (disch := omega) only [gU_ne]
  have km : ∀ b z : Nat, ¬ (b < 3 ∨ 18 < b ∨ (b = 4 ∧ z = 1) ∨ b = 13) → m' b z = m b z := fun b z h => by
    rw [em b z (by omega) (by omega)]
    unfold j_up
    grind
  have h0 := hg.1
  have h5 := hg.2.1
  have h8 := hg.2.2.2.1
  have x4 := hx.2.2.2.1
  have x6 := hx.2.2.2.2.2.1
  have x8 := hx.2.2.2.2.2.2.2.1
  refine ⟨?_, ?_, ?_, ?_, ?_, ?_, ?_, ?_, ?_⟩
  · exact pkR_k (pkR_g (pkR_many (a := 4) st.1 (v := (r : Int)) (by omega)) (fun z hz => gU_ne (by omega)) (by rw [gU_eq rfl]; omega) (by rw [gU_ne (by omega)]; exact h5)) (fun b z h h' => (em b z (by omega) (by omega)).trans (up_ne (by omega)))
  · exact ofR_g (ofR_k st.2.1 (fun b z h h' => km _ _ (by omega))) (by omega) (fun z hz => kg _ (by omega))
  · exact fun q hq => by
      rw [em _ _ (by omega) (by omega), up_at]
      by_cases e : q = r
      · subst e
        rw [if_pos rfl, gU_eq rfl]
      · rw [if_neg e, gU_ne (by omega), gU_ne (by omega), up_ne (by omega)]
        exact st.2.2.1 q hq
  · exact (km _ _ (by omega)).trans (st.2.2.2.1.trans (kg _ (by omega)).symm)
  · exact (km _ _ (by omega)).trans (st.2.2.2.2.1.trans (kg _ (by omega)).symm)
  · exact (km _ _ (by omega)).trans (st.2.2.2.2.2.1.trans (kg _ (by omega)).symm)
  · exact fun k hk => by
      rw [kg 4 (by omega)] at hk
      exact ⟨(km _ _ (by omega)).trans ((st.2.2.2.2.2.2.1 k hk).1.trans (kg _ (by omega)).symm), (km _ _ (by omega)).trans ((st.2.2.2.2.2.2.1 k hk).2.trans (kg _ (by omega)).symm)⟩
  · exact (km _ _ (by omega)).trans (st.2.2.2.2.2.2.2.1.trans (kg _ (by omega)).symm)
  · exact fun k hk => by
      rw [kg 5 (by omega)] at hk
      exact ⟨(km _ _ (by omega)).trans ((st.2.2.2.2.2.2.2.2 k hk).1.trans (kg _ (by omega)).symm), (km _ _ (by omega)).trans ((st.2.2.2.2.2.2.2.2 k hk).2.1.trans (kg _ (by omega)).symm), (km _ _ (by omega)).trans ((st.2.2.2.2.2.2.2.2 k hk).2.2.trans (kg _ (by omega)).symm)⟩
