/-! bound, cost, factor, less. -/
/-- an empty shelf -/
theorem ofR_0 {a : Nat} {g : Nat → Int} {m : j_M0} (h : m a 0 = 0) (h6 : g 6 = 0) : ofR a g m := by
  refine ⟨by rw [h, h6], fun i j _ hj => ?_, fun i hi => ?_, fun i hi => ?_, fun i hi => ?_⟩
  · rw [h6] at hj; omega
  · rw [h6] at hi; omega
  · rw [h6] at hi; omega
  · rw [h6] at hi; omega
/-- fewer rules -/
theorem pkR_many {a : Nat} {g : Nat → Int} {m : j_M0} (w : pkR a g m) {v : Int} (hv : 0 ≤ v ∧ v ≤ g 1) : pkR a (gU g 1 v) (j_up m a 1 v) := by
  obtain ⟨w1, w2, w3, w4, w5, w6⟩ := w
  obtain ⟨a1, a2, a3, a4, a5, a6, a7⟩ := w1
  refine ⟨⟨?_, ?_, ?_, ?_, fun p hp => ?_, fun q hq => ?_, fun i hi => ?_⟩, ?_, ?_, fun p hp => ?_, fun q hq => ?_, fun q p hq hp => ?_⟩
  · rw [up_nj (by omega)]; exact a1
  · rw [up_nj (by omega)]; exact a2
  · rw [up_eq rfl]; exact hv.1
  · rw [up_eq rfl]; omega
  · rw [up_ne (by omega)]; exact a5 p hp
  · rw [up_ne (by omega), up_ne (by omega)]; exact a6 q hq
  · rw [up_ne (by omega)]; exact a7 i hi
  · rw [up_nj (by omega), gU_ne (by omega)]; exact w2
  · rw [up_eq rfl, gU_eq rfl]
  · rw [up_ne (by omega), gU_ne (by omega)]; exact w4 p hp
  · rw [gU_eq rfl] at hq
    rw [up_ne (by omega), up_ne (by omega), gU_ne (by omega), gU_ne (by omega)]
    exact w5 q (by omega)
  · rw [gU_eq rfl] at hq
    rw [gU_ne (by omega)] at hp
    rw [up_ne (by omega), gU_ne (by omega)]
    exact w6 q p (by omega) hp
theorem gX_bound {g : Nat → Int} (hg : gR g) (hx : gX g) {r : Nat} {v : Int} (hr : (r : Int) < g 1) (hv : -99 ≤ v ∧ v ≤ 999) : gX (gU g (13 + 7 * r) v) := by
  have kg : ∀ z : Nat, ¬ (z = 13 + 7 * r) → (gU g (13 + 7 * r) v) z = g z := fun z h => by
    simp (disch := omega) only [gU_ne]
  obtain ⟨x1, x2, x3, x4, x5, x6, x7, x8, x9, x10⟩ := hx
  have h0 := hg.1
  have h5 := hg.2.1
  have h8 := hg.2.2.2.1
  refine ⟨?_, ?_, ?_, ?_, ?_, ?_, ?_, ?_, ?_, ?_⟩
  · exact fun r hr => by
      rw [kg _ (by omega)]
      exact x1 r hr
  · exact by
      rw [kg 2 (by omega)]
      exact x2
  · exact by
      rw [kg 3 (by omega)]
      exact x3
  · exact by
      rw [kg 4 (by omega)]
      exact x4
  · exact fun k hk => by
      rw [kg 4 (by omega)] at hk
      rw [kg (76 + 2 * k) (by omega), kg (77 + 2 * k) (by omega), kg 0 (by omega)]
      exact x5 k hk
  · exact by
      rw [kg 5 (by omega)]
      exact x6
  · exact fun k hk => by
      rw [kg 5 (by omega)] at hk
      rw [kg (86 + 3 * k) (by omega), kg (87 + 3 * k) (by omega), kg (88 + 3 * k) (by omega)]
      exact x7 k hk
  · exact by
      rw [kg 6 (by omega)]
      exact x8
  · exact fun k hk => by
      rw [kg 6 (by omega)] at hk
      rw [kg (110 + 2 * k) (by omega), kg (111 + 2 * k) (by omega), kg 0 (by omega)]
      exact x9 k hk
  · exact fun i j hij hj => by
      rw [kg 6 (by omega)] at hj
      rw [kg (110 + 2 * i) (by omega), kg (110 + 2 * j) (by omega)]
      exact x10 i j hij hj
theorem stR_bound {g : Nat → Int} {m m' : j_M0} (hg : gR g) (hx : gX g) (st : stR 3 g m) {r : Nat} {v : Int} (hr : (r : Int) < g 1) (hv : -99 ≤ v ∧ v ≤ 999) (em : ∀ b z : Nat, 3 ≤ b → b ≤ 18 → m' b z = (j_up m 7 r v) b z) : stR 3 (gU g (13 + 7 * r) v) m' := by
  have kg : ∀ z : Nat, ¬ (z = 13 + 7 * r) → (gU g (13 + 7 * r) v) z = g z := fun z h => by
    simp (disch := omega) only [gU_ne]
  have km : ∀ b z : Nat, ¬ (b < 3 ∨ 18 < b ∨ b = 7) → m' b z = m b z := fun b z h => by
    rw [em b z (by omega) (by omega)]
    unfold j_up
    grind
  have h0 := hg.1
  have h5 := hg.2.1
  have h8 := hg.2.2.2.1
  have x4 := hx.2.2.2.1
  have x6 := hx.2.2.2.2.2.1
  have x8 := hx.2.2.2.2.2.2.2.1
  refine ⟨?_, ?_, ?_, ?_, ?_, ?_, ?_, ?_, ?_⟩
  · exact pkR_k (pkR_bound (a := 4) st.1 hr hv) (fun b z h h' => em b z (by omega) (by omega))
  · exact ofR_g (ofR_k st.2.1 (fun b z h h' => km _ _ (by omega))) (by omega) (fun z hz => kg _ (by omega))
  · exact fun r hr => (km _ _ (by omega)).trans ((st.2.2.1 r hr).trans (kg _ (by omega)).symm)
  · exact (km _ _ (by omega)).trans (st.2.2.2.1.trans (kg _ (by omega)).symm)
  · exact (km _ _ (by omega)).trans (st.2.2.2.2.1.trans (kg _ (by omega)).symm)
  · exact (km _ _ (by omega)).trans (st.2.2.2.2.2.1.trans (kg _ (by omega)).symm)
  · exact fun k hk => by
      rw [kg 4 (by omega)] at hk
      exact ⟨(km _ _ (by omega)).trans ((st.2.2.2.2.2.2.1 k hk).1.trans (kg _ (by omega)).symm), (km _ _ (by omega)).trans ((st.2.2.2.2.2.2.1 k hk).2.trans (kg _ (by omega)).symm)⟩
  · exact (km _ _ (by omega)).trans (st.2.2.2.2.2.2.2.1.trans (kg _ (by omega)).symm)
  · exact fun k hk => by
      rw [kg 5 (by omega)] at hk
      exact ⟨(km _ _ (by omega)).trans ((st.2.2.2.2.2.2.2.2 k hk).1.trans (kg _ (by omega)).symm), (km _ _ (by omega)).trans ((st.2.2.2.2.2.2.2.2 k hk).2.1.trans (kg _ (by omega)).symm), (km _ _ (by omega)).trans ((st.2.2.2.2.2.2.2.2 k hk).2.2.trans (kg _ (by omega)).symm)⟩
theorem gX_cost {g : Nat → Int} (hg : gR g) (hx : gX g) {c : Nat} {v : Int} (hc : c < 5) (hv : 0 ≤ v ∧ v ≤ 99) : gX (gU (gU g (7 + c) v) 6 0) := by
  have kg : ∀ z : Nat, ¬ (z = 7 + c ∨ z = 6) → (gU (gU g (7 + c) v) 6 0) z = g z := fun z h => by
    simp (disch := omega) only [gU_ne]
  obtain ⟨x1, x2, x3, x4, x5, x6, x7, x8, x9, x10⟩ := hx
  have h0 := hg.1
  have h5 := hg.2.1
  have h8 := hg.2.2.2.1
  refine ⟨?_, ?_, ?_, ?_, ?_, ?_, ?_, ?_, ?_, ?_⟩
  · exact fun r hr => by
      rw [kg _ (by omega)]
      exact x1 r hr
  · exact by
      rw [kg 2 (by omega)]
      exact x2
  · exact by
      rw [kg 3 (by omega)]
      exact x3
  · exact by
      rw [kg 4 (by omega)]
      exact x4
  · exact fun k hk => by
      rw [kg 4 (by omega)] at hk
      rw [kg (76 + 2 * k) (by omega), kg (77 + 2 * k) (by omega), kg 0 (by omega)]
      exact x5 k hk
  · exact by
      rw [kg 5 (by omega)]
      exact x6
  · exact fun k hk => by
      rw [kg 5 (by omega)] at hk
      rw [kg (86 + 3 * k) (by omega), kg (87 + 3 * k) (by omega), kg (88 + 3 * k) (by omega)]
      exact x7 k hk
  · exact by
      rw [gU_eq rfl]
      omega
  · exact fun k hk => by
      rw [gU_eq rfl] at hk
      omega
  · exact fun i j hij hj => by
      rw [gU_eq rfl] at hj
      omega
theorem stR_cost {g : Nat → Int} {m m' : j_M0} (hg : gR g) (hx : gX g) (st : stR 3 g m) {c : Nat} {v : Int} (hc : c < 5) (hv : 0 ≤ v ∧ v ≤ 99) (em : ∀ b z : Nat, 3 ≤ b → b ≤ 18 → m' b z = (j_up (j_up m 5 c v) 9 0 0) b z) : stR 3 (gU (gU g (7 + c) v) 6 0) m' := by
  have kg : ∀ z : Nat, ¬ (z = 7 + c ∨ z = 6) → (gU (gU g (7 + c) v) 6 0) z = g z := fun z h => by
    simp (disch := omega) only [gU_ne]
  have km : ∀ b z : Nat, ¬ (b < 3 ∨ 18 < b ∨ b = 5 ∨ b = 9) → m' b z = m b z := fun b z h => by
    rw [em b z (by omega) (by omega)]
    unfold j_up
    grind
  have h0 := hg.1
  have h5 := hg.2.1
  have h8 := hg.2.2.2.1
  have x4 := hx.2.2.2.1
  have x6 := hx.2.2.2.2.2.1
  have x8 := hx.2.2.2.2.2.2.2.1
  refine ⟨?_, ?_, ?_, ?_, ?_, ?_, ?_, ?_, ?_⟩
  · exact pkR_k (pkR_g (pkR_cost (a := 4) st.1 hc hv) (fun z hz => gU_ne (by omega)) (by rw [gU_ne (by omega)]; exact h8) (by rw [gU_ne (by omega)]; exact h5)) (fun b z h h' => (em b z (by omega) (by omega)).trans (up_ne (by omega)))
  · exact ofR_0 (by rw [em _ _ (by omega) (by omega), up_eq rfl]) (gU_eq rfl)
  · exact fun r hr => (km _ _ (by omega)).trans ((st.2.2.1 r hr).trans (kg _ (by omega)).symm)
  · exact (km _ _ (by omega)).trans (st.2.2.2.1.trans (kg _ (by omega)).symm)
  · exact (km _ _ (by omega)).trans (st.2.2.2.2.1.trans (kg _ (by omega)).symm)
  · exact (km _ _ (by omega)).trans (st.2.2.2.2.2.1.trans (kg _ (by omega)).symm)
  · exact fun k hk => by
      rw [kg 4 (by omega)] at hk
      exact ⟨(km _ _ (by omega)).trans ((st.2.2.2.2.2.2.1 k hk).1.trans (kg _ (by omega)).symm), (km _ _ (by omega)).trans ((st.2.2.2.2.2.2.1 k hk).2.trans (kg _ (by omega)).symm)⟩
  · exact (km _ _ (by omega)).trans (st.2.2.2.2.2.2.2.1.trans (kg _ (by omega)).symm)
  · exact fun k hk => by
      rw [kg 5 (by omega)] at hk
      exact ⟨(km _ _ (by omega)).trans ((st.2.2.2.2.2.2.2.2 k hk).1.trans (kg _ (by omega)).symm), (km _ _ (by omega)).trans ((st.2.2.2.2.2.2.2.2 k hk).2.1.trans (kg _ (by omega)).symm), (km _ _ (by omega)).trans ((st.2.2.2.2.2.2.2.2 k hk).2.2.trans (kg _ (by omega)).symm)⟩
theorem gX_fac {g : Nat → Int} (hg : gR g) (hx : gX g) {r c : Nat} {v : Int} (hr : (r : Int) < g 1) (hc : c < 5) (hv : -9 ≤ v ∧ v ≤ 9) : gX (gU g (14 + 7 * r + c) v) := by
  have kg : ∀ z : Nat, ¬ (z = 14 + 7 * r + c) → (gU g (14 + 7 * r + c) v) z = g z := fun z h => by
    simp (disch := omega) only [gU_ne]
  obtain ⟨x1, x2, x3, x4, x5, x6, x7, x8, x9, x10⟩ := hx
  have h0 := hg.1
  have h5 := hg.2.1
  have h8 := hg.2.2.2.1
  refine ⟨?_, ?_, ?_, ?_, ?_, ?_, ?_, ?_, ?_, ?_⟩
  · exact fun r hr => by
      rw [kg _ (by omega)]
      exact x1 r hr
  · exact by
      rw [kg 2 (by omega)]
      exact x2
  · exact by
      rw [kg 3 (by omega)]
      exact x3
  · exact by
      rw [kg 4 (by omega)]
      exact x4
  · exact fun k hk => by
      rw [kg 4 (by omega)] at hk
      rw [kg (76 + 2 * k) (by omega), kg (77 + 2 * k) (by omega), kg 0 (by omega)]
      exact x5 k hk
  · exact by
      rw [kg 5 (by omega)]
      exact x6
  · exact fun k hk => by
      rw [kg 5 (by omega)] at hk
      rw [kg (86 + 3 * k) (by omega), kg (87 + 3 * k) (by omega), kg (88 + 3 * k) (by omega)]
      exact x7 k hk
  · exact by
      rw [kg 6 (by omega)]
      exact x8
  · exact fun k hk => by
      rw [kg 6 (by omega)] at hk
      rw [kg (110 + 2 * k) (by omega), kg (111 + 2 * k) (by omega), kg 0 (by omega)]
      exact x9 k hk
  · exact fun i j hij hj => by
      rw [kg 6 (by omega)] at hj
      rw [kg (110 + 2 * i) (by omega), kg (110 + 2 * j) (by omega)]
      exact x10 i j hij hj
theorem stR_fac {g : Nat → Int} {m m' : j_M0} (hg : gR g) (hx : gX g) (st : stR 3 g m) {r c : Nat} {v : Int} (hr : (r : Int) < g 1) (hc : c < 5) (hv : -9 ≤ v ∧ v ≤ 9) (em : ∀ b z : Nat, 3 ≤ b → b ≤ 18 → m' b z = (j_up m 8 (5 * r + c) v) b z) : stR 3 (gU g (14 + 7 * r + c) v) m' := by
  have kg : ∀ z : Nat, ¬ (z = 14 + 7 * r + c) → (gU g (14 + 7 * r + c) v) z = g z := fun z h => by
    simp (disch := omega) only [gU_ne]
  have km : ∀ b z : Nat, ¬ (b < 3 ∨ 18 < b ∨ b = 8) → m' b z = m b z := fun b z h => by
    rw [em b z (by omega) (by omega)]
    unfold j_up
    grind
  have h0 := hg.1
  have h5 := hg.2.1
  have h8 := hg.2.2.2.1
  have x4 := hx.2.2.2.1
  have x6 := hx.2.2.2.2.2.1
  have x8 := hx.2.2.2.2.2.2.2.1
  refine ⟨?_, ?_, ?_, ?_, ?_, ?_, ?_, ?_, ?_⟩
  · exact pkR_k (pkR_fac (a := 4) st.1 hr hc hv) (fun b z h h' => em b z (by omega) (by omega))
  · exact ofR_g (ofR_k st.2.1 (fun b z h h' => km _ _ (by omega))) (by omega) (fun z hz => kg _ (by omega))
  · exact fun r hr => (km _ _ (by omega)).trans ((st.2.2.1 r hr).trans (kg _ (by omega)).symm)
  · exact (km _ _ (by omega)).trans (st.2.2.2.1.trans (kg _ (by omega)).symm)
  · exact (km _ _ (by omega)).trans (st.2.2.2.2.1.trans (kg _ (by omega)).symm)
  · exact (km _ _ (by omega)).trans (st.2.2.2.2.2.1.trans (kg _ (by omega)).symm)
  · exact fun k hk => by
      rw [kg 4 (by omega)] at hk
      exact ⟨(km _ _ (by omega)).trans ((st.2.2.2.2.2.2.1 k hk).1.trans (kg _ (by omega)).symm), (km _ _ (by omega)).trans ((st.2.2.2.2.2.2.1 k hk).2.trans (kg _ (by omega)).symm)⟩
  · exact (km _ _ (by omega)).trans (st.2.2.2.2.2.2.2.1.trans (kg _ (by omega)).symm)
  · exact fun k hk => by
      rw [kg 5 (by omega)] at hk
      exact ⟨(km _ _ (by omega)).trans ((st.2.2.2.2.2.2.2.2 k hk).1.trans (kg _ (by omega)).symm), (km _ _ (by omega)).trans ((st.2.2.2.2.2.2.2.2 k hk).2.1.trans (kg _ (by omega)).symm), (km _ _ (by omega)).trans ((st.2.2.2.2.2.2.2.2 k hk).2.2.trans (kg _ (by omega)).symm)⟩
theorem gX_less {g : Nat → Int} (hg : gR g) (hx : gX g) {r : Nat} (hr : g 1 = ((r + 1 : Nat) : Int)) : gX (gU (gU g 1 (r : Int)) (68 + r) 0) := by
  have kg : ∀ z : Nat, ¬ (z = 1 ∨ z = 68 + r) → (gU (gU g 1 (r : Int)) (68 + r) 0) z = g z := fun z h => by
    simp (disch := omega) only [gU_ne]
  obtain ⟨x1, x2, x3, x4, x5, x6, x7, x8, x9, x10⟩ := hx
  have h0 := hg.1
  have h5 := hg.2.1
  have h8 := hg.2.2.2.1
  refine ⟨?_, ?_, ?_, ?_, ?_, ?_, ?_, ?_, ?_, ?_⟩
  · exact fun q hq => by
      rw [show gU (gU g 1 (r : Int)) (68 + r) 0 (68 + q) = if 68 + q = 68 + r then 0 else gU g 1 (r : Int) (68 + q) from rfl]
      split
      · omega
      · rw [gU_ne (by omega)]; exact x1 q hq
  · exact by
      rw [kg 2 (by omega)]
      exact x2
  · exact by
      rw [kg 3 (by omega)]
      exact x3
  · exact by
      rw [kg 4 (by omega)]
      exact x4
  · exact fun k hk => by
      rw [kg 4 (by omega)] at hk
      rw [kg (76 + 2 * k) (by omega), kg (77 + 2 * k) (by omega), kg 0 (by omega)]
      exact x5 k hk
  · exact by
      rw [kg 5 (by omega)]
      exact x6
  · exact fun k hk => by
      rw [kg 5 (by omega)] at hk
      rw [kg (86 + 3 * k) (by omega), kg (87 + 3 * k) (by omega), kg (88 + 3 * k) (by omega)]
      exact x7 k hk
  · exact by
      rw [kg 6 (by omega)]
      exact x8
  · exact fun k hk => by
      rw [kg 6 (by omega)] at hk
      rw [kg (110 + 2 * k) (by omega), kg (111 + 2 * k) (by omega), kg 0 (by omega)]
      exact x9 k hk
  · exact fun i j hij hj => by
      rw [kg 6 (by omega)] at hj
      rw [kg (110 + 2 * i) (by omega), kg (110 + 2 * j) (by omega)]
      exact x10 i j hij hj
theorem stR_less {g : Nat → Int} {m m' : j_M0} (hg : gR g) (hx : gX g) (st : stR 3 g m) {r : Nat} (hr : g 1 = ((r + 1 : Nat) : Int)) (em : ∀ b z : Nat, 3 ≤ b → b ≤ 18 → m' b z = (j_up (j_up m 4 1 (r : Int)) 13 r 0) b z) : stR 3 (gU (gU g 1 (r : Int)) (68 + r) 0) m' := by
  have kg : ∀ z : Nat, ¬ (z = 1 ∨ z = 68 + r) → (gU (gU g 1 (r : Int)) (68 + r) 0) z = g z := fun z h => by
    simp (disch := omega) only [gU_ne]
  have km : ∀ b z : Nat, ¬ (b < 3 ∨ 18 < b ∨ (b = 4 ∧ z = 1) ∨ b = 13) → m' b z = m b z := fun b z h => by
    rw [em b z (by omega) (by omega)]
    unfold j_up
    grind
  have h0 := hg.1
  have h5 := hg.2.1
  have h8 := hg.2.2.2.1
  have x4 := hx.2.2.2.1
  have x6 := hx.2.2.2.2.2.1
  have x8 := hx.2.2.2.2.2.2.2.1
  refine ⟨?_, ?_, ?_, ?_, ?_, ?_, ?_, ?_, ?_⟩
  · exact pkR_k (pkR_g (pkR_many (a := 4) st.1 (v := (r : Int)) (by omega)) (fun z hz => gU_ne (by omega)) (by rw [gU_eq rfl]; omega) (by rw [gU_ne (by omega)]; exact h5)) (fun b z h h' => (em b z (by omega) (by omega)).trans (up_ne (by omega)))
  · exact ofR_g (ofR_k st.2.1 (fun b z h h' => km _ _ (by omega))) (by omega) (fun z hz => kg _ (by omega))
  · exact fun q hq => by
      rw [em _ _ (by omega) (by omega), up_at]
      by_cases e : q = r
      · subst e
        rw [if_pos rfl, gU_eq rfl]
      · rw [if_neg e, gU_ne (by omega), gU_ne (by omega), up_ne (by omega)]
        exact st.2.2.1 q hq
  · exact (km _ _ (by omega)).trans (st.2.2.2.1.trans (kg _ (by omega)).symm)
  · exact (km _ _ (by omega)).trans (st.2.2.2.2.1.trans (kg _ (by omega)).symm)
  · exact (km _ _ (by omega)).trans (st.2.2.2.2.2.1.trans (kg _ (by omega)).symm)
  · exact fun k hk => by
      rw [kg 4 (by omega)] at hk
      exact ⟨(km _ _ (by omega)).trans ((st.2.2.2.2.2.2.1 k hk).1.trans (kg _ (by omega)).symm), (km _ _ (by omega)).trans ((st.2.2.2.2.2.2.1 k hk).2.trans (kg _ (by omega)).symm)⟩
  · exact (km _ _ (by omega)).trans (st.2.2.2.2.2.2.2.1.trans (kg _ (by omega)).symm)
  · exact fun k hk => by
      rw [kg 5 (by omega)] at hk
      exact ⟨(km _ _ (by omega)).trans ((st.2.2.2.2.2.2.2.2 k hk).1.trans (kg _ (by omega)).symm), (km _ _ (by omega)).trans ((st.2.2.2.2.2.2.2.2 k hk).2.1.trans (kg _ (by omega)).symm), (km _ _ (by omega)).trans ((st.2.2.2.2.2.2.2.2 k hk).2.2.trans (kg _ (by omega)).symm)⟩
theorem PA92 {L : Nat} {xs : Nat → Int32} {m : j_M0} (w : Rel xs m) (x v : Int) : PA L xs 92 164 [jI x, jI v] m := by
  have n := Rel_n w
  have q1 := Rel_q136 (L := L) (d := 8) w x (m' := m) rfl
  by_cases g1 : 0 ≤ x ∧ x < m 110 1
  · by_cases g2 : -99 ≤ v ∧ v ≤ 999
    · obtain ⟨r, rfl⟩ : ∃ r : Nat, x = r := ⟨_, (Int.toNat_of_nonneg (by omega)).symm⟩
      have e1 : m 6 r = m 110 (12 + 7 * r) ∧ m 7 r = m 110 (13 + 7 * r) := w.2.2.2.1.1.2.2.2.2.1 r (by omega)
      have r1 := w.2.1.2.2.2.2.2.1 r (by omega)
      obtain ⟨m1, hm1⟩ : ∃ m1, m1 = j_up (j_up m 7 r v) 2 11 0 := ⟨_, rfl⟩
      have e110 : m1 110 = m 110 := by rw [hm1, e110_up (by decide), e110_up (by decide)]
      have i1 : w32 (w32 (12 + w32 (7 * (r : Int))) + 1) = 13 + 7 * (r : Int) := by
        rw [w32_id (x := 7 * (r : Int)) (by omega) (by omega), w32_id (x := 12 + 7 * (r : Int)) (by omega) (by omega), w32_id (by omega) (by omega)]
        omega
      have i2 : (13 + 7 * (r : Int)).toNat = 13 + 7 * r := by omega
      have q2 := Rel_q153 (L := L) (d := 7) w (r : Int) e110
      have q3 : c_call 9 155 [jR 109, jI r] (hH L m1) = some (some (jI (m 110 (13 + 7 * r))), hH L m1) := by
        rw [E155, T155_0, i1, if_pos (by omega), i2, e110]
      have e2 : (j_up (j_up m1 110 (13 + 7 * r) v) 115 18 0) 110 = gU (m 110) (13 + 7 * r) v := by rw [e110_up (by decide), up_g, e110]
      refine ⟨jI (m 110 (13 + 7 * r) + 1000), m1, j_up (j_up m1 110 (13 + 7 * r) v) 115 18 0, (E92 (d := 9)).trans ?_, (E164 (d := 9)).trans ?_, Rel_up w (kpt_tr (by rw [hm1]; exact kpt_tr (kpt_up (by unfold uPd; omega)) (kpt_up (by unfold uPd; omega))) (kpt_tr (kpt_up (by unfold uPd; omega)) (kpt_up (by unfold uPd; omega)))) (by rw [e2]; exact gR_bound w.2.1 (by omega) g2) (by rw [e2]; exact gX_bound w.2.1 w.2.2.1 g1.2 g2) (by rw [e2]; exact stR_bound w.2.1 w.2.2.1 w.2.2.2.1 g1.2 g2 (fun b z h h' => by rw [up_ne (by omega), up_ne (by omega), hm1, up_ne (by omega)])) (Or.inl ⟨?_, ?_⟩)⟩
      · rw [T92_0, q1]
        simp only [Option.bind_some, Option.toList_some, List.cons_append, List.nil_append]
        rw [bI_t g1, T92_5, if_neg (by decide), show c_call 9 139 _ (hH L m) = _ from Q139 (d := 8)]
        simp only [Option.bind_some, Option.toList_some, List.cons_append, List.nil_append]
        rw [bI_t g2, T92_14, if_neg (by decide), if_pos (by omega), if_pos (by omega), Int.toNat_natCast, e1.2, w32_id (by omega) (by omega), hm1]
      · rw [T164_0, q2]
        simp only [Option.bind_some, Option.toList_some, List.cons_append, List.nil_append]
        rw [bI_t g1, T164_5, if_neg (by decide), Q150]
        simp only [Option.bind_some, Option.toList_some, List.cons_append, List.nil_append]
        rw [bI_t g2, T164_21, if_neg (by decide), q3]
        simp only [Option.bind_some, Option.toList_some, List.cons_append, List.nil_append]
        rw [T164_32, i1, i2, if_pos (by omega), w32_id (by omega) (by omega), Int.add_comm]
      · rw [up_ne (by omega), up_ne (by omega), hm1, up_eq rfl]
      · rw [up_eq rfl]
    · refine PA_r w (v := jI (-2)) ((E92 (d := 9)).trans ?_) ((E164 (d := 9)).trans ?_)
      · rw [T92_0, q1]
        simp only [Option.bind_some, Option.toList_some, List.cons_append, List.nil_append]
        rw [bI_t g1, T92_5, if_neg (by decide), show c_call 9 139 _ (hH L m) = _ from Q139 (d := 8)]
        simp only [Option.bind_some, Option.toList_some, List.cons_append, List.nil_append]
        rw [bI_f g2, T92_14, if_pos rfl]
      · rw [T164_0, Rel_q153 w x rfl]
        simp only [Option.bind_some, Option.toList_some, List.cons_append, List.nil_append]
        rw [bI_t g1, T164_5, if_neg (by decide), Q150]
        simp only [Option.bind_some, Option.toList_some, List.cons_append, List.nil_append]
        rw [bI_f g2, T164_21, if_pos rfl]
  · refine PA_r w (v := jI (-1)) ((E92 (d := 9)).trans ?_) ((E164 (d := 9)).trans ?_)
    · rw [T92_0, q1]
      simp only [Option.bind_some, Option.toList_some, List.cons_append, List.nil_append]
      rw [bI_f g1, T92_5, if_pos rfl]
    · rw [T164_0, Rel_q153 w x rfl]
      simp only [Option.bind_some, Option.toList_some, List.cons_append, List.nil_append]
      rw [bI_f g1, T164_5, if_pos rfl]
theorem PA89 {L : Nat} {xs : Nat → Int32} {m : j_M0} (w : Rel xs m) (x v : Int) : PA L xs 89 160 [jI x, jI v] m := by
  have n := Rel_n w
  have q1 := Rel_q135 (L := L) (d := 8) w x (m' := m) rfl
  by_cases g1 : 0 ≤ x ∧ x < m 110 0
  · by_cases g2 : 0 ≤ v ∧ v ≤ 99
    · obtain ⟨c, rfl⟩ : ∃ r : Nat, x = r := ⟨_, (Int.toNat_of_nonneg (by omega)).symm⟩
      have e1 : m 5 c = m 110 (7 + c) := w.2.2.2.1.1.2.2.2.1 c (by omega)
      obtain ⟨m1, hm1⟩ : ∃ m1, m1 = j_up (j_up (j_up m 5 c v) 9 0 0) 2 11 0 := ⟨_, rfl⟩
      have e110 : m1 110 = m 110 := by rw [hm1, e110_up (by decide), e110_up (by decide), e110_up (by decide)]
      have i1 : w32 (7 + (c : Int)) = 7 + (c : Int) := w32_id (by omega) (by omega)
      have i2 : (7 + (c : Int)).toNat = 7 + c := by omega
      have e2 : (j_up (j_up (j_up m1 110 (7 + c) v) 110 6 0) 115 18 0) 110 = gU (gU (m 110) (7 + c) v) 6 0 := by rw [e110_up (by decide), up_g, up_g, e110]
      have q3 : c_call 9 22 [jR 9] (hH L (j_up m 5 c v)) = some (none, hH L (j_up (j_up m 5 c v) 9 0 0)) := by
        rw [E22, T22_0_9]
      refine ⟨jI (m 110 (7 + c)), m1, j_up (j_up (j_up m1 110 (7 + c) v) 110 6 0) 115 18 0, (E89 (d := 9)).trans ?_, (E160 (d := 9)).trans ?_, Rel_up w (kpt_tr (by rw [hm1]; exact kpt_tr (kpt_tr (kpt_up (by unfold uPd; omega)) (kpt_up (by unfold uPd; omega))) (kpt_up (by unfold uPd; omega))) (kpt_tr (kpt_tr (kpt_up (by unfold uPd; omega)) (kpt_up (by unfold uPd; omega))) (kpt_up (by unfold uPd; omega)))) (by rw [e2]; exact gR_far (gR_cost w.2.1 (by omega) g2) (by omega)) (by rw [e2]; exact gX_cost w.2.1 w.2.2.1 (by omega) g2) (by rw [e2]; exact stR_cost w.2.1 w.2.2.1 w.2.2.2.1 (by omega) g2 (fun b z h h' => by rw [up_ne (by omega), up_ne (by omega), up_ne (by omega), hm1, up_ne (by omega)])) (Or.inl ⟨?_, ?_⟩)⟩
      · rw [T89_0, q1]
        simp only [Option.bind_some, Option.toList_some, List.cons_append, List.nil_append]
        rw [bI_t g1, T89_5, if_neg (by decide), if_neg (by omega), if_neg (by omega), if_pos (by omega), if_pos (by omega), Int.toNat_natCast, q3]
        simp only [Option.bind_some, Option.toList_some, List.cons_append, List.nil_append, Option.toList_none]
        rw [T89_59, e1, hm1]
      · rw [T160_0, Rel_q152 w _ e110]
        simp only [Option.bind_some, Option.toList_some, List.cons_append, List.nil_append]
        rw [bI_t g1, T160_5, if_neg (by decide), Q150]
        simp only [Option.bind_some, Option.toList_some, List.cons_append, List.nil_append]
        rw [bI_t g2, T160_19, if_neg (by decide), i1, i2, if_pos (by omega), if_pos (by omega), e110]
      · rw [up_ne (by omega), up_ne (by omega), up_ne (by omega), hm1, up_eq rfl]
      · rw [up_eq rfl]
    · refine PA_r w (v := jI (-2)) ((E89 (d := 9)).trans ?_) ((E160 (d := 9)).trans ?_)
      · rw [T89_0, q1]
        simp only [Option.bind_some, Option.toList_some, List.cons_append, List.nil_append]
        rw [bI_t g1, T89_5, if_neg (by decide)]
        by_cases a : v < 0
        · rw [if_pos a]
        · rw [if_neg a, if_pos (by omega)]
      · rw [T160_0, Rel_q152 w x rfl]
        simp only [Option.bind_some, Option.toList_some, List.cons_append, List.nil_append]
        rw [bI_t g1, T160_5, if_neg (by decide), Q150]
        simp only [Option.bind_some, Option.toList_some, List.cons_append, List.nil_append]
        rw [bI_f g2, T160_19, if_pos rfl]
  · refine PA_r w (v := jI (-1)) ((E89 (d := 9)).trans ?_) ((E160 (d := 9)).trans ?_)
    · rw [T89_0, q1]
      simp only [Option.bind_some, Option.toList_some, List.cons_append, List.nil_append]
      rw [bI_f g1, T89_5, if_pos rfl]
    · rw [T160_0, Rel_q152 w x rfl]
      simp only [Option.bind_some, Option.toList_some, List.cons_append, List.nil_append]
      rw [bI_f g1, T160_5, if_pos rfl]
theorem PA91 {L : Nat} {xs : Nat → Int32} {m : j_M0} (w : Rel xs m) (x y v : Int) : PA L xs 91 163 [jI x, jI y, jI v] m := by
  have n := Rel_n w
  have q1 := Rel_q136 (L := L) (d := 8) w x (m' := m) rfl
  have q1' := Rel_q135 (L := L) (d := 8) w y (m' := m) rfl
  by_cases g1 : 0 ≤ x ∧ x < m 110 1
  · by_cases g1' : 0 ≤ y ∧ y < m 110 0
    · by_cases g2 : -9 ≤ v ∧ v ≤ 9
      · obtain ⟨r, rfl⟩ : ∃ r : Nat, x = r := ⟨_, (Int.toNat_of_nonneg (by omega)).symm⟩
        obtain ⟨c, rfl⟩ : ∃ r : Nat, y = r := ⟨_, (Int.toNat_of_nonneg (by omega)).symm⟩
        have e1 : m 8 (5 * r + c) = m 110 (14 + 7 * r + c) := w.2.2.2.1.1.2.2.2.2.2 r c (by omega) (by omega)
        have r1 := w.2.1.2.2.2.2.2.2 r c (by omega) (by omega)
        obtain ⟨m1, hm1⟩ : ∃ m1, m1 = j_up (j_up m 8 (5 * r + c) v) 2 11 0 := ⟨_, rfl⟩
        have e110 : m1 110 = m 110 := by rw [hm1, e110_up (by decide), e110_up (by decide)]
        have i1 : w32 (w32 (w32 (12 + w32 (7 * (r : Int))) + 2) + (c : Int)) = 14 + 7 * (r : Int) + (c : Int) := by
          rw [w32_id (x := 7 * (r : Int)) (by omega) (by omega), w32_id (x := 12 + 7 * (r : Int)) (by omega) (by omega), w32_id (x := 12 + 7 * (r : Int) + 2) (by omega) (by omega), w32_id (by omega) (by omega)]
          omega
        have i2 : (14 + 7 * (r : Int) + (c : Int)).toNat = 14 + 7 * r + c := by omega
        have q3 : c_call 9 156 [jR 109, jI r, jI c] (hH L m1) = some (some (jI (m 110 (14 + 7 * r + c))), hH L m1) := by
          rw [E156, T156_0, i1, if_pos (by omega), i2, e110]
        have e2 : (j_up (j_up m1 110 (14 + 7 * r + c) v) 115 18 0) 110 = gU (m 110) (14 + 7 * r + c) v := by rw [e110_up (by decide), up_g, e110]
        refine ⟨jI (m 110 (14 + 7 * r + c) + 100), m1, j_up (j_up m1 110 (14 + 7 * r + c) v) 115 18 0, (E91 (d := 9)).trans ?_, (E163 (d := 9)).trans ?_, Rel_up w (kpt_tr (by rw [hm1]; exact kpt_tr (kpt_up (by unfold uPd; omega)) (kpt_up (by unfold uPd; omega))) (kpt_tr (kpt_up (by unfold uPd; omega)) (kpt_up (by unfold uPd; omega)))) (by rw [e2]; exact gR_fac w.2.1 (by omega) (by omega) g2) (by rw [e2]; exact gX_fac w.2.1 w.2.2.1 g1.2 (by omega) g2) (by rw [e2]; exact stR_fac w.2.1 w.2.2.1 w.2.2.2.1 g1.2 (by omega) g2 (fun b z h h' => by rw [up_ne (by omega), up_ne (by omega), hm1, up_ne (by omega)])) (Or.inl ⟨?_, ?_⟩)⟩
        · rw [T91_0, q1]
          simp only [Option.bind_some, Option.toList_some, List.cons_append, List.nil_append]
          rw [bI_t g1, T91_5, if_neg (by decide), q1']
          simp only [Option.bind_some, Option.toList_some, List.cons_append, List.nil_append]
          rw [bI_t g1', T91_13, if_neg (by decide), show c_call 9 140 _ (hH L m) = _ from Q140 (d := 8)]
          simp only [Option.bind_some, Option.toList_some, List.cons_append, List.nil_append]
          rw [bI_t g2, T91_22, if_neg (by decide), Q11_4 (d := 8) (by omega) (by omega) (by omega) (by omega), Int.toNat_natCast, Int.toNat_natCast, e1]
          simp only [Option.bind_some, Option.toList_some, List.cons_append, List.nil_append]
          rw [T91_40, Q12_4 (d := 8) (by omega) (by omega) (by omega) (by omega), Int.toNat_natCast, Int.toNat_natCast]
          simp only [Option.bind_some, Option.toList_some, List.cons_append, List.nil_append, Option.toList_none]
          rw [T91_55, w32_id (by omega) (by omega), hm1]
        · rw [T163_0, Rel_q153 w _ e110]
          simp only [Option.bind_some, Option.toList_some, List.cons_append, List.nil_append]
          rw [bI_t g1, T163_5, if_neg (by decide), Rel_q152 w _ e110]
          simp only [Option.bind_some, Option.toList_some, List.cons_append, List.nil_append]
          rw [bI_t g1', T163_13, if_neg (by decide), Q150]
          simp only [Option.bind_some, Option.toList_some, List.cons_append, List.nil_append]
          rw [bI_t g2, T163_29, if_neg (by decide), q3]
          simp only [Option.bind_some, Option.toList_some, List.cons_append, List.nil_append]
          rw [T163_41, i1, i2, if_pos (by omega), w32_id (by omega) (by omega), Int.add_comm]
        · rw [up_ne (by omega), up_ne (by omega), hm1, up_eq rfl]
        · rw [up_eq rfl]
      · refine PA_r w (v := jI (-2)) ((E91 (d := 9)).trans ?_) ((E163 (d := 9)).trans ?_)
        · rw [T91_0, q1]
          simp only [Option.bind_some, Option.toList_some, List.cons_append, List.nil_append]
          rw [bI_t g1, T91_5, if_neg (by decide), q1']
          simp only [Option.bind_some, Option.toList_some, List.cons_append, List.nil_append]
          rw [bI_t g1', T91_13, if_neg (by decide), show c_call 9 140 _ (hH L m) = _ from Q140 (d := 8)]
          simp only [Option.bind_some, Option.toList_some, List.cons_append, List.nil_append]
          rw [bI_f g2, T91_22, if_pos rfl]
        · rw [T163_0, Rel_q153 w _ rfl]
          simp only [Option.bind_some, Option.toList_some, List.cons_append, List.nil_append]
          rw [bI_t g1, T163_5, if_neg (by decide), Rel_q152 w _ rfl]
          simp only [Option.bind_some, Option.toList_some, List.cons_append, List.nil_append]
          rw [bI_t g1', T163_13, if_neg (by decide), Q150]
          simp only [Option.bind_some, Option.toList_some, List.cons_append, List.nil_append]
          rw [bI_f g2, T163_29, if_pos rfl]
    · refine PA_r w (v := jI (-1)) ((E91 (d := 9)).trans ?_) ((E163 (d := 9)).trans ?_)
      · rw [T91_0, q1]
        simp only [Option.bind_some, Option.toList_some, List.cons_append, List.nil_append]
        rw [bI_t g1, T91_5, if_neg (by decide), q1']
        simp only [Option.bind_some, Option.toList_some, List.cons_append, List.nil_append]
        rw [bI_f g1', T91_13, if_pos rfl]
      · rw [T163_0, Rel_q153 w _ rfl]
        simp only [Option.bind_some, Option.toList_some, List.cons_append, List.nil_append]
        rw [bI_t g1, T163_5, if_neg (by decide), Rel_q152 w _ rfl]
        simp only [Option.bind_some, Option.toList_some, List.cons_append, List.nil_append]
        rw [bI_f g1', T163_13, if_pos rfl]
  · refine PA_r w (v := jI (-1)) ((E91 (d := 9)).trans ?_) ((E163 (d := 9)).trans ?_)
    · rw [T91_0, q1]
      simp only [Option.bind_some, Option.toList_some, List.cons_append, List.nil_append]
      rw [bI_f g1, T91_5, if_pos rfl]
    · rw [T163_0, Rel_q153 w _ rfl]
      simp only [Option.bind_some, Option.toList_some, List.cons_append, List.nil_append]
      rw [bI_f g1, T163_5, if_pos rfl]
theorem PA93 {L : Nat} {xs : Nat → Int32} {m : j_M0} (w : Rel xs m) : PA L xs 93 165 [] m := by
  have n := Rel_n w
  by_cases g1 : m 110 1 = 0
  · refine PA_r w (v := jI (-3)) ((E93 (d := 9)).trans ?_) ((E165 (d := 9)).trans ?_)
    · rw [T93_0, if_neg (by omega)]
    · rw [T165_0, if_pos g1]
  · obtain ⟨r, hr⟩ : ∃ r : Nat, m 110 1 = ((r + 1 : Nat) : Int) := ⟨(m 110 1).toNat - 1, by omega⟩
    obtain ⟨m1, hm1⟩ : ∃ m1, m1 = j_up (j_up (j_up m 4 1 (r : Int)) 13 r 0) 2 11 0 := ⟨_, rfl⟩
    have e110 : m1 110 = m 110 := by rw [hm1, e110_up (by decide), e110_up (by decide), e110_up (by decide)]
    have e2 : (j_up (j_up (j_up m1 110 1 (r : Int)) 110 (68 + r) 0) 115 18 0) 110 = gU (gU (m 110) 1 (r : Int)) (68 + r) 0 := by rw [e110_up (by decide), up_g, up_g, e110]
    have i0 : w32 (((r + 1 : Nat) : Int) - 1) = (r : Int) := by rw [w32_id (by omega) (by omega)]; omega
    refine ⟨jI (r : Int), m1, j_up (j_up (j_up m1 110 1 (r : Int)) 110 (68 + r) 0) 115 18 0, (E93 (d := 9)).trans ?_, (E165 (d := 9)).trans ?_, Rel_up w (kpt_tr (by rw [hm1]; exact kpt_tr (kpt_tr (kpt_up (by unfold uPd; omega)) (kpt_up (by unfold uPd; omega))) (kpt_up (by unfold uPd; omega))) (kpt_tr (kpt_tr (kpt_up (by unfold uPd; omega)) (kpt_up (by unfold uPd; omega))) (kpt_up (by unfold uPd; omega)))) (by rw [e2]; exact gR_far (gR_many w.2.1 (by omega)) (by omega)) (by rw [e2]; exact gX_less w.2.1 w.2.2.1 hr) (by rw [e2]; exact stR_less w.2.1 w.2.2.1 w.2.2.2.1 hr (fun b z h h' => by rw [up_ne (by omega), up_ne (by omega), up_ne (by omega), hm1, up_ne (by omega)])) (Or.inl ⟨?_, ?_⟩)⟩
    · rw [T93_0, n.2.2.2.2.2, hr, i0, up_eq rfl, Int.toNat_natCast, if_pos (by omega), if_pos (by omega), up_ne (show 4 ≠ 2 by omega), up_ne (show 4 ≠ 13 by omega), up_eq rfl, hm1]
    · rw [T165_0, e110, hr, i0, if_neg (by omega), up_eq rfl, w32_id (x := 68 + (r : Int)) (by omega) (by omega), show (68 + (r : Int)).toNat = 68 + r by omega, if_pos (by omega), up_ne (show 110 ≠ 115 by omega), up_nj (show 1 ≠ 68 + r by omega), up_eq rfl]
    · rw [up_ne (by omega), up_ne (by omega), up_ne (by omega), hm1, up_eq rfl]
    · rw [up_eq rfl]
