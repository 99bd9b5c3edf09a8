/-! Class and model, tied. -/
/-- the packs' part of the model's row, in range -/
def gR (g : Nat → Int) : Prop := 1 ≤ g 0 ∧ g 0 ≤ 5 ∧ 0 ≤ g 1 ∧ g 1 ≤ 8 ∧ (∀ p : Nat, p < 5 → 0 ≤ g (7 + p) ∧ g (7 + p) ≤ 99) ∧ (∀ r : Nat, r < 8 → (g (12 + 7 * r) = 0 ∨ g (12 + 7 * r) = 1) ∧ -99 ≤ g (13 + 7 * r) ∧ g (13 + 7 * r) ≤ 999) ∧ (∀ r p : Nat, r < 8 → p < 5 → -9 ≤ g (14 + 7 * r + p) ∧ g (14 + 7 * r + p) ≤ 9)
theorem gR_kG {m : j_M0} (h : gR (m 110)) : kG m := h
def pkG (g : Nat → Int) : PK := (((g 0).toNat, (g 1).toNat), (fun p => g (7 + p)), (fun r p => if g (12 + 7 * r) = 0 then -(g (14 + 7 * r + p)) else g (14 + 7 * r + p)), (fun r => if g (12 + 7 * r) = 0 then -(g (13 + 7 * r)) else g (13 + 7 * r)))
theorem vG_of {m : j_M0} (h : gR (m 110)) : vG (pkG (m 110)) m := by
  have h1 := h.1
  have h3 := h.2.2.1
  refine ⟨h, ?_, ?_, fun p _ => rfl, fun r p _ _ => rfl, fun r _ => rfl⟩
  · show m 110 0 = ((m 110 0).toNat : Int)
    omega
  · show m 110 1 = ((m 110 1).toNat : Int)
    omega
/-- the class's packs at a are the row's -/
def pkR (a : Nat) (g : Nat → Int) (m : j_M0) : Prop := kP a m ∧ m a 0 = g 0 ∧ m a 1 = g 1 ∧ (∀ p : Nat, p < 5 → m (a + 1) p = g (7 + p)) ∧ (∀ r : Nat, (r : Int) < g 1 → m (a + 2) r = g (12 + 7 * r) ∧ m (a + 3) r = g (13 + 7 * r)) ∧ (∀ r p : Nat, (r : Int) < g 1 → (p : Int) < g 0 → m (a + 4) (5 * r + p) = g (14 + 7 * r + p))
theorem vP_of {a : Nat} {g : Nat → Int} {m : j_M0} (h : gR g) (w : pkR a g m) : vP a (pkG g) m := by
  obtain ⟨w1, w2, w3, w4, w5, w6⟩ := w
  obtain ⟨h1, h2, h3, h4, -⟩ := h
  refine ⟨w1, ?_, ?_, fun p hp => w4 p ?_, fun r p hr hp => ?_, fun r hr => ?_⟩
  · show m a 0 = ((g 0).toNat : Int)
    omega
  · show m a 1 = ((g 1).toNat : Int)
    omega
  · replace hp : p < (g 0).toNat := hp
    omega
  · replace hp : p < (g 0).toNat := hp
    replace hr : r < (g 1).toNat := hr
    show ptC a m r p = if g (12 + 7 * r) = 0 then -(g (14 + 7 * r + p)) else g (14 + 7 * r + p)
    unfold ptC
    rw [(w5 r (by omega)).1, w6 r p (by omega) (by omega)]
  · replace hr : r < (g 1).toNat := hr
    show liC a m r = if g (12 + 7 * r) = 0 then -(g (13 + 7 * r)) else g (13 + 7 * r)
    unfold liC
    rw [(w5 r (by omega)).1, (w5 r (by omega)).2]
theorem pkR_k {a : Nat} {g : Nat → Int} {m m' : j_M0} (w : pkR a g m) (k : ∀ b z, a ≤ b → b ≤ a + 4 → m' b z = m b z) : pkR a g m' := by
  obtain ⟨w1, w2, w3, w4, w5, w6⟩ := w
  refine ⟨kP_k w1 k, (k _ _ (by omega) (by omega)).trans w2, (k _ _ (by omega) (by omega)).trans w3, fun p hp => (k _ _ (by omega) (by omega)).trans (w4 p hp), fun r hr => ⟨(k _ _ (by omega) (by omega)).trans (w5 r hr).1, (k _ _ (by omega) (by omega)).trans (w5 r hr).2⟩, fun r p hr hp => (k _ _ (by omega) (by omega)).trans (w6 r p hr hp)⟩
theorem pkR_g {a : Nat} {g g' : Nat → Int} {m : j_M0} (w : pkR a g m) (k : ∀ z, z < 2 ∨ (7 ≤ z ∧ z < 68) → g' z = g z) (h : g 1 ≤ 8) (h0 : g 0 ≤ 5) : pkR a g' m := by
  obtain ⟨w1, w2, w3, w4, w5, w6⟩ := w
  have k1 := k 1 (by omega)
  have k0 := k 0 (by omega)
  refine ⟨w1, w2.trans (k 0 (by omega)).symm, w3.trans k1.symm, fun p hp => (w4 p hp).trans (k _ (by omega)).symm, fun r hr => ⟨(w5 r (by omega)).1.trans (k _ (by omega)).symm, (w5 r (by omega)).2.trans (k _ (by omega)).symm⟩, fun r p hr hp => (w6 r p (by omega) (by omega)).trans (k _ (by omega)).symm⟩
/-! codes -/
def tenF : Nat → Int
  | 0 => 1
  | k + 1 => 10 * tenF k
/-- the digit of pack p of n -/
def digF (n p : Nat) (x : Int) : Int := x / tenF (n - 1 - p) % 10
def cosS (g : Nat → Int) (n : Nat) (x : Int) : Nat → Int
  | 0 => 0
  | p + 1 => cosS g n x p + digF n p x * g (7 + p)
def cosF (g : Nat → Int) (x : Int) : Int := cosS g (g 0).toNat x (g 0).toNat
theorem cosS_g {g g' : Nat → Int} {n : Nat} {x : Int} : ∀ p : Nat, (∀ z, z < p → g' (7 + z) = g (7 + z)) → cosS g' n x p = cosS g n x p := by
  intro p
  induction p with
  | zero => intro _; rfl
  | succ p ih =>
    intro k
    unfold cosS
    rw [ih (fun z hz => k z (by omega)), k p (by omega)]
theorem cosF_g {g g' : Nat → Int} {x : Int} (h0 : g 0 ≤ 5) (k : ∀ z, z = 0 ∨ (7 ≤ z ∧ z < 12) → g' z = g z) : cosF g' x = cosF g x := by
  unfold cosF
  rw [k 0 (by omega)]
  exact cosS_g _ (fun z hz => k _ (by omega))
/-- the order of mixes: by cost, then by code -/
def lsO (c k c' k' : Int) : Prop := c < c' ∨ (c = c' ∧ k < k')
def ofR (a : Nat) (g : Nat → Int) (m : j_M0) : Prop := m a 0 = g 6 ∧ (∀ i j : Nat, i < j → (j : Int) < g 6 → lsO (m (a + 2) i) (m (a + 1) i) (m (a + 2) j) (m (a + 1) j)) ∧ (∀ i : Nat, (i : Int) < g 6 → m (a + 2) i = cosF g (m (a + 1) i)) ∧ (∀ i : Nat, (i : Int) < g 6 → ∃ k : Nat, (k : Int) < g 6 ∧ g (110 + 2 * k) = m (a + 1) i ∧ g (111 + 2 * k) = m (a + 3) i) ∧ (∀ k : Nat, (k : Int) < g 6 → ∃ i : Nat, (i : Int) < g 6 ∧ m (a + 1) i = g (110 + 2 * k) ∧ m (a + 3) i = g (111 + 2 * k))
theorem ofR_k {a : Nat} {g : Nat → Int} {m m' : j_M0} (w : ofR a g m) (k : ∀ b z, a ≤ b → b ≤ a + 3 → m' b z = m b z) : ofR a g m' := by
  unfold ofR at w ⊢
  simp (disch := omega) only [k]
  exact w
theorem ofR_g {a : Nat} {g g' : Nat → Int} {m : j_M0} (w : ofR a g m) (h0 : g 0 ≤ 5) (k : ∀ z, z = 0 ∨ (6 ≤ z ∧ z < 12) ∨ 110 ≤ z → g' z = g z) : ofR a g' m := by
  have e : ∀ x, cosF g' x = cosF g x := fun x => cosF_g h0 (fun z hz => k z (by omega))
  unfold ofR at w ⊢
  simp (disch := omega) only [k, e]
  exact w
/-- what else the model's row holds, in range -/
def gX (g : Nat → Int) : Prop := (∀ r : Nat, r < 8 → 0 ≤ g (68 + r) ∧ g (68 + r) ≤ 9) ∧ (1 ≤ g 2 ∧ g 2 ≤ 10) ∧ (0 ≤ g 3 ∧ g 3 ≤ 6) ∧ (0 ≤ g 4 ∧ g 4 ≤ 5) ∧ (∀ k : Nat, (k : Int) < g 4 → (0 ≤ g (76 + 2 * k) ∧ g (76 + 2 * k) < g 0) ∧ 0 ≤ g (77 + 2 * k) ∧ g (77 + 2 * k) ≤ 999) ∧ (0 ≤ g 5 ∧ g 5 ≤ 8) ∧ (∀ k : Nat, (k : Int) < g 5 → (0 ≤ g (86 + 3 * k) ∧ g (86 + 3 * k) ≤ 2) ∧ (0 ≤ g (87 + 3 * k) ∧ g (87 + 3 * k) < 8) ∧ plN (g (86 + 3 * k)) (g (88 + 3 * k)) = 1) ∧ (0 ≤ g 6 ∧ g 6 ≤ 20) ∧ (∀ k : Nat, (k : Int) < g 6 → (0 ≤ g (110 + 2 * k) ∧ g (110 + 2 * k) < tenF (g 0).toNat) ∧ 0 ≤ g (111 + 2 * k) ∧ g (111 + 2 * k) ≤ 999) ∧ (∀ i j : Nat, i < j → (j : Int) < g 6 → g (110 + 2 * i) ≠ g (110 + 2 * j))
/-- the class's state at a is the row -/
def stR (a : Nat) (g : Nat → Int) (m : j_M0) : Prop := pkR (a + 1) g m ∧ ofR (a + 6) g m ∧ (∀ r : Nat, r < 8 → m (a + 10) r = g (68 + r)) ∧ m a 3 = g 2 ∧ m a 4 = g 3 ∧ m a 5 = g 4 ∧ (∀ k : Nat, (k : Int) < g 4 → m (a + 11) k = g (76 + 2 * k) ∧ m (a + 12) k = g (77 + 2 * k)) ∧ m a 8 = g 5 ∧ (∀ k : Nat, (k : Int) < g 5 → m (a + 13) k = g (86 + 3 * k) ∧ m (a + 14) k = g (87 + 3 * k) ∧ m (a + 15) k = g (88 + 3 * k))
theorem stR_k {a : Nat} {g : Nat → Int} {m m' : j_M0} (w : stR a g m) (k : ∀ b z, a ≤ b → b ≤ a + 15 → m' b z = m b z) : stR a g m' := by
  obtain ⟨w1, w2, w3⟩ := w
  refine ⟨pkR_k w1 (fun b z h h' => k _ _ (by omega) (by omega)), ofR_k w2 (fun b z h h' => k _ _ (by omega) (by omega)), ?_⟩
  simp (disch := omega) only [k]
  exact w3
/-- the image -/
def imR (m : j_M0) : Prop := (m 2 12 = 0 ∧ m 109 3 = 0) ∨ (m 2 12 = 1 ∧ m 109 3 = 1 ∧ gR (m 111) ∧ gX (m 111) ∧ stR 19 (m 111) m)
theorem imR_k {m m' : j_M0} (w : imR m) (k : ∀ b z, (b = 2 ∧ z = 12) ∨ (b = 109 ∧ z = 3) ∨ (19 ≤ b ∧ b ≤ 34) ∨ b = 111 → m' b z = m b z) : imR m' := by
  have e : m' 111 = m 111 := funext (fun z => k _ _ (by omega))
  unfold imR at w ⊢
  rw [k 2 12 (by omega), k 109 3 (by omega), e]
  rcases w with w | ⟨w1, w2, w3, w4, w5⟩
  · exact Or.inl w
  · exact Or.inr ⟨w1, w2, w3, w4, stR_k w5 (fun b z h h' => k _ _ (by omega))⟩
/-- THE TABLE -/
def tsR (n : Nat) (s : Int) (T : TB) (U : CU) : Prop := tOK T ∧ tC T = n ∧ cOK n U ∧ (s = 1 → partF T < 0 ∧ ∀ i : Nat, i < tR T → 0 ≤ tri T i)
def taX (m : j_M0) (s : Int) (T : TB) (U : CU) : Prop := tsR (m 110 0).toNat s T U ∧ vC 41 T m ∧ vM 115 T m ∧ uC 50 (m 110 0).toNat U m ∧ uM 115 (m 110 0).toNat U m ∧ m 40 2 = s ∧ m 115 19 = (if s = 1 then 1 else 0)
def taR (m : j_M0) : Prop := (m 2 11 = 0 ∧ m 115 18 = 0) ∨ (m 2 11 = 1 ∧ m 115 18 = 1 ∧ ∃ s T U, taX m s T U)
theorem taX_k {m m' : j_M0} {s : Int} {T : TB} {U : CU} (w : taX m s T U) (h5 : m 110 0 ≤ 5) (k : ∀ b z, (b = 40 ∧ z = 2) ∨ (41 ≤ b ∧ b ≤ 46) ∨ (50 ≤ b ∧ b ≤ 53) ∨ (b = 110 ∧ z = 0) ∨ (b = 115 ∧ 12 ≤ z ∧ z ≤ 19) ∨ (116 ≤ b ∧ b ≤ 118) ∨ (122 ≤ b ∧ b ≤ 127) → m' b z = m b z) : taX m' s T U := by
  unfold taX at w ⊢
  rw [k 110 0 (by omega), k 40 2 (by omega), k 115 19 (by omega)]
  obtain ⟨w1, w2, w3, w4, w5, w6⟩ := w
  exact ⟨w1, vC_k w2 (fun b z h h' => k _ _ (by omega)), vM_j w3 (fun b z h h' => k _ _ (by omega)), uC_j w4 (by omega) (fun b z h h' => k _ _ (by omega)), uM_j w5 (by omega) (fun b z h => k _ _ (by omega)), w6⟩
theorem taR_k {m m' : j_M0} (w : taR m) (h5 : m 110 0 ≤ 5) (k : ∀ b z, (b = 2 ∧ z = 11) ∨ (b = 40 ∧ z = 2) ∨ (41 ≤ b ∧ b ≤ 46) ∨ (50 ≤ b ∧ b ≤ 53) ∨ (b = 110 ∧ z = 0) ∨ (b = 115 ∧ 12 ≤ z ∧ z ≤ 19) ∨ (116 ≤ b ∧ b ≤ 118) ∨ (122 ≤ b ∧ b ≤ 127) → m' b z = m b z) : taR m' := by
  unfold taR at w ⊢
  rw [k 2 11 (by omega), k 115 18 (by omega)]
  rcases w with w | ⟨w1, w2, s, T, U, w3⟩
  · exact Or.inl w
  · exact Or.inr ⟨w1, w2, s, T, U, taX_k w3 h5 (fun b z h => k b z (by omega))⟩
/-- THE TEXT -/
def teR (m : j_M0) : Prop := m 93 0 = m 109 6 ∧ 0 ≤ m 93 0 ∧ m 93 0 ≤ 80 ∧ (∀ i : Nat, (i : Int) < m 93 0 → m 94 i = m 113 i ∧ 0 ≤ m 94 i ∧ m 94 i ≤ 127)
theorem teR_k {m m' : j_M0} (w : teR m) (k : ∀ b z, (b = 93 ∧ z = 0) ∨ b = 94 ∨ (b = 109 ∧ z = 6) ∨ b = 113 → m' b z = m b z) : teR m' := by
  unfold teR at w ⊢
  simp (disch := omega) only [k]
  exact w
/-- what an item of a sort may be -/
def itR (s v : Int) : Prop := (s = 2 → -2147483648 ≤ v ∧ v ≤ 2147483647) ∧ -9223372036854775808 ≤ v ∧ v ≤ 9223372036854775807
/-- the tapes -/
def tpR (m : j_M0) : Prop := (∀ t : Nat, t < 6 → m 99 t = m 151 t ∧ m 100 t = m 152 t ∧ -1 ≤ m 99 t ∧ m 99 t ≤ 4 ∧ 0 ≤ m 100 t ∧ m 100 t ≤ 60 ∧ (m 99 t = -1 → m 100 t = 0)) ∧ (∀ t i : Nat, t < 6 → (i : Int) < m 100 t → m (102 + t) i = m 153 (60 * t + i) ∧ itR (m 99 t) (m 153 (60 * t + i)))
theorem tpR_k {m m' : j_M0} (w : tpR m) (k : ∀ b z, b = 99 ∨ b = 100 ∨ (102 ≤ b ∧ b ≤ 107) ∨ (151 ≤ b ∧ b ≤ 153) → m' b z = m b z) : tpR m' := by
  unfold tpR at w ⊢
  refine ⟨fun t ht => ?_, fun t i ht hi => ?_⟩
  · rw [k 99 t (by omega), k 100 t (by omega), k 151 t (by omega), k 152 t (by omega)]
    exact w.1 t ht
  · rw [k 100 t (by omega)] at hi
    rw [k 99 t (by omega), k (102 + t) i (by omega), k 153 _ (by omega)]
    exact w.2 t i ht hi
/-- what stays: the script, TENS -/
def baR (xs : Nat → Int32) (m : j_M0) : Prop := (∀ i : Nat, m 0 i = (xs i).toInt) ∧ (∀ i : Nat, i < 6 → m 1 i = tenF i)
theorem baR_k {xs : Nat → Int32} {m m' : j_M0} (w : baR xs m) (k : ∀ b z, b ≤ 1 → m' b z = m b z) : baR xs m' := by
  unfold baR at w ⊢
  simp (disch := omega) only [k]
  exact w
/-- class and model tell the same -/
def Rel (xs : Nat → Int32) (m : j_M0) : Prop := baR xs m ∧ gR (m 110) ∧ gX (m 110) ∧ stR 3 (m 110) m ∧ imR m ∧ taR m ∧ teR m ∧ tpR m
/-- what is thought only -/
def sc (b z : Nat) : Prop := (35 ≤ b ∧ b ≤ 39) ∨ (47 ≤ b ∧ b ≤ 49) ∨ (54 ≤ b ∧ b ≤ 92) ∨ (b = 93 ∧ z ≠ 0) ∨ (95 ≤ b ∧ b ≤ 97) ∨ b = 108 ∨ (b = 109 ∧ z ≠ 3 ∧ z ≠ 6) ∨ b = 112 ∨ b = 114 ∨ (119 ≤ b ∧ b ≤ 121) ∨ (128 ≤ b ∧ b ≤ 150) ∨ b = 154 ∨ (155 ≤ b ∧ b ≤ 159)
theorem Rel_k {xs : Nat → Int32} {m m' : j_M0} (w : Rel xs m) (k : kpt sc m m') : Rel xs m' := by
  have q : ∀ b z, ¬ sc b z → m' b z = m b z := fun b z h => kpt_at k h
  unfold sc at q
  have e : m' 110 = m 110 := funext (fun z => q _ _ (by omega))
  obtain ⟨w1, w2, w3, w4, w5, w6, w7, w8⟩ := w
  refine ⟨baR_k w1 (fun b z h => q _ _ (by omega)), by rw [e]; exact w2, by rw [e]; exact w3, by rw [e]; exact stR_k w4 (fun b z h h' => q _ _ (by omega)), imR_k w5 (fun b z h => q _ _ (by omega)), taR_k w6 w2.2.1 (fun b z h => q _ _ (by omega)), teR_k w7 (fun b z h => q _ _ (by omega)), tpR_k w8 (fun b z h => q _ _ (by omega))⟩
theorem Rel_vP {xs : Nat → Int32} {m : j_M0} (w : Rel xs m) : vP 4 (pkG (m 110)) m := vP_of w.2.1 w.2.2.2.1.1
theorem Rel_vG {xs : Nat → Int32} {m : j_M0} (w : Rel xs m) : vG (pkG (m 110)) m := vG_of w.2.1
/-- a pair of calls answers alike, and keeps the relation -/
def PA (L : Nat) (xs : Nat → Int32) (y u : Nat) (as : List j_V) (m : j_M0) : Prop := ∃ (v : j_V) (m1 m2 : j_M0), c_call 10 y (jR 2 :: as) (hH L m) = some (some v, hH L m1) ∧ c_call 10 u (jR 109 :: as) (hH L m1) = some (some v, hH L m2) ∧ Rel xs m2
theorem PA_r {L : Nat} {xs : Nat → Int32} {y u : Nat} {as : List j_V} {m : j_M0} (w : Rel xs m) {v : j_V} (h1 : c_call 10 y (jR 2 :: as) (hH L m) = some (some v, hH L m)) (h2 : c_call 10 u (jR 109 :: as) (hH L m) = some (some v, hH L m)) : PA L xs y u as m := ⟨v, m, m, h1, h2, w⟩
