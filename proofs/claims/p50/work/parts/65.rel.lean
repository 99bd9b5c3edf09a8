/-! Class and model, tied. -/
/-- the packs' part of the model's row, in range -/
def gR (g : Nat → Int) : Prop := 1 ≤ g 0 ∧ g 0 ≤ 5 ∧ 0 ≤ g 1 ∧ g 1 ≤ 8 ∧ (∀ p : Nat, p < 5 → 0 ≤ g (7 + p) ∧ g (7 + p) ≤ 99) ∧ (∀ r : Nat, r < 8 → (g (12 + 7 * r) = 0 ∨ g (12 + 7 * r) = 1) ∧ -99 ≤ g (13 + 7 * r) ∧ g (13 + 7 * r) ≤ 999) ∧ (∀ r p : Nat, r < 8 → p < 5 → -9 ≤ g (14 + 7 * r + p) ∧ g (14 + 7 * r + p) ≤ 9)
def pkG (g : Nat → Int) : PK := (((g 0).toNat, (g 1).toNat), (fun p => g (7 + p)), (fun r p => if g (12 + 7 * r) = 0 then -(g (14 + 7 * r + p)) else g (14 + 7 * r + p)), (fun r => if g (12 + 7 * r) = 0 then -(g (13 + 7 * r)) else g (13 + 7 * r)))
/-- the class's packs at a are the row's -/
def pkR (a : Nat) (g : Nat → Int) (m : j_M0) : Prop := kP a m ∧ m a 0 = g 0 ∧ m a 1 = g 1 ∧ (∀ p : Nat, p < 5 → m (a + 1) p = g (7 + p)) ∧ (∀ r : Nat, (r : Int) < g 1 → m (a + 2) r = g (12 + 7 * r) ∧ m (a + 3) r = g (13 + 7 * r)) ∧ (∀ r p : Nat, (r : Int) < g 1 → (p : Int) < g 0 → m (a + 4) (5 * r + p) = g (14 + 7 * r + p))
theorem vP_of {a : Nat} {g : Nat → Int} {m : j_M0} (h : gR g) (w : pkR a g m) : vP a (pkG g) m := by
  obtain ⟨w1, w2, w3, w4, w5, w6⟩ := w
  obtain ⟨h1, h2, h3, h4, -⟩ := h
  refine ⟨w1, ?_, ?_, fun p hp => w4 p ?_, fun r p hr hp => ?_, fun r hr => ?_⟩
  · show m a 0 = ((g 0).toNat : Int)
    omega
  · show m a 1 = ((g 1).toNat : Int)
    omega
  · replace hp : p < (g 0).toNat := hp
    omega
  · replace hp : p < (g 0).toNat := hp
    replace hr : r < (g 1).toNat := hr
    show ptC a m r p = if g (12 + 7 * r) = 0 then -(g (14 + 7 * r + p)) else g (14 + 7 * r + p)
    unfold ptC
    rw [(w5 r (by omega)).1, w6 r p (by omega) (by omega)]
  · replace hr : r < (g 1).toNat := hr
    show liC a m r = if g (12 + 7 * r) = 0 then -(g (13 + 7 * r)) else g (13 + 7 * r)
    unfold liC
    rw [(w5 r (by omega)).1, (w5 r (by omega)).2]
theorem pkR_k {a : Nat} {g : Nat → Int} {m m' : j_M0} (w : pkR a g m) (k : ∀ b z, a ≤ b → b ≤ a + 4 → m' b z = m b z) : pkR a g m' := by
  obtain ⟨w1, w2, w3, w4, w5, w6⟩ := w
  refine ⟨kP_k w1 k, (k _ _ (by omega) (by omega)).trans w2, (k _ _ (by omega) (by omega)).trans w3, fun p hp => (k _ _ (by omega) (by omega)).trans (w4 p hp), fun r hr => ⟨(k _ _ (by omega) (by omega)).trans (w5 r hr).1, (k _ _ (by omega) (by omega)).trans (w5 r hr).2⟩, fun r p hr hp => (k _ _ (by omega) (by omega)).trans (w6 r p hr hp)⟩
theorem pkR_g {a : Nat} {g g' : Nat → Int} {m : j_M0} (w : pkR a g m) (k : ∀ z, z < 2 ∨ (7 ≤ z ∧ z < 68) → g' z = g z) (h : g 1 ≤ 8) (h0 : g 0 ≤ 5) : pkR a g' m := by
  obtain ⟨w1, w2, w3, w4, w5, w6⟩ := w
  have k1 := k 1 (by omega)
  have k0 := k 0 (by omega)
  refine ⟨w1, w2.trans (k 0 (by omega)).symm, w3.trans k1.symm, fun p hp => (w4 p hp).trans (k _ (by omega)).symm, fun r hr => ⟨(w5 r (by omega)).1.trans (k _ (by omega)).symm, (w5 r (by omega)).2.trans (k _ (by omega)).symm⟩, fun r p hr hp => (w6 r p (by omega) (by omega)).trans (k _ (by omega)).symm⟩
/-! codes -/
def tenF : Nat → Int
  | 0 => 1
  | k + 1 => 10 * tenF k
/-- the digit of pack p of n -/
def digF (n p : Nat) (x : Int) : Int := x / tenF (n - 1 - p) % 10
def cosS (g : Nat → Int) (n : Nat) (x : Int) : Nat → Int
  | 0 => 0
  | p + 1 => cosS g n x p + digF n p x * g (7 + p)
def cosF (g : Nat → Int) (x : Int) : Int := cosS g (g 0).toNat x (g 0).toNat
theorem cosS_g {g g' : Nat → Int} {n : Nat} {x : Int} : ∀ p : Nat, (∀ z, z < p → g' (7 + z) = g (7 + z)) → cosS g' n x p = cosS g n x p := by
  intro p
  induction p with
  | zero => intro _; rfl
  | succ p ih =>
    intro k
    unfold cosS
    rw [ih (fun z hz => k z (by omega)), k p (by omega)]
theorem cosF_g {g g' : Nat → Int} {x : Int} (h0 : g 0 ≤ 5) (k : ∀ z, z = 0 ∨ (7 ≤ z ∧ z < 12) → g' z = g z) : cosF g' x = cosF g x := by
  unfold cosF
  rw [k 0 (by omega)]
  exact cosS_g _ (fun z hz => k _ (by omega))
/-- the order of mixes: by cost, then by code -/
def lsO (c k c' k' : Int) : Prop := c < c' ∨ (c = c' ∧ k < k')
def ofR (a : Nat) (g : Nat → Int) (m : j_M0) : Prop := m a 0 = g 6 ∧ (∀ i j : Nat, i < j → (j : Int) < g 6 → lsO (m (a + 2) i) (m (a + 1) i) (m (a + 2) j) (m (a + 1) j)) ∧ (∀ i : Nat, (i : Int) < g 6 → m (a + 2) i = cosF g (m (a + 1) i)) ∧ (∀ i : Nat, (i : Int) < g 6 → ∃ k : Nat, (k : Int) < g 6 ∧ g (110 + 2 * k) = m (a + 1) i ∧ g (111 + 2 * k) = m (a + 3) i) ∧ (∀ k : Nat, (k : Int) < g 6 → ∃ i : Nat, (i : Int) < g 6 ∧ m (a + 1) i = g (110 + 2 * k) ∧ m (a + 3) i = g (111 + 2 * k))
theorem ofR_k {a : Nat} {g : Nat → Int} {m m' : j_M0} (w : ofR a g m) (k : ∀ b z, a ≤ b → b ≤ a + 3 → m' b z = m b z) : ofR a g m' := by
  unfold ofR at w ⊢
  simp (disch := omega) only [k]
  exact w
theorem ofR_g {a : Nat} {g g' : Nat → Int} {m : j_M0} (w : ofR a g m) (h0 : g 0 ≤ 5) (k : ∀ z, z = 0 ∨ (6 ≤ z ∧ z < 12) ∨ 110 ≤ z → g' z = g z) : ofR a g' m := by
  have e : ∀ x, cosF g' x = cosF g x := fun x => cosF_g h0 (fun z hz => k z (by omega))
  unfold ofR at w ⊢
  simp (disch := omega) only [k, e]
  exact w
/-- what else the model's row holds, in range -/
def gX (g : Nat → Int) : Prop := (∀ r : Nat, r < 8 → 0 ≤ g (68 + r) ∧ g (68 + r) ≤ 9) ∧ (1 ≤ g 2 ∧ g 2 ≤ 10) ∧ (0 ≤ g 3 ∧ g 3 ≤ 6) ∧ (0 ≤ g 4 ∧ g 4 ≤ 5) ∧ (∀ k : Nat, (k : Int) < g 4 → (0 ≤ g (76 + 2 * k) ∧ g (76 + 2 * k) < g 0) ∧ 0 ≤ g (77 + 2 * k) ∧ g (77 + 2 * k) ≤ 999) ∧ (0 ≤ g 5 ∧ g 5 ≤ 8) ∧ (∀ k : Nat, (k : Int) < g 5 → (0 ≤ g (86 + 3 * k) ∧ g (86 + 3 * k) ≤ 2) ∧ (0 ≤ g (87 + 3 * k) ∧ g (87 + 3 * k) < 8) ∧ plN (g (86 + 3 * k)) (g (88 + 3 * k)) = 1) ∧ (0 ≤ g 6 ∧ g 6 ≤ 20) ∧ (∀ k : Nat, (k : Int) < g 6 → (0 ≤ g (110 + 2 * k) ∧ g (110 + 2 * k) < tenF (g 0).toNat) ∧ 0 ≤ g (111 + 2 * k) ∧ g (111 + 2 * k) ≤ 999) ∧ (∀ i j : Nat, i < j → (j : Int) < g 6 → g (110 + 2 * i) ≠ g (110 + 2 * j))
/-- the class's state at a is the row -/
def stR (a : Nat) (g : Nat → Int) (m : j_M0) : Prop := pkR (a + 1) g m ∧ ofR (a + 6) g m ∧ (∀ r : Nat, r < 8 → m (a + 10) r = g (68 + r)) ∧ m a 3 = g 2 ∧ m a 4 = g 3 ∧ m a 5 = g 4 ∧ (∀ k : Nat, (k : Int) < g 4 → m (a + 11) k = g (76 + 2 * k) ∧ m (a + 12) k = g (77 + 2 * k)) ∧ m a 8 = g 5 ∧ (∀ k : Nat, (k : Int) < g 5 → m (a + 13) k = g (86 + 3 * k) ∧ m (a + 14) k = g (87 + 3 * k) ∧ m (a + 15) k = g (88 + 3 * k))
theorem stR_k {a : Nat} {g : Nat → Int} {m m' : j_M0} (w : stR a g m) (k : ∀ b z, a ≤ b → b ≤ a + 15 → m' b z = m b z) : stR a g m' := by
  obtain ⟨w1, w2, w3⟩ := w
  refine ⟨pkR_k w1 (fun b z h h' => k _ _ (by omega) (by omega)), ofR_k w2 (fun b z h h' => k _ _ (by omega) (by omega)), ?_⟩
  simp (disch := omega) only [k]
  exact w3
/-- THE TABLE -/
def tsR (n : Nat) (s : Int) (T : TB) (U : CU) : Prop := tOK T ∧ tC T = n ∧ cOK n U ∧ (s = 1 → partF T < 0 ∧ ∀ i : Nat, i < tR T → 0 ≤ tri T i)
/-- what an item of a sort may be -/
def itR (s v : Int) : Prop := (s = 2 → -2147483648 ≤ v ∧ v ≤ 2147483647) ∧ -9223372036854775808 ≤ v ∧ v ≤ 9223372036854775807
/-- what stays: the script, TENS -/
def baR (xs : Nat → Int32) (m : j_M0) : Prop := (∀ i : Nat, m 0 i = (xs i).toInt) ∧ (∀ i : Nat, i < 6 → m 1 i = tenF i)
theorem baR_k {xs : Nat → Int32} {m m' : j_M0} (w : baR xs m) (k : ∀ b z, b ≤ 1 → m' b z = m b z) : baR xs m' := by
  unfold baR at w ⊢
  simp (disch := omega) only [k]
  exact w
/-- what is thought only -/
def sc (b z : Nat) : Prop := (35 ≤ b ∧ b ≤ 39) ∨ (47 ≤ b ∧ b ≤ 49) ∨ (54 ≤ b ∧ b ≤ 92) ∨ (b = 93 ∧ z ≠ 0) ∨ (95 ≤ b ∧ b ≤ 97) ∨ b = 108 ∨ (b = 109 ∧ z ≠ 3 ∧ z ≠ 6) ∨ b = 112 ∨ b = 114 ∨ (119 ≤ b ∧ b ≤ 121) ∨ (128 ≤ b ∧ b ≤ 150) ∨ b = 154 ∨ (155 ≤ b ∧ b ≤ 159)
