/-! Offers. -/
/-! offers, in the model's order and in the class's -/
def cnP (P : Int → Bool) (a : Nat → Int) : Nat → Nat
  | 0 => 0
  | j + 1 => cnP P a j + (if P (a j) = true then 1 else 0)
theorem cnP_l (P : Int → Bool) (a : Nat → Int) : ∀ n : Nat, cnP P a n = List.countP P ((List.range n).map a) := by
  intro n
  induction n with
  | zero => rfl
  | succ n ih =>
    rw [List.range_succ, List.map_append, List.countP_append]
    unfold cnP
    rw [ih, List.map_cons, List.map_nil, List.countP_cons, List.countP_nil, Nat.zero_add]
theorem cnP_e {P : Int → Bool} {a b : Nat → Int} {n : Nat} (ha : ∀ i j : Nat, i < j → j < n → a i ≠ a j) (hb : ∀ i j : Nat, i < j → j < n → b i ≠ b j) (h1 : ∀ i : Nat, i < n → ∃ j : Nat, j < n ∧ b j = a i) (h2 : ∀ i : Nat, i < n → ∃ j : Nat, j < n ∧ a j = b i) : cnP P a n = cnP P b n := by
  rw [cnP_l, cnP_l]
  have nd : ∀ c : Nat → Int, (∀ i j : Nat, i < j → j < n → c i ≠ c j) → ((List.range n).map c).Nodup := fun c hc => by
    rw [List.nodup_iff_pairwise_ne, List.pairwise_map]
    refine List.Pairwise.imp_of_mem ?_ (List.pairwise_lt_range (n := n))
    intro x y hx hy h
    exact hc x y h (List.mem_range.mp hy)
  refine List.Perm.countP_eq P ((List.perm_ext_iff_of_nodup (nd a ha) (nd b hb)).mpr (fun z => ?_))
  rw [List.mem_map, List.mem_map]
  constructor
  · rintro ⟨i, hi, rfl⟩
    obtain ⟨j, hj, e⟩ := h1 i (List.mem_range.mp hi)
    exact ⟨j, List.mem_range.mpr hj, e⟩
  · rintro ⟨i, hi, rfl⟩
    obtain ⟨j, hj, e⟩ := h2 i (List.mem_range.mp hi)
    exact ⟨j, List.mem_range.mpr hj, e⟩
theorem cnP_p {P : Int → Bool} {a : Nat → Int} {p n : Nat} (h : ∀ i : Nat, i < n → (P (a i) = true ↔ i < p)) : ∀ k : Nat, k ≤ n → cnP P a k = min k p := by
  intro k
  induction k with
  | zero => intro _; exact (Nat.zero_min p).symm
  | succ k ih =>
    intro hk
    unfold cnP
    rw [ih (by omega)]
    by_cases e : k < p
    · rw [if_pos ((h k (by omega)).mpr e)]; omega
    · rw [if_neg (fun g => e ((h k (by omega)).mp g))]; omega
/-- code and cost of an offer, as they came -/
def oC (g : Nat → Int) (k : Nat) : Int := g (110 + 2 * k)
def oA (g : Nat → Int) (k : Nat) : Int := g (111 + 2 * k)
def oK (g : Nat → Int) (k : Nat) : Int := cosF g (oC g k)
theorem lsO_t {c k c' k' c'' k'' : Int} (h : lsO c k c' k') (h' : lsO c' k' c'' k'') : lsO c k c'' k'' := by
  unfold lsO at *
  omega
theorem lsO_n {c k : Int} : ¬ lsO c k c k := by
  unfold lsO
  omega
/-- shelf and list tell the same -/
theorem ofR_i {a : Nat} {g : Nat → Int} {m : j_M0} (o : ofR a g m) {N : Nat} (hN : g 6 = N) {i : Nat} (hi : i < N) : ∃ k : Nat, k < N ∧ oC g k = m (a + 1) i ∧ oA g k = m (a + 3) i ∧ oK g k = m (a + 2) i := by
  obtain ⟨k, k1, k2, k3⟩ := o.2.2.2.1 i (by omega)
  refine ⟨k, by omega, k2, k3, ?_⟩
  rw [o.2.2.1 i (by omega), ← k2]
  rfl
theorem ofR_j {a : Nat} {g : Nat → Int} {m : j_M0} (o : ofR a g m) {N : Nat} (hN : g 6 = N) {k : Nat} (hk : k < N) : ∃ i : Nat, i < N ∧ oC g k = m (a + 1) i ∧ oA g k = m (a + 3) i ∧ oK g k = m (a + 2) i := by
  obtain ⟨i, i1, i2, i3⟩ := o.2.2.2.2 k (by omega)
  refine ⟨i, by omega, i2.symm, i3.symm, ?_⟩
  rw [o.2.2.1 i (by omega), i2]
  rfl
theorem ofR_l {a : Nat} {g : Nat → Int} {m : j_M0} (o : ofR a g m) {N : Nat} (hN : g 6 = N) {i j : Nat} (hi : i < N) (hj : j < N) : lsO (m (a + 2) i) (m (a + 1) i) (m (a + 2) j) (m (a + 1) j) ↔ i < j := by
  constructor
  · intro h
    rcases Nat.lt_trichotomy i j with e | e | e
    · exact e
    · subst e; exact absurd h lsO_n
    · exact absurd (lsO_t h (o.2.1 j i e (by omega))) lsO_n
  · intro h
    exact o.2.1 i j h (by omega)
theorem ofR_d {a : Nat} {g : Nat → Int} {m : j_M0} (o : ofR a g m) {N : Nat} (hN : g 6 = N) {i j : Nat} (hij : i < j) (hj : j < N) : m (a + 1) i ≠ m (a + 1) j := fun e => by
  have h := o.2.1 i j hij (by omega)
  have c1 := o.2.2.1 i (by omega)
  have c2 := o.2.2.1 j (by omega)
  rw [e] at c1 h
  rw [c1, c2] at h
  exact lsO_n h
/-- the place of an offer -/
def plF (g : Nat → Int) (k : Nat) : Nat → Int
  | 0 => 0
  | j + 1 => plF g k j + bI (oK g j < oK g k ∨ (oK g j = oK g k ∧ oC g j < oC g k))
theorem plF_c (g : Nat → Int) (k : Nat) : ∀ j : Nat, plF g k j = ((cnP (fun y => decide (cosF g y < oK g k ∨ (cosF g y = oK g k ∧ y < oC g k))) (oC g) j : Nat) : Int) := by
  intro j
  induction j with
  | zero => rfl
  | succ j ih =>
    unfold plF cnP
    rw [ih]
    have e : oK g j = cosF g (oC g j) := rfl
    by_cases h : oK g j < oK g k ∨ (oK g j = oK g k ∧ oC g j < oC g k)
    · rw [bI_t h, if_pos (decide_eq_true (by rw [← e]; exact h))]
      omega
    · rw [bI_f h, if_neg (fun g => h (by rw [e]; exact of_decide_eq_true g))]
      omega
theorem plF_p {a : Nat} {g : Nat → Int} {m : j_M0} (o : ofR a g m) {N : Nat} (hN : g 6 = N) (hd : ∀ i j : Nat, i < j → j < N → oC g i ≠ oC g j) {k p : Nat} (hp : p < N) (e : oC g k = m (a + 1) p) : plF g k N = p := by
  have ek : oK g k = m (a + 2) p := by
    rw [o.2.2.1 p (by omega), ← e]
    rfl
  rw [plF_c, cnP_e (b := m (a + 1)) hd (fun i j h h' => ofR_d o hN h h') (fun i hi => by
    obtain ⟨j, j1, j2, -⟩ := ofR_j o hN hi
    exact ⟨j, j1, j2.symm⟩) (fun i hi => by
    obtain ⟨j, j1, j2, -⟩ := ofR_i o hN hi
    exact ⟨j, j1, j2⟩), cnP_p (p := p) (fun i hi => by
    have l := ofR_l o hN hi hp
    rw [← l, ← ek, ← e, o.2.2.1 i (by omega)]
    unfold lsO
    exact ⟨fun h => of_decide_eq_true h, fun h => decide_eq_true h⟩) N (Nat.le_refl N)]
  omega
/-! the cost, asked of the model -/
theorem cosF_h (g : Nat → Int) (x : Int) : cosF g x = cstF (pC (pkG g)) (fun q => digF (pN (pkG g)) q x) (pN (pkG g)) := cosS_c _
theorem cosF_r {g : Nat → Int} (h : gR g) (x : Int) : -5000 ≤ cosF g x ∧ cosF g x ≤ 5000 := by
  rw [cosF_h]
  exact (cst_R (pkG_ok h) (fun q _ => digF_r _ _ _)).2.1
/-- what the model's offers are, in range -/
def ofX (g : Nat → Int) (N : Nat) : Prop := gR g ∧ g 6 = N ∧ N ≤ 20 ∧ (∀ k : Nat, k < N → (0 ≤ oC g k ∧ oC g k < tenF (g 0).toNat) ∧ 0 ≤ oA g k ∧ oA g k ≤ 999) ∧ ∀ i j : Nat, i < j → j < N → oC g i ≠ oC g j
theorem ofX_of {g : Nat → Int} (hg : gR g) (hx : gX g) {N : Nat} (hN : g 6 = N) : ofX g N := by
  obtain ⟨x1, x2, x3, x4, x5, x6, x7, x8, x9, x10⟩ := hx
  exact ⟨hg, hN, by omega, fun k hk => x9 k (by omega), fun i j h h' => x10 i j h (by omega)⟩
def ofV (g : Nat → Int) (k : Nat) (w : Int) : Int := if w = 2 then oK g k else if w = 0 then oC g k else oA g k
def ofF (g : Nat → Int) (x w : Int) (N : Nat) : Nat → Nat → Int
  | 0, _ => -2
  | j + 1, i => if plF g i N = x then ofV g i w else ofF g x w N j (i + 1)
theorem ofF_y {g : Nat → Int} {x w : Int} {N k : Nat} (h : plF g k N = x) (hu : ∀ i : Nat, i < k → plF g i N ≠ x) : ∀ j i : Nat, i + j = N → i ≤ k → k < N → ofF g x w N j i = ofV g k w := by
  intro j
  induction j with
  | zero => intro i h1 h2 h3; omega
  | succ j ih =>
    intro i h1 h2 h3
    unfold ofF
    by_cases e : i = k
    · rw [e, if_pos h]
    · rw [if_neg (hu i (by omega))]
      exact ih (i + 1) (by omega) (by omega) h3
theorem ofF_n {g : Nat → Int} {x w : Int} {N : Nat} (hu : ∀ i : Nat, i < N → plF g i N ≠ x) : ∀ j i : Nat, i + j = N → ofF g x w N j i = -2 := by
  intro j
  induction j with
  | zero => intro i h1; rfl
  | succ j ih =>
    intro i h1
    unfold ofF
    rw [if_neg (hu i (by omega))]
    exact ih (i + 1) (by omega)
