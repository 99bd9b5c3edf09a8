/-! Offers. -/
/-! offers, in the model's order and in the class's -/
def cnP (P : Int → Bool) (a : Nat → Int) : Nat → Nat
  | 0 => 0
  | j + 1 => cnP P a j + (if P (a j) = true then 1 else 0)
theorem cnP_l (P : Int → Bool) (a : Nat → Int) : ∀ n : Nat, cnP P a n = List.countP P ((List.range n).map a) := by
  intro n
  induction n with
  | zero => rfl
  | succ n ih =>
    rw [List.range_succ, List.map_append, List.countP_append]
    unfold cnP
    rw [ih, List.map_cons, List.map_nil, List.countP_cons, List.countP_nil, Nat.zero_add]
theorem cnP_e {P : Int → Bool} {a b : Nat → Int} {n : Nat} (ha : ∀ i j : Nat, i < j → j < n → a i ≠ a j) (hb : ∀ i j : Nat, i < j → j < n → b i ≠ b j) (h1 : ∀ i : Nat, i < n → ∃ j : Nat, j < n ∧ b j = a i) (h2 : ∀ i : Nat, i < n → ∃ j : Nat, j < n ∧ a j = b i) : cnP P a n = cnP P b n := by
  rw [cnP_l, cnP_l]
  have nd : ∀ c : Nat → Int, (∀ i j : Nat, i < j → j < n → c i ≠ c j) → ((List.range n).map c).Nodup := fun c hc => by
    rw [List.nodup_iff_pairwise_ne, List.pairwise_map]
    refine List.Pairwise.imp_of_mem ?_ (List.pairwise_lt_range (n := n))
    intro x y hx hy h
    exact hc x y h (List.mem_range.mp hy)
  refine List.Perm.countP_eq P ((List.perm_ext_iff_of_nodup (nd a ha) (nd b hb)).mpr (fun z => ?_))
  rw [List.mem_map, List.mem_map]
  constructor
  · rintro ⟨i, hi, rfl⟩
    obtain ⟨j, hj, e⟩ := h1 i (List.mem_range.mp hi)
    exact ⟨j, List.mem_range.mpr hj, e⟩
  · rintro ⟨i, hi, rfl⟩
    obtain ⟨j, hj, e⟩ := h2 i (List.mem_range.mp hi)
    exact ⟨j, List.mem_range.mpr hj, e⟩
theorem cnP_p {P : Int → Bool} {a : Nat → Int} {p n : Nat} (h : ∀ i : Nat, i < n → (P (a i) = true ↔ i < p)) : ∀ k : Nat, k ≤ n → cnP P a k = min k p := by
  intro k
  induction k with
  | zero => intro _; exact (Nat.zero_min p).symm
  | succ k ih =>
    intro hk
    unfold cnP
    rw [ih (by omega)]
    by_cases e : k < p
    · rw [if_pos ((h k (by omega)).mpr e)]; omega
    · rw [if_neg (fun g => e ((h k (by omega)).mp g))]; omega
/-- code and cost of an offer, as they came -/
def oC (g : Nat → Int) (k : Nat) : Int := g (110 + 2 * k)
def oA (g : Nat → Int) (k : Nat) : Int := g (111 + 2 * k)
def oK (g : Nat → Int) (k : Nat) : Int := cosF g (oC g k)
theorem lsO_t {c k c' k' c'' k'' : Int} (h : lsO c k c' k') (h' : lsO c' k' c'' k'') : lsO c k c'' k'' := by
  unfold lsO at *
  omega
theorem lsO_n {c k : Int} : ¬ lsO c k c k := by
  unfold lsO
  omega
/-- shelf and list tell the same -/
theorem ofR_i {a : Nat} {g : Nat → Int} {m : j_M0} (o : ofR a g m) {N : Nat} (hN : g 6 = N) {i : Nat} (hi : i < N) : ∃ k : Nat, k < N ∧ oC g k = m (a + 1) i ∧ oA g k = m (a + 3) i ∧ oK g k = m (a + 2) i := by
  obtain ⟨k, k1, k2, k3⟩ := o.2.2.2.1 i (by omega)
  refine ⟨k, by omega, k2, k3, ?_⟩
  rw [o.2.2.1 i (by omega), ← k2]
  rfl
theorem ofR_j {a : Nat} {g : Nat → Int} {m : j_M0} (o : ofR a g m) {N : Nat} (hN : g 6 = N) {k : Nat} (hk : k < N) : ∃ i : Nat, i < N ∧ oC g k = m (a + 1) i ∧ oA g k = m (a + 3) i ∧ oK g k = m (a + 2) i := by
  obtain ⟨i, i1, i2, i3⟩ := o.2.2.2.2 k (by omega)
  refine ⟨i, by omega, i2.symm, i3.symm, ?_⟩
  rw [o.2.2.1 i (by omega), i2]
  rfl
theorem ofR_l {a : Nat} {g : Nat → Int} {m : j_M0} (o : ofR a g m) {N : Nat} (hN : g 6 = N) {i j : Nat} (hi : i < N) (hj : j < N) : lsO (m (a + 2) i) (m (a + 1) i) (m (a + 2) j) (m (a + 1) j) ↔ i < j := by
  constructor
  · intro h
    rcases Nat.lt_trichotomy i j with e | e | e
    · exact e
    · subst e; exact absurd h lsO_n
    · exact absurd (lsO_t h (o.2.1 j i e (by omega))) lsO_n
  · intro h
    exact o.2.1 i j h (by omega)
theorem ofR_d {a : Nat} {g : Nat → Int} {m : j_M0} (o : ofR a g m) {N : Nat} (hN : g 6 = N) {i j : Nat} (hij : i < j) (hj : j < N) : m (a + 1) i ≠ m (a + 1) j := fun e => by
  have h := o.2.1 i j hij (by omega)
  have c1 := o.2.2.1 i (by omega)
  have c2 := o.2.2.1 j (by omega)
  rw [e] at c1 h
  rw [c1, c2] at h
  exact lsO_n h
/-- the place of an offer -/
def plF (g : Nat → Int) (k : Nat) : Nat → Int
  | 0 => 0
  | j + 1 => plF g k j + bI (oK g j < oK g k ∨ (oK g j = oK g k ∧ oC g j < oC g k))
theorem plF_c (g : Nat → Int) (k : Nat) : ∀ j : Nat, plF g k j = ((cnP (fun y => decide (cosF g y < oK g k ∨ (cosF g y = oK g k ∧ y < oC g k))) (oC g) j : Nat) : Int) := by
  intro j
  induction j with
  | zero => rfl
  | succ j ih =>
    unfold plF cnP
    rw [ih]
    have e : oK g j = cosF g (oC g j) := rfl
    by_cases h : oK g j < oK g k ∨ (oK g j = oK g k ∧ oC g j < oC g k)
    · rw [bI_t h, if_pos (decide_eq_true (by rw [← e]; exact h))]
      omega
    · rw [bI_f h, if_neg (fun g => h (by rw [e]; exact of_decide_eq_true g))]
      omega
theorem plF_p {a : Nat} {g : Nat → Int} {m : j_M0} (o : ofR a g m) {N : Nat} (hN : g 6 = N) (hd : ∀ i j : Nat, i < j → j < N → oC g i ≠ oC g j) {k p : Nat} (hp : p < N) (e : oC g k = m (a + 1) p) : plF g k N = p := by
  have ek : oK g k = m (a + 2) p := by
    rw [o.2.2.1 p (by omega), ← e]
    rfl
  rw [plF_c, cnP_e (b := m (a + 1)) hd (fun i j h h' => ofR_d o hN h h') (fun i hi => by
    obtain ⟨j, j1, j2, -⟩ := ofR_j o hN hi
    exact ⟨j, j1, j2.symm⟩) (fun i hi => by
    obtain ⟨j, j1, j2, -⟩ := ofR_i o hN hi
    exact ⟨j, j1, j2⟩), cnP_p (p := p) (fun i hi => by
    have l := ofR_l o hN hi hp
    rw [← l, ← ek, ← e, o.2.2.1 i (by omega)]
    unfold lsO
    exact ⟨fun h => of_decide_eq_true h, fun h => decide_eq_true h⟩) N (Nat.le_refl N)]
  omega
/-! the cost, asked of the model -/
theorem cosF_h (g : Nat → Int) (x : Int) : cosF g x = cstF (pC (pkG g)) (fun q => digF (pN (pkG g)) q x) (pN (pkG g)) := cosS_c _
theorem cosF_r {g : Nat → Int} (h : gR g) (x : Int) : -5000 ≤ cosF g x ∧ cosF g x ≤ 5000 := by
  rw [cosF_h]
  exact (cst_R (pkG_ok h) (fun q _ => digF_r _ _ _)).2.1
theorem Q213c {d L : Nat} {m : j_M0} {x : Int} (hg : gR (m 110)) (hx : 0 ≤ x ∧ x < tenF (m 110 0).toNat) : ∃ m', c_call (d + 3) 213 [jR 109, jI x] (hH L m) = some (some (jI (cosF (m 110) x)), hH L m') ∧ kpt (fun b _ => b = 141) m m' := by
  obtain ⟨m1, t1, t2, -⟩ := Q213 (d := d) (L := L) (vG_of hg) (pkG_ok hg) (δ := fun q => digF (pN (pkG (m 110))) q x) (fun q _ => digF_r _ _ _)
  rw [show horF 10 (fun q => digF (pN (pkG (m 110))) q x) (pN (pkG (m 110))) = x from hor_digF _ x hx.1 hx.2, ← cosF_h] at t1
  exact ⟨m1, t1, t2⟩
/-- what the model's offers are, in range -/
def ofX (g : Nat → Int) (N : Nat) : Prop := gR g ∧ g 6 = N ∧ N ≤ 20 ∧ (∀ k : Nat, k < N → (0 ≤ oC g k ∧ oC g k < tenF (g 0).toNat) ∧ 0 ≤ oA g k ∧ oA g k ≤ 999) ∧ ∀ i j : Nat, i < j → j < N → oC g i ≠ oC g j
theorem ofX_of {g : Nat → Int} (hg : gR g) (hx : gX g) {N : Nat} (hN : g 6 = N) : ofX g N := by
  obtain ⟨x1, x2, x3, x4, x5, x6, x7, x8, x9, x10⟩ := hx
  exact ⟨hg, hN, by omega, fun k hk => x9 k (by omega), fun i j h h' => x10 i j h (by omega)⟩
theorem Q243 {d L : Nat} {g : Nat → Int} {N : Nat} (o : ofX g N) {m : j_M0} (hm : m 110 = g) {a b : Nat} (ha : a < N) (hb : b < N) : ∃ m', c_call (d + 4) 243 [jR 109, jI a, jI b] (hH L m) = some (some (jI (bI (oK g a < oK g b ∨ (oK g a = oK g b ∧ oC g a < oC g b)))), hH L m') ∧ kpt (fun b _ => b = 141) m m' := by
  subst hm
  obtain ⟨hg, hN, h20, hr, hd⟩ := o
  have ra := hr a ha
  have rb := hr b hb
  have ca := cosF_r hg (oC (m 110) a)
  have cb := cosF_r hg (oC (m 110) b)
  obtain ⟨m1, t1, t2⟩ := Q213c (d := d) (L := L) hg ra.1
  have e1 : m1 110 = m 110 := funext (fun z => kpt_at t2 (by omega))
  obtain ⟨m2, s1, s2⟩ := Q213c (d := d) (L := L) (m := m1) (x := oC (m 110) b) (by rw [e1]; exact hg) (by rw [e1]; exact rb.1)
  have e2 : m2 110 = m 110 := by rw [← e1]; exact funext (fun z => kpt_at s2 (by omega))
  rw [e1] at s1
  have i1 : w32 (110 + w32 (2 * (a : Int))) = 110 + 2 * (a : Int) := by rw [w32_id (x := 2 * (a : Int)) (by omega) (by omega), w32_id (by omega) (by omega)]
  have i2 : w32 (110 + w32 (2 * (b : Int))) = 110 + 2 * (b : Int) := by rw [w32_id (x := 2 * (b : Int)) (by omega) (by omega), w32_id (by omega) (by omega)]
  have j1 : (110 + 2 * (a : Int)).toNat = 110 + 2 * a := by omega
  have j2 : (110 + 2 * (b : Int)).toNat = 110 + 2 * b := by omega
  refine ⟨m2, ?_, kpt_tr t2 s2⟩
  rw [E243, T243_0, i1, if_pos (by omega), j1, show m 110 (110 + 2 * a) = oC (m 110) a from rfl, t1]
  simp only [Option.bind_some, Option.toList_some, List.cons_append, List.nil_append]
  rw [T243_15, i2, if_pos (by omega), j2, e1, show m 110 (110 + 2 * b) = oC (m 110) b from rfl, s1]
  simp only [Option.bind_some, Option.toList_some, List.cons_append, List.nil_append]
  rw [T243_30]
  simp only [i1, i2, j1, j2, e2, w32_id (x := cosF (m 110) (oC (m 110) a) - cosF (m 110) (oC (m 110) b)) (by omega) (by omega)]
  rw [if_pos (show 0 ≤ 110 + 2 * (a : Int) ∧ 110 + 2 * (a : Int) < 150 by omega), if_pos (show 0 ≤ 110 + 2 * (b : Int) ∧ 110 + 2 * (b : Int) < 150 by omega), show m 110 (110 + 2 * a) = oC (m 110) a from rfl, show m 110 (110 + 2 * b) = oC (m 110) b from rfl]
  unfold oK bI
  grind
theorem L244 {d L : Nat} {g : Nat → Int} {N : Nat} (o : ofX g N) {k : Nat} (hk : k < N) : ∀ j i : Nat, i + j = N → ∀ m : j_M0, m 110 = g → ∃ m', j_fin (c_call (d + 4)) 244 4 [some (jR 109), some (jI k), some (jI (plF g k i)), some (jI i)] [] (hH L m) = some (some (jI (plF g k N)), hH L m') ∧ kpt (fun b _ => b = 141) m m' := by
  have hN := o.2.1
  have h20 := o.2.2.1
  intro j
  induction j with
  | zero =>
    intro i hi m hm
    rw [T244_4, hm, if_neg (by omega), show i = N by omega]
    exact ⟨m, rfl, kpt_rfl⟩
  | succ j ih =>
    intro i hi m hm
    obtain ⟨m1, t1, t2⟩ := Q243 (d := d) (L := L) o hm (a := i) (b := k) (by omega) hk
    have e1 : m1 110 = g := by rw [← hm]; exact funext (fun z => kpt_at t2 (by omega))
    obtain ⟨m2, s1, s2⟩ := ih (i + 1) (by omega) m1 e1
    have pr : 0 ≤ plF g k i ∧ plF g k i ≤ i := by
      rw [plF_c]
      have : ∀ (P : Int → Bool) (a : Nat → Int) (n : Nat), cnP P a n ≤ n := fun P a n => by
        induction n with
        | zero => exact Nat.le_refl 0
        | succ n ih => unfold cnP; split <;> omega
      have := this (fun y => decide (cosF g y < oK g k ∨ (cosF g y = oK g k ∧ y < oC g k))) (oC g) i
      omega
    rw [plF] at s1
    rw [T244_4, hm, if_pos (by omega), t1]
    simp only [Option.bind_some, Option.toList_some, List.cons_append, List.nil_append]
    rw [T244_22, nat1 (by omega)]
    by_cases h : oK g i < oK g k ∨ (oK g i = oK g k ∧ oC g i < oC g k)
    · rw [bI_t h] at s1 ⊢
      rw [if_neg (by decide), w32_id (by omega) (by omega)]
      exact ⟨m2, s1, kpt_tr t2 s2⟩
    · rw [bI_f h] at s1 ⊢
      rw [if_pos rfl, w32_id (by omega) (by omega)]
      exact ⟨m2, s1, kpt_tr t2 s2⟩
def ofV (g : Nat → Int) (k : Nat) (w : Int) : Int := if w = 2 then oK g k else if w = 0 then oC g k else oA g k
def ofF (g : Nat → Int) (x w : Int) (N : Nat) : Nat → Nat → Int
  | 0, _ => -2
  | j + 1, i => if plF g i N = x then ofV g i w else ofF g x w N j (i + 1)
theorem ofF_y {g : Nat → Int} {x w : Int} {N k : Nat} (h : plF g k N = x) (hu : ∀ i : Nat, i < k → plF g i N ≠ x) : ∀ j i : Nat, i + j = N → i ≤ k → k < N → ofF g x w N j i = ofV g k w := by
  intro j
  induction j with
  | zero => intro i h1 h2 h3; omega
  | succ j ih =>
    intro i h1 h2 h3
    unfold ofF
    by_cases e : i = k
    · rw [e, if_pos h]
    · rw [if_neg (hu i (by omega))]
      exact ih (i + 1) (by omega) (by omega) h3
theorem ofF_n {g : Nat → Int} {x w : Int} {N : Nat} (hu : ∀ i : Nat, i < N → plF g i N ≠ x) : ∀ j i : Nat, i + j = N → ofF g x w N j i = -2 := by
  intro j
  induction j with
  | zero => intro i h1; rfl
  | succ j ih =>
    intro i h1
    unfold ofF
    rw [if_neg (hu i (by omega))]
    exact ih (i + 1) (by omega)
theorem L245 {d L : Nat} {g : Nat → Int} {N : Nat} (o : ofX g N) {x w : Int} (hw : 0 ≤ w ∧ w ≤ 2) : ∀ j i : Nat, i + j = N → ∀ m : j_M0, m 110 = g → ∃ m', j_fin (c_call (d + 5)) 245 16 [some (jR 109), some (jI x), some (jI w), some (jI i)] [] (hH L m) = some (some (jI (ofF g x w N j i)), hH L m') ∧ kpt (fun b _ => b = 141) m m' := by
  have hN := o.2.1
  have h20 := o.2.2.1
  intro j
  induction j with
  | zero =>
    intro i hi m hm
    rw [T245_16, hm, if_neg (by omega)]
    exact ⟨m, rfl, kpt_rfl⟩
  | succ j ih =>
    intro i hi m hm
    obtain ⟨m1, t1, t2⟩ := L244 (d := d) (L := L) o (k := i) (by omega) N 0 (by omega) m hm
    have t1' : c_call (d + 5) 244 [jR 109, jI i] (hH L m) = _ := (E244 (d := d + 4)).trans (T244_0.trans t1)
    have e1 : m1 110 = g := by rw [← hm]; exact funext (fun z => kpt_at t2 (by omega))
    have i1 : w32 (110 + w32 (2 * (i : Int))) = 110 + 2 * (i : Int) := by rw [w32_id (x := 2 * (i : Int)) (by omega) (by omega), w32_id (by omega) (by omega)]
    have j1 : (110 + 2 * (i : Int)).toNat = 110 + 2 * i := by omega
    rw [T245_16, hm, if_pos (by omega), t1']
    simp only [Option.bind_some, Option.toList_some, List.cons_append, List.nil_append]
    rw [T245_32, i1, e1, nat1 (by omega)]
    unfold ofF
    by_cases e : plF g i N = x
    · rw [if_pos e, if_pos e]
      unfold ofV
      by_cases e2 : w = 2
      · have r := o.2.2.2.1 i (by omega)
        obtain ⟨m2, s1, s2⟩ := Q213c (d := d + 2) (L := L) (m := m1) (x := oC g i) (by rw [e1]; exact o.1) (by rw [e1]; exact r.1)
        rw [if_pos e2, if_pos e2, if_pos (by omega), j1, show g (110 + 2 * i) = oC g i from rfl, s1]
        simp only [Option.bind_some, Option.toList_some, List.cons_append, List.nil_append]
        rw [T245_56, e1]
        exact ⟨m2, rfl, kpt_tr t2 s2⟩
      · rw [if_neg e2, if_neg e2, w32_id (x := 110 + 2 * (i : Int) + w) (by omega) (by omega), if_pos (by omega)]
        by_cases e3 : w = 0
        · rw [if_pos e3, show (110 + 2 * (i : Int) + w).toNat = 110 + 2 * i by omega]
          exact ⟨m1, rfl, t2⟩
        · rw [if_neg e3, show (110 + 2 * (i : Int) + w).toNat = 111 + 2 * i by omega]
          exact ⟨m1, rfl, t2⟩
    · rw [if_neg e, if_neg e]
      obtain ⟨m2, s1, s2⟩ := ih (i + 1) (by omega) m1 e1
      exact ⟨m2, s1, kpt_tr t2 s2⟩
theorem Rel_of {xs : Nat → Int32} {m : j_M0} (w : Rel xs m) : ∃ N : Nat, ofX (m 110) N ∧ ofR 9 (m 110) m ∧ m 9 0 = N := by
  have x8 := w.2.2.1.2.2.2.2.2.2.2.1
  have o := w.2.2.2.1.2.1
  have hN : m 110 6 = ((m 110 6).toNat : Int) := by omega
  exact ⟨(m 110 6).toNat, ofX_of w.2.1 w.2.2.1 hN, o, o.1.trans hN⟩
theorem PA122 {L : Nat} {xs : Nat → Int32} {m : j_M0} (w : Rel xs m) (x y : Int) : PA L xs 122 245 [jI x, jI y] m := by
  obtain ⟨N, ox, o, e9⟩ := Rel_of w
  have hN := ox.2.1
  have h20 := ox.2.2.1
  have hd := ox.2.2.2.2
  by_cases g1 : 0 ≤ y ∧ y ≤ 2
  · obtain ⟨m1, t1, t2⟩ := L245 (d := 4) (L := L) ox (x := x) (w := y) g1 N 0 (by omega) m rfl
    have h2 : c_call 10 245 [jR 109, jI x, jI y] (hH L m) = some (some (jI (ofF (m 110) x y N N 0)), hH L m1) := by
      refine (E245 (d := 9)).trans ?_
      rw [T245_0, Q150]
      simp only [Option.bind_some, Option.toList_some, List.cons_append, List.nil_append]
      rw [bI_t g1, T245_9, if_neg (by decide)]
      exact t1
    have w1 : Rel xs m1 := Rel_k w (kpt_w t2 (fun b z h => by unfold sc; omega))
    refine ⟨jI (ofF (m 110) x y N N 0), m, m1, (E122 (d := 9)).trans ?_, h2, w1⟩
    rw [T122_0, if_neg (by omega), if_neg (by omega), e9]
    by_cases g2 : 0 ≤ x ∧ x < N
    · obtain ⟨p, rfl⟩ : ∃ r : Nat, x = r := ⟨_, (Int.toNat_of_nonneg (by omega)).symm⟩
      obtain ⟨k, k1, k2, k3, k4⟩ := ofR_i o hN (i := p) (by omega)
      simp only [Nat.reduceAdd] at k2 k3 k4
      have pk := plF_p o hN hd (k := k) (p := p) (by omega) k2
      have f := ofF_y (w := y) pk (fun i hi => by
        obtain ⟨q, q1, q2, -⟩ := ofR_j o hN (k := i) (by omega)
        rw [plF_p o hN hd q1 q2]
        intro e
        rw [show q = p by omega] at q2
        exact hd i k hi k1 (q2.trans k2.symm)) N 0 (by omega) (Nat.zero_le k) k1
      rw [f]
      unfold ofV
      rw [if_neg (show ¬ ((p : Int) < 0) by omega), if_pos (show (p : Int) < N by omega)]
      simp only [if_pos (show 0 ≤ (p : Int) ∧ (p : Int) < 20 by omega), Int.toNat_natCast]
      by_cases c0 : y = 0
      · rw [if_pos c0, if_neg (show ¬ y = 2 by omega), if_pos c0, k2]
      · rw [if_neg c0]
        by_cases c1 : y = 1
        · rw [if_pos c1, if_neg (show ¬ y = 2 by omega), if_neg c0, k3]
        · rw [if_neg c1, if_pos (show y = 2 by omega), k4]
    · have f := ofF_n (w := y) (g := m 110) (x := x) (N := N) (fun i hi => by
        obtain ⟨q, q1, q2, -⟩ := ofR_j o hN hi
        rw [plF_p o hN hd q1 q2]
        omega) N 0 (by omega)
      rw [f]
      by_cases c : x < 0
      · rw [if_pos c]
      · rw [if_neg c, if_neg (by omega)]
  · refine PA_r w (v := jI (-1)) ((E122 (d := 9)).trans ?_) ((E245 (d := 9)).trans ?_)
    · rw [T122_0]
      by_cases a : y < 0
      · rw [if_pos a]
      · rw [if_neg a, if_pos (by omega)]
    · rw [T245_0, Q150]
      simp only [Option.bind_some, Option.toList_some, List.cons_append, List.nil_append]
      rw [bI_f g1, T245_9, if_pos rfl]

