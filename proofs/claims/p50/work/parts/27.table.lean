/-! Tables. -/
/-- a table as such: rows, columns, pivots, base, divisor; owners of rows, of columns, entries, rights, rises -/
abbrev TB : Type := (Nat × Nat × Nat × Int × Int) × (Nat → Int) × (Nat → Int) × (Nat → Nat → Int) × (Nat → Int) × (Nat → Int)
def tR (T : TB) : Nat := T.1.1
def tC (T : TB) : Nat := T.1.2.1
def tP (T : TB) : Nat := T.1.2.2.1
def tB (T : TB) : Int := T.1.2.2.2.1
def tD (T : TB) : Int := T.1.2.2.2.2
def tow (T : TB) : Nat → Int := T.2.1
def tos (T : TB) : Nat → Int := T.2.2.1
def te (T : TB) : Nat → Nat → Int := T.2.2.2.1
def tri (T : TB) : Nat → Int := T.2.2.2.2.1
def trs (T : TB) : Nat → Int := T.2.2.2.2.2
/-- the class's table at a is T -/
def vC (a : Nat) (T : TB) (m : j_M0) : Prop := m a 0 = tR T ∧ m a 1 = tC T ∧ m a 2 = tP T ∧ m a 3 = tB T ∧ m a 4 = tD T ∧ (∀ i : Nat, i < tR T → m (a + 1) i = tow T i) ∧ (∀ c : Nat, c < tC T → m (a + 2) c = tos T c) ∧ (∀ i c : Nat, i < tR T → c < tC T → m (a + 3) (5 * i + c) = te T i c) ∧ (∀ i : Nat, i < tR T → m (a + 4) i = tri T i) ∧ (∀ c : Nat, c < tC T → m (a + 5) c = trs T c)
/-- the model's table at u is T -/
def vM (u : Nat) (T : TB) (m : j_M0) : Prop := m u 15 = tR T ∧ m u 14 = tC T ∧ m u 17 = tP T ∧ m u 12 = tB T ∧ m u 13 = tD T ∧ (∀ i : Nat, i < tR T → m (u + 7) i = tow T i) ∧ (∀ c : Nat, c < tC T → m (u + 8) c = tos T c) ∧ (∀ i c : Nat, i < tR T → c < tC T → m (u + 1) (5 * i + c) = te T i c) ∧ (∀ i : Nat, i < tR T → m (u + 2) i = tri T i) ∧ (∀ c : Nat, c < tC T → m (u + 3) c = trs T c)
/-- in range, the rises not below 0 -/
def tOK (T : TB) : Prop := tR T ≤ 20 ∧ 1 ≤ tC T ∧ tC T ≤ 5 ∧ tP T ≤ 60 ∧ 1 ≤ tD T ∧ tD T ≤ 1000000000 ∧ 0 ≤ tB T ∧ tB T ≤ 1000000000 ∧ (∀ i c : Nat, i < tR T → c < tC T → -1000000000 ≤ te T i c ∧ te T i c ≤ 1000000000) ∧ (∀ i : Nat, i < tR T → -1000000001 ≤ tri T i ∧ tri T i ≤ 1000000001) ∧ (∀ c : Nat, c < tC T → 0 ≤ trs T c ∧ trs T c ≤ 1000000000) ∧ (∀ i : Nat, i < tR T → 0 ≤ tow T i ∧ tow T i < 60) ∧ (∀ c : Nat, c < tC T → 0 ≤ tos T c ∧ tos T c < 60)
/-- the lowest right below 0 of the first k rows -/
def lowF (T : TB) : Nat → Int
  | 0 => -1
  | k + 1 => if tri T k < 0 ∧ (lowF T k < 0 ∨ tri T k < tri T (lowF T k).toNat) then (k : Int) else lowF T k
theorem lowF_b (T : TB) (k : Nat) : -1 ≤ lowF T k ∧ lowF T k < (k : Int) := by
  induction k with
  | zero => unfold lowF; omega
  | succ k ih => unfold lowF; split <;> omega
/-- whether column c is nearer than f in a row -/
def nearer (T : TB) (r c f : Nat) : Prop := trs T c * -(te T r f) < trs T f * -(te T r c) ∨ trs T c * -(te T r f) = trs T f * -(te T r c) ∧ tos T c < tos T f
def nearF (T : TB) (r : Nat) : Nat → Int
  | 0 => -1
  | k + 1 => if te T r k < 0 ∧ (nearF T r k < 0 ∨ trs T k * -(te T r (nearF T r k).toNat) < trs T (nearF T r k).toNat * -(te T r k) ∨ trs T k * -(te T r (nearF T r k).toNat) = trs T (nearF T r k).toNat * -(te T r k) ∧ tos T k < tos T (nearF T r k).toNat) then (k : Int) else nearF T r k
theorem nearF_b (T : TB) (r k : Nat) : -1 ≤ nearF T r k ∧ nearF T r k < (k : Int) := by
  induction k with
  | zero => unfold nearF; omega
  | succ k ih => unfold nearF; split <;> omega
theorem nat1 {k : Nat} (h : k < 1000000) : w32 ((k : Int) + 1) = ((k + 1 : Nat) : Int) := by
  rw [w32_id (by omega) (by omega)]
  omega
theorem mul_r {x y a b : Int} (h1 : -a ≤ x) (h2 : x ≤ a) (h3 : -b ≤ y) (h4 : y ≤ b) : -(a * b) ≤ x * y ∧ x * y ≤ a * b := by
  have ha : 0 ≤ a := by omega
  have hb : 0 ≤ b := by omega
  have e1 : 0 ≤ (a - x) * (b + y) := Int.mul_nonneg (by omega) (by omega)
  have e2 : 0 ≤ (a + x) * (b - y) := Int.mul_nonneg (by omega) (by omega)
  have e3 : 0 ≤ (a - x) * (b - y) := Int.mul_nonneg (by omega) (by omega)
  have e4 : 0 ≤ (a + x) * (b + y) := Int.mul_nonneg (by omega) (by omega)
  grind
theorem L46_41 {C : Nat → List j_V → j_H → Option j_Z} {L : j_B} {m : j_M0} {T : TB} (v : vC 41 T m) (o : tR T ≤ 20) : ∀ j k : Nat, k + j = tR T → j_fin C 46 4 [some (jR 41), some (jI (lowF T k)), some (jI k)] [] (hH L m) = some (some (jI (lowF T (tR T))), hH L m) := by
  have v0 := v.1
  intro j
  induction j with
  | zero =>
    intro k hk
    rw [T46_4_41, if_neg (by omega), show k = tR T by omega]
  | succ j ih =>
    intro k hk
    have ih' := ih (k + 1) (by omega)
    have hb := lowF_b T k
    have h1 := v.2.2.2.2.2.2.2.2.1 k (by omega)
    have h2 : 0 ≤ lowF T k → m (41 + 4) (lowF T k).toNat = tri T (lowF T k).toNat := fun h => v.2.2.2.2.2.2.2.2.1 _ (by omega)
    simp only [Nat.reduceAdd] at h1 h2
    rw [T46_4_41, if_pos (by omega), if_pos (by omega), nat1 (by omega), Int.toNat_natCast, h1]
    simp only [cmp_lt]
    rw [lowF] at ih'
    grind
theorem Q46_41 {d : Nat} {L : j_B} {m : j_M0} {T : TB} (v : vC 41 T m) (o : tR T ≤ 20) : c_call (d + 1) 46 [jR 41] (hH L m) = some (some (jI (lowF T (tR T))), hH L m) := by
  rw [E46, T46_0_41]
  exact L46_41 v o (tR T) 0 (by omega)
theorem Q48_41 {d : Nat} {L : j_B} {m : j_M0} {T : TB} (v : vC 41 T m) (o : tOK T) {r c f : Nat} (hr : r < tR T) (hc : c < tC T) (hf : f < tC T) : c_call (d + 1) 48 [jR 41, jI r, jI c, jI f] (hH L m) = some (some (jI (bI (trs T c * -(te T r f) < trs T f * -(te T r c) ∨ trs T c * -(te T r f) = trs T f * -(te T r c) ∧ tos T c < tos T f))), hH L m) := by
  have o1 := o.1
  have o2 := o.2.2.1
  have h1 := v.2.2.2.2.2.2.2.2.2 c hc
  have h2 := v.2.2.2.2.2.2.2.2.2 f hf
  have h3 := v.2.2.2.2.2.2.2.1 r c hr hc
  have h4 := v.2.2.2.2.2.2.2.1 r f hr hf
  have h5 := v.2.2.2.2.2.2.1 c hc
  have h6 := v.2.2.2.2.2.2.1 f hf
  have r1 := o.2.2.2.2.2.2.2.2.2.2.1 c hc
  have r2 := o.2.2.2.2.2.2.2.2.2.2.1 f hf
  have r3 := o.2.2.2.2.2.2.2.2.1 r c hr hc
  have r4 := o.2.2.2.2.2.2.2.2.1 r f hr hf
  have p1 := mul_r (x := trs T c) (y := -(te T r f)) (a := 1000000000) (b := 1000000000) (by omega) (by omega) (by omega) (by omega)
  have p2 := mul_r (x := trs T f) (y := -(te T r c)) (a := 1000000000) (b := 1000000000) (by omega) (by omega) (by omega) (by omega)
  simp only [Nat.reduceAdd] at h1 h2 h3 h4 h5 h6
  rw [E48, T48_0_41]
  simp (disch := omega) only [w32_id, Int.toNat_natCast, cmp_lt, cmp_eq]
  simp (disch := omega) only [show ((r : Int) * 5 + (f : Int)).toNat = 5 * r + f by omega, show ((r : Int) * 5 + (c : Int)).toNat = 5 * r + c by omega, h1, h2, h3, h4, h5, h6, w64_id]
  unfold bI
  grind
theorem L46_55 {C : Nat → List j_V → j_H → Option j_Z} {L : j_B} {m : j_M0} {T : TB} (v : vC 55 T m) (o : tR T ≤ 20) : ∀ j k : Nat, k + j = tR T → j_fin C 46 4 [some (jR 55), some (jI (lowF T k)), some (jI k)] [] (hH L m) = some (some (jI (lowF T (tR T))), hH L m) := by
  have v0 := v.1
  intro j
  induction j with
  | zero =>
    intro k hk
    rw [T46_4_55, if_neg (by omega), show k = tR T by omega]
  | succ j ih =>
    intro k hk
    have ih' := ih (k + 1) (by omega)
    have hb := lowF_b T k
    have h1 := v.2.2.2.2.2.2.2.2.1 k (by omega)
    have h2 : 0 ≤ lowF T k → m (55 + 4) (lowF T k).toNat = tri T (lowF T k).toNat := fun h => v.2.2.2.2.2.2.2.2.1 _ (by omega)
    simp only [Nat.reduceAdd] at h1 h2
    rw [T46_4_55, if_pos (by omega), if_pos (by omega), nat1 (by omega), Int.toNat_natCast, h1]
    simp only [cmp_lt]
    rw [lowF] at ih'
    grind
theorem Q46_55 {d : Nat} {L : j_B} {m : j_M0} {T : TB} (v : vC 55 T m) (o : tR T ≤ 20) : c_call (d + 1) 46 [jR 55] (hH L m) = some (some (jI (lowF T (tR T))), hH L m) := by
  rw [E46, T46_0_55]
  exact L46_55 v o (tR T) 0 (by omega)
theorem Q48_55 {d : Nat} {L : j_B} {m : j_M0} {T : TB} (v : vC 55 T m) (o : tOK T) {r c f : Nat} (hr : r < tR T) (hc : c < tC T) (hf : f < tC T) : c_call (d + 1) 48 [jR 55, jI r, jI c, jI f] (hH L m) = some (some (jI (bI (trs T c * -(te T r f) < trs T f * -(te T r c) ∨ trs T c * -(te T r f) = trs T f * -(te T r c) ∧ tos T c < tos T f))), hH L m) := by
  have o1 := o.1
  have o2 := o.2.2.1
  have h1 := v.2.2.2.2.2.2.2.2.2 c hc
  have h2 := v.2.2.2.2.2.2.2.2.2 f hf
  have h3 := v.2.2.2.2.2.2.2.1 r c hr hc
  have h4 := v.2.2.2.2.2.2.2.1 r f hr hf
  have h5 := v.2.2.2.2.2.2.1 c hc
  have h6 := v.2.2.2.2.2.2.1 f hf
  have r1 := o.2.2.2.2.2.2.2.2.2.2.1 c hc
  have r2 := o.2.2.2.2.2.2.2.2.2.2.1 f hf
  have r3 := o.2.2.2.2.2.2.2.2.1 r c hr hc
  have r4 := o.2.2.2.2.2.2.2.2.1 r f hr hf
  have p1 := mul_r (x := trs T c) (y := -(te T r f)) (a := 1000000000) (b := 1000000000) (by omega) (by omega) (by omega) (by omega)
  have p2 := mul_r (x := trs T f) (y := -(te T r c)) (a := 1000000000) (b := 1000000000) (by omega) (by omega) (by omega) (by omega)
  simp only [Nat.reduceAdd] at h1 h2 h3 h4 h5 h6
  rw [E48, T48_0_55]
  simp (disch := omega) only [w32_id, Int.toNat_natCast, cmp_lt, cmp_eq]
  simp (disch := omega) only [show ((r : Int) * 5 + (f : Int)).toNat = 5 * r + f by omega, show ((r : Int) * 5 + (c : Int)).toNat = 5 * r + c by omega, h1, h2, h3, h4, h5, h6, w64_id]
  unfold bI
  grind
