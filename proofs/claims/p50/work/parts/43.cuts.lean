/-! Cuts as data. -/
/-- cuts as data: how many; points and, behind them, the limit; weights by slot; divisors -/
abbrev CU : Type := Nat × (Nat → Nat → Int) × (Nat → Nat → Int) × (Nat → Int)
def cN (U : CU) : Nat := U.1
def cF (U : CU) : Nat → Nat → Int := U.2.1
def cW (U : CU) : Nat → Nat → Int := U.2.2.1
def cD (U : CU) : Nat → Int := U.2.2.2
def cOK (n : Nat) (U : CU) : Prop := cN U ≤ 12 ∧ (∀ k : Nat, k < cN U → 1 ≤ cD U k ∧ cD U k ≤ 1000000000) ∧ (∀ k p : Nat, k < cN U → p ≤ n → -1000000000 ≤ cF U k p ∧ cF U k p ≤ 1000000000) ∧ (∀ k s : Nat, k < cN U → s < 20 → 0 ≤ cW U k s ∧ cW U k s ≤ 1000000000)
/-- the class's cuts at a, of n packs, are U -/
def uC (a n : Nat) (U : CU) (m : j_M0) : Prop := m a 0 = cN U ∧ (∀ k : Nat, k < cN U → m (a + 1) k = cD U k) ∧ (∀ k p : Nat, k < cN U → p ≤ n → m (a + 2) (6 * k + p) = cF U k p) ∧ (∀ k r : Nat, k < cN U → r < 8 → m (a + 3) (22 * k + r) = cW U k r) ∧ (∀ k e : Nat, k < cN U → e < 12 → m (a + 3) (22 * k + 10 + e) = cW U k (8 + e))
/-- the model's cuts at u -/
def uM (u n : Nat) (U : CU) (m : j_M0) : Prop := m u 16 = cN U ∧ (∀ k : Nat, k < cN U → m (u + 12) k = cD U k) ∧ (∀ k p : Nat, k < cN U → p < n → m (u + 9) (5 * k + p) = cF U k p) ∧ (∀ k : Nat, k < cN U → m (u + 10) k = cF U k n) ∧ (∀ k s : Nat, k < cN U → s < 20 → m (u + 11) (20 * k + s) = cW U k s)
def good (K : PK) (U : CU) (x : Int) : Prop := (0 ≤ x ∧ x < pN K) ∨ (10 ≤ x ∧ x < 10 + (pR K : Int)) ∨ (20 ≤ x ∧ x < 20 + (cN U : Int))
def gOK (K : PK) (U : CU) (T : TB) : Prop := (∀ i : Nat, i < tR T → good K U (tow T i)) ∧ (∀ c : Nat, c < tC T → good K U (tos T c))
def pF (K : PK) (r p : Nat) : Int := if p = pN K then pL K r else pP K r p
theorem pF_r {K : PK} (o : pOK K) {r p : Nat} (hr : r < pR K) (hp : p ≤ pN K) : -999 ≤ pF K r p ∧ pF K r p ≤ 999 := by
  unfold pF
  split
  · exact o.2.2.2.2.2 r hr
  · have := o.2.2.2.2.1 r p hr (by omega)
    omega
def termF (K : PK) (U : CU) (T : TB) (r p c : Nat) : Int := if tos T c = p then te T r c / tD T else if 20 ≤ tos T c then -(te T r c / tD T * cF U (tos T c - 20).toNat p) else if 10 ≤ tos T c then -(te T r c / tD T * pF K (tos T c - 10).toNat p) else 0
def sumF (K : PK) (U : CU) (T : TB) (r p : Nat) : Nat → Int
  | 0 => if p = pN K then tri T r / tD T else if tow T r = p then 1 else 0
  | c + 1 => sumF K U T r p c + termF K U T r p c
theorem ed_n {x y b : Int} (hy : 0 < y) (h1 : -b ≤ x) (h2 : x ≤ b) : -b ≤ x / y ∧ x / y ≤ b := by
  have := ed_r (x := x) hy
  omega
theorem termF_r {K : PK} {U : CU} {T : TB} (o : tOK T) (ok : pOK K) (ou : cOK (pN K) U) (og : gOK K U T) {r p c : Nat} (hr : r < tR T) (hp : p ≤ pN K) (hc : c < tC T) : -1000000000000000000 ≤ termF K U T r p c ∧ termF K U T r p c ≤ 1000000000000000000 := by
  have d1 := o.2.2.2.2.1
  have r1 := o.2.2.2.2.2.2.2.2.1 r c hr hc
  have r2 := ed_n (x := te T r c) (y := tD T) (b := 1000000000) (by omega) (by omega) (by omega)
  have g := og.2 c hc
  have n5 := ok.2.1
  have n8 := ok.2.2.1
  unfold good at g
  unfold termF
  split
  · omega
  · split
    · have r3 := ou.2.2.1 (tos T c - 20).toNat p (by omega) hp
      have := mul_r (x := te T r c / tD T) (y := cF U (tos T c - 20).toNat p) (a := 1000000000) (b := 1000000000) (by omega) (by omega) (by omega) (by omega)
      omega
    · split
      · have r3 := pF_r ok (r := (tos T c - 10).toNat) (p := p) (by have := ok.2.2.1; have := ou.1; omega) hp
        have := mul_r (x := te T r c / tD T) (y := pF K (tos T c - 10).toNat p) (a := 1000000000) (b := 999) (by omega) (by omega) (by omega) (by omega)
        omega
      · omega
theorem sumF_r {K : PK} {U : CU} {T : TB} (o : tOK T) (ok : pOK K) (ou : cOK (pN K) U) (og : gOK K U T) {r p : Nat} (hr : r < tR T) (hp : p ≤ pN K) : ∀ c : Nat, c ≤ tC T → -1000000001 - 1000000000000000000 * (c : Int) ≤ sumF K U T r p c ∧ sumF K U T r p c ≤ 1000000001 + 1000000000000000000 * (c : Int) := by
  intro c
  induction c with
  | zero =>
    intro _
    have d1 := o.2.2.2.2.1
    have r1 := o.2.2.2.2.2.2.2.2.2.1 r hr
    have r2 := ed_n (x := tri T r) (y := tD T) (b := 1000000001) (by omega) (by omega) (by omega)
    unfold sumF
    split
    · omega
    · split <;> omega
  | succ c ih =>
    intro hc
    have h1 := ih (by omega)
    have h2 := termF_r o ok ou og hr hp (show c < tC T by omega)
    unfold sumF
    omega
theorem Q2_50 {d : Nat} {L : j_B} {n : Nat} {U : CU} {m : j_M0} (v : uC 50 n U m) (hn : n ≤ 5) (hN : cN U ≤ 12) {k p : Nat} (hk : k < cN U) (hp : p ≤ n) : c_call (d + 1) 2 [jR 50, jI k, jI p] (hH L m) = some (some (jL (cF U k p)), hH L m) := by
  have k1 := v.2.2.1 k p hk hp
  simp only [Nat.reduceAdd] at k1
  rw [E2, T2_0_50]
  simp (disch := omega) only [w32_id, show ((k : Int) * 6 + (p : Int)).toNat = 6 * k + p by omega, k1]
  rw [if_pos (by omega)]
theorem Q2_64 {d : Nat} {L : j_B} {n : Nat} {U : CU} {m : j_M0} (v : uC 64 n U m) (hn : n ≤ 5) (hN : cN U ≤ 12) {k p : Nat} (hk : k < cN U) (hp : p ≤ n) : c_call (d + 1) 2 [jR 64, jI k, jI p] (hH L m) = some (some (jL (cF U k p)), hH L m) := by
  have k1 := v.2.2.1 k p hk hp
  simp only [Nat.reduceAdd] at k1
  rw [E2, T2_0_64]
  simp (disch := omega) only [w32_id, show ((k : Int) * 6 + (p : Int)).toNat = 6 * k + p by omega, k1]
  rw [if_pos (by omega)]
theorem Q13f_4 {d : Nat} {L : j_B} {K : PK} {m : j_M0} (w : vP 4 K m) {r p : Nat} (hr : r < pR K) (hp : p ≤ pN K) : c_call (d + 2) 13 [jR 4, jI r, jI p] (hH L m) = some (some (jI (pF K r p)), hH L m) := by
  have o := vP_ok w
  have o1 := o.2.1
  have o2 := o.2.2.1
  have k1 := w.2.1
  unfold pF
  by_cases e : p = pN K
  · rw [if_pos e, Q13n_4 w.1 (by omega) (by omega) (by omega), Int.toNat_natCast, w.2.2.2.2.2 r hr]
  · rw [if_neg e, Q13_4 w.1 (by omega) (by omega) (by omega) (by omega), Int.toNat_natCast, Int.toNat_natCast, w.2.2.2.2.1 r p hr (by omega)]
theorem Q13f_35 {d : Nat} {L : j_B} {K : PK} {m : j_M0} (w : vP 35 K m) {r p : Nat} (hr : r < pR K) (hp : p ≤ pN K) : c_call (d + 2) 13 [jR 35, jI r, jI p] (hH L m) = some (some (jI (pF K r p)), hH L m) := by
  have o := vP_ok w
  have o1 := o.2.1
  have o2 := o.2.2.1
  have k1 := w.2.1
  unfold pF
  by_cases e : p = pN K
  · rw [if_pos e, Q13n_35 w.1 (by omega) (by omega) (by omega), Int.toNat_natCast, w.2.2.2.2.2 r hr]
  · rw [if_neg e, Q13_35 w.1 (by omega) (by omega) (by omega) (by omega), Int.toNat_natCast, Int.toNat_natCast, w.2.2.2.2.1 r p hr (by omega)]
