/-! Cuts by hand, mean, ruleOf, count. -/
/-! cuts by hand -/
def hsF (g : Nat → Int) (p : Nat) : Nat → Int
  | 0 => 0
  | r + 1 => hsF g p r + g (68 + r) * pF (pkG g) r p
def haF (g : Nat → Int) (p : Nat) : Int := hsF g p (g 1).toNat / g 2
theorem hsF_s {g : Nat → Int} (h : gR g) (hx : gX g) {p r : Nat} (hp : (p : Int) ≤ g 0) (hr : (r : Int) < g 1) : -8991 ≤ g (68 + r) * pF (pkG g) r p ∧ g (68 + r) * pF (pkG g) r p ≤ 8991 := by
  have h4 := h.2.2.2.1
  have a := hx.1 r (by omega)
  have b : -999 ≤ pF (pkG g) r p ∧ pF (pkG g) r p ≤ 999 := by
    have c1 := h.2.2.2.2.2.1 r (by omega)
    have h0 := h.1
    have h5 := h.2.1
    unfold pF
    split
    · show -999 ≤ (if g (12 + 7 * r) = 0 then -(g (13 + 7 * r)) else g (13 + 7 * r)) ∧ (if g (12 + 7 * r) = 0 then -(g (13 + 7 * r)) else g (13 + 7 * r)) ≤ 999
      split <;> omega
    · rename_i e
      replace e : ¬ p = (g 0).toNat := e
      have c2 := h.2.2.2.2.2.2 r p (by omega) (by omega)
      show -999 ≤ (if g (12 + 7 * r) = 0 then -(g (14 + 7 * r + p)) else g (14 + 7 * r + p)) ∧ (if g (12 + 7 * r) = 0 then -(g (14 + 7 * r + p)) else g (14 + 7 * r + p)) ≤ 999
      split <;> omega
  have := mul_r (x := g (68 + r)) (y := pF (pkG g) r p) (a := 9) (b := 999) (by omega) (by omega) (by omega) (by omega)
  omega
theorem hsF_r {g : Nat → Int} (h : gR g) (hx : gX g) {p : Nat} (hp : (p : Int) ≤ g 0) : ∀ r : Nat, (r : Int) ≤ g 1 → -8991 * (r : Int) ≤ hsF g p r ∧ hsF g p r ≤ 8991 * (r : Int) := by
  intro r
  induction r with
  | zero => intro _; unfold hsF; omega
  | succ r ih =>
    intro hr
    have a := ih (by omega)
    have b := hsF_s h hx hp (r := r) (by omega)
    unfold hsF
    omega
theorem haF_r {g : Nat → Int} (h : gR g) (hx : gX g) {p : Nat} (hp : (p : Int) ≤ g 0) : -100000 ≤ haF g p ∧ haF g p ≤ 100000 := by
  have h3 := h.2.2.1
  have h4 := h.2.2.2.1
  have a := hsF_r h hx hp (g 1).toNat (by omega)
  have b := hx.2.1
  have c := ed_n (x := hsF g p (g 1).toNat) (y := g 2) (b := 100000) (by omega) (by omega) (by omega)
  unfold haF
  omega
/-! bites -/
def baF (g : Nat → Int) (T : TB) : Nat → Int
  | 0 => 0
  | p + 1 => w64 (baF g T p + w64 (haF g p * rightF T (p : Int)))
def biF (g : Nat → Int) (T : TB) : Int := if w64 (haF g (g 0).toNat * tD T) < baF g T (g 0).toNat then 1 else 0
/-! mean -/
def meS (g : Nat → Int) : Nat → Int
  | 0 => 0
  | p + 1 => meS g p + g (7 + p)
theorem meS_r {g : Nat → Int} (h : gR g) : ∀ p : Nat, p ≤ 5 → 0 ≤ meS g p ∧ meS g p ≤ 99 * (p : Int) := by
  intro p
  induction p with
  | zero => intro _; unfold meS; omega
  | succ p ih =>
    intro hp
    have a := ih (by omega)
    have b := h.2.2.2.2.1 p (by omega)
    unfold meS
    omega
/-! ruleOf -/
/-! count -/
