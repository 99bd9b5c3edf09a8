/-! Digits, the box. -/
/-- digits, told as a number by a base -/
def horF (B : Int) (δ : Nat → Int) : Nat → Int
  | 0 => 0
  | n + 1 => horF B δ n * B + δ n
def cstF (c δ : Nat → Int) : Nat → Int
  | 0 => 0
  | n + 1 => cstF c δ n + δ n * c n
theorem horF_g {B : Int} {δ ε : Nat → Int} : ∀ n : Nat, (∀ q, q < n → ε q = δ q) → horF B ε n = horF B δ n := by
  intro n
  induction n with
  | zero => intro _; rfl
  | succ n ih =>
    intro h
    unfold horF
    rw [ih (fun q hq => h q (by omega)), h n (by omega)]
theorem cstF_g {c δ ε : Nat → Int} : ∀ n : Nat, (∀ q, q < n → ε q = δ q) → cstF c ε n = cstF c δ n := by
  intro n
  induction n with
  | zero => intro _; rfl
  | succ n ih =>
    intro h
    unfold cstF
    rw [ih (fun q hq => h q (by omega)), h n (by omega)]
theorem tenF_r : ∀ n : Nat, n ≤ 5 → 1 ≤ tenF n ∧ tenF n ≤ 100000 := by
  intro n h
  match n, h with
  | 0, _ => decide
  | 1, _ => decide
  | 2, _ => decide
  | 3, _ => decide
  | 4, _ => decide
  | 5, _ => decide
theorem horF_r {δ : Nat → Int} : ∀ n : Nat, (∀ q, q < n → 0 ≤ δ q ∧ δ q ≤ 9) → 0 ≤ horF 10 δ n ∧ horF 10 δ n < tenF n := by
  intro n
  induction n with
  | zero => intro _; unfold horF tenF; omega
  | succ n ih =>
    intro h
    have a := ih (fun q hq => h q (by omega))
    have b := h n (by omega)
    unfold horF tenF
    omega
theorem cstF_r {c δ : Nat → Int} {M : Int} : ∀ n : Nat, (∀ q, q < n → (0 ≤ δ q ∧ δ q ≤ 9) ∧ -M ≤ c q ∧ c q ≤ M) → -(9 * M * (n : Int)) ≤ cstF c δ n ∧ cstF c δ n ≤ 9 * M * (n : Int) := by
  intro n
  induction n with
  | zero => intro _; unfold cstF; omega
  | succ n ih =>
    intro h
    have a := ih (fun q hq => h q (by omega))
    have b := h n (by omega)
    have d := mul_r (x := δ n) (y := c n) (a := 9) (b := M) (by omega) (by omega) (by omega) (by omega)
    unfold cstF
    have e : 9 * M * ((n + 1 : Nat) : Int) = 9 * M * (n : Int) + 9 * M := by grind
    omega
/-- digits from a number -/
theorem digF_hor {δ : Nat → Int} : ∀ n p : Nat, p < n → (∀ q, q < n → 0 ≤ δ q ∧ δ q ≤ 9) → digF n p (horF 10 δ n) = δ p := by
  intro n
  induction n with
  | zero => intro p h; omega
  | succ n ih =>
    intro p hp h
    have b := h n (by omega)
    unfold digF
    by_cases e : p = n
    · subst e
      rw [show p + 1 - 1 - p = 0 by omega, tenF, horF, Int.ediv_one]
      omega
    · have i := ih p (by omega) (fun q hq => h q (by omega))
      unfold digF at i
      have t := tenF (n - 1 - p)
      rw [show n + 1 - 1 - p = (n - 1 - p) + 1 by omega, tenF, horF, ← Int.ediv_ediv_of_nonneg (show (0 : Int) ≤ 10 by decide), show (horF 10 δ n * 10 + δ n) / 10 = horF 10 δ n by omega]
      exact i
theorem hor_digF : ∀ (n : Nat) (x : Int), 0 ≤ x → x < tenF n → horF 10 (fun p => digF n p x) n = x := by
  intro n
  induction n with
  | zero =>
    intro x h h'
    unfold tenF at h'
    unfold horF
    omega
  | succ n ih =>
    intro x h h'
    unfold tenF at h'
    have i := ih (x / 10) (by omega) (by omega)
    unfold horF
    have e : horF 10 (fun p => digF (n + 1) p x) n = horF 10 (fun p => digF n p (x / 10)) n := by
      refine horF_g n (fun q hq => ?_)
      unfold digF
      rw [show n + 1 - 1 - q = (n - 1 - q) + 1 by omega, tenF, ← Int.ediv_ediv_of_nonneg (show (0 : Int) ≤ 10 by decide)]
    have e2 : digF (n + 1) n x = x % 10 := by
      unfold digF
      rw [show n + 1 - 1 - n = 0 by omega, tenF, Int.ediv_one]
    rw [e, i, e2]
    omega
theorem digF_r (n p : Nat) (x : Int) : 0 ≤ digF n p x ∧ digF n p x ≤ 9 := by
  unfold digF
  omega
theorem cosS_c {g : Nat → Int} {n : Nat} {x : Int} : ∀ p : Nat, cosS g n x p = cstF (fun q => g (7 + q)) (fun q => digF n q x) p := by
  intro p
  induction p with
  | zero => rfl
  | succ p ih =>
    unfold cosS cstF
    rw [ih]
/-! the next mix of the box -/
theorem horF_0 {B : Int} : ∀ n : Nat, horF B (fun _ => 0) n = 0 := by
  intro n
  induction n with
  | zero => rfl
  | succ n ih => unfold horF; rw [ih]; omega
theorem horF_n {b : Int} {δ : Nat → Int} (hb : 0 ≤ b) : ∀ n : Nat, (∀ q, q < n → 0 ≤ δ q ∧ δ q ≤ b) → 0 ≤ horF (b + 1) δ n ∧ horF (b + 1) δ n + 1 ≤ (b + 1) ^ n := by
  intro n
  induction n with
  | zero => intro _; unfold horF; refine ⟨Int.le_refl _, ?_⟩; rw [Int.pow_zero]; decide
  | succ n ih =>
    intro h
    have a := ih (fun q hq => h q (by omega))
    have c := h n (by omega)
    unfold horF
    rw [Int.pow_succ]
    have d : (horF (b + 1) δ n + 1) * (b + 1) ≤ (b + 1) ^ n * (b + 1) := Int.mul_le_mul_of_nonneg_right a.2 (by omega)
    have e : 0 ≤ horF (b + 1) δ n * (b + 1) := Int.mul_nonneg a.1 (by omega)
    refine ⟨by omega, ?_⟩
    have f : (horF (b + 1) δ n + 1) * (b + 1) = horF (b + 1) δ n * (b + 1) + (b + 1) := by grind
    omega
