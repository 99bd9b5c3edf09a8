/-! Digits, the box. -/
/-- digits, told as a number by a base -/
def horF (B : Int) (δ : Nat → Int) : Nat → Int
  | 0 => 0
  | n + 1 => horF B δ n * B + δ n
def cstF (c δ : Nat → Int) : Nat → Int
  | 0 => 0
  | n + 1 => cstF c δ n + δ n * c n
theorem horF_g {B : Int} {δ ε : Nat → Int} : ∀ n : Nat, (∀ q, q < n → ε q = δ q) → horF B ε n = horF B δ n := by
  intro n
  induction n with
  | zero => intro _; rfl
  | succ n ih =>
    intro h
    unfold horF
    rw [ih (fun q hq => h q (by omega)), h n (by omega)]
theorem cstF_g {c δ ε : Nat → Int} : ∀ n : Nat, (∀ q, q < n → ε q = δ q) → cstF c ε n = cstF c δ n := by
  intro n
  induction n with
  | zero => intro _; rfl
  | succ n ih =>
    intro h
    unfold cstF
    rw [ih (fun q hq => h q (by omega)), h n (by omega)]
theorem setL_eq {δ : Nat → Int} {p : Nat} {v : Int} : setL δ p v p = v := if_pos rfl
theorem setL_ne {δ : Nat → Int} {p q : Nat} {v : Int} (h : q ≠ p) : setL δ p v q = δ q := if_neg h
theorem horF_set {δ : Nat → Int} {p : Nat} {v : Int} : ∀ n : Nat, p < n → horF 10 (setL δ p v) n = horF 10 δ n + (v - δ p) * tenF (n - 1 - p) := by
  intro n
  induction n with
  | zero => intro h; omega
  | succ n ih =>
    intro h
    unfold horF
    by_cases e : p = n
    · subst e
      rw [setL_eq, horF_g (δ := δ) p (fun q hq => setL_ne (by omega)), show p + 1 - 1 - p = 0 by omega, tenF]
      omega
    · rw [setL_ne (by omega), ih (by omega), show n + 1 - 1 - p = (n - 1 - p) + 1 by omega, tenF]
      grind
theorem cstF_set {c δ : Nat → Int} {p : Nat} {v : Int} : ∀ n : Nat, p < n → cstF c (setL δ p v) n = cstF c δ n + (v - δ p) * c p := by
  intro n
  induction n with
  | zero => intro h; omega
  | succ n ih =>
    intro h
    unfold cstF
    by_cases e : p = n
    · subst e
      rw [setL_eq, cstF_g (δ := δ) p (fun q hq => setL_ne (by omega))]
      grind
    · rw [setL_ne (by omega), ih (by omega)]
      grind
theorem tenF_r : ∀ n : Nat, n ≤ 5 → 1 ≤ tenF n ∧ tenF n ≤ 100000 := by
  intro n h
  match n, h with
  | 0, _ => decide
  | 1, _ => decide
  | 2, _ => decide
  | 3, _ => decide
  | 4, _ => decide
  | 5, _ => decide
theorem horF_r {δ : Nat → Int} : ∀ n : Nat, (∀ q, q < n → 0 ≤ δ q ∧ δ q ≤ 9) → 0 ≤ horF 10 δ n ∧ horF 10 δ n < tenF n := by
  intro n
  induction n with
  | zero => intro _; unfold horF tenF; omega
  | succ n ih =>
    intro h
    have a := ih (fun q hq => h q (by omega))
    have b := h n (by omega)
    unfold horF tenF
    omega
theorem cstF_r {c δ : Nat → Int} {M : Int} : ∀ n : Nat, (∀ q, q < n → (0 ≤ δ q ∧ δ q ≤ 9) ∧ -M ≤ c q ∧ c q ≤ M) → -(9 * M * (n : Int)) ≤ cstF c δ n ∧ cstF c δ n ≤ 9 * M * (n : Int) := by
  intro n
  induction n with
  | zero => intro _; unfold cstF; omega
  | succ n ih =>
    intro h
    have a := ih (fun q hq => h q (by omega))
    have b := h n (by omega)
    have d := mul_r (x := δ n) (y := c n) (a := 9) (b := M) (by omega) (by omega) (by omega) (by omega)
    unfold cstF
    have e : 9 * M * ((n + 1 : Nat) : Int) = 9 * M * (n : Int) + 9 * M := by grind
    omega
/-- digits from a number -/
theorem digF_hor {δ : Nat → Int} : ∀ n p : Nat, p < n → (∀ q, q < n → 0 ≤ δ q ∧ δ q ≤ 9) → digF n p (horF 10 δ n) = δ p := by
  intro n
  induction n with
  | zero => intro p h; omega
  | succ n ih =>
    intro p hp h
    have b := h n (by omega)
    unfold digF
    by_cases e : p = n
    · subst e
      rw [show p + 1 - 1 - p = 0 by omega, tenF, horF, Int.ediv_one]
      omega
    · have i := ih p (by omega) (fun q hq => h q (by omega))
      unfold digF at i
      have t := tenF (n - 1 - p)
      rw [show n + 1 - 1 - p = (n - 1 - p) + 1 by omega, tenF, horF, ← Int.ediv_ediv_of_nonneg (show (0 : Int) ≤ 10 by decide), show (horF 10 δ n * 10 + δ n) / 10 = horF 10 δ n by omega]
      exact i
theorem hor_digF : ∀ (n : Nat) (x : Int), 0 ≤ x → x < tenF n → horF 10 (fun p => digF n p x) n = x := by
  intro n
  induction n with
  | zero =>
    intro x h h'
    unfold tenF at h'
    unfold horF
    omega
  | succ n ih =>
    intro x h h'
    unfold tenF at h'
    have i := ih (x / 10) (by omega) (by omega)
    unfold horF
    have e : horF 10 (fun p => digF (n + 1) p x) n = horF 10 (fun p => digF n p (x / 10)) n := by
      refine horF_g n (fun q hq => ?_)
      unfold digF
      rw [show n + 1 - 1 - q = (n - 1 - q) + 1 by omega, tenF, ← Int.ediv_ediv_of_nonneg (show (0 : Int) ≤ 10 by decide)]
    have e2 : digF (n + 1) n x = x % 10 := by
      unfold digF
      rw [show n + 1 - 1 - n = 0 by omega, tenF, Int.ediv_one]
    rw [e, i, e2]
    omega
theorem digF_r (n p : Nat) (x : Int) : 0 ≤ digF n p x ∧ digF n p x ≤ 9 := by
  unfold digF
  omega
theorem cosS_c {g : Nat → Int} {n : Nat} {x : Int} : ∀ p : Nat, cosS g n x p = cstF (fun q => g (7 + q)) (fun q => digF n q x) p := by
  intro p
  induction p with
  | zero => rfl
  | succ p ih =>
    unfold cosS cstF
    rw [ih]
/-! the next mix of the box -/
def incF (b : Int) : Nat → (Nat → Int) → (Nat → Int) × Bool
  | 0, δ => (δ, true)
  | n + 1, δ => if δ n < b then (setL δ n (δ n + 1), false) else incF b n (setL δ n 0)
theorem incF_ge {b : Int} : ∀ (n : Nat) (δ : Nat → Int) (q : Nat), n ≤ q → (incF b n δ).1 q = δ q := by
  intro n
  induction n with
  | zero => intro δ q _; rfl
  | succ n ih =>
    intro δ q h
    unfold incF
    split
    · exact setL_ne (by omega)
    · rw [ih _ q (by omega)]
      exact setL_ne (by omega)
theorem incF_r {b : Int} (hb : 0 ≤ b) : ∀ (n : Nat) (δ : Nat → Int), (∀ q, q < n → 0 ≤ δ q ∧ δ q ≤ b) → ∀ q, q < n → 0 ≤ (incF b n δ).1 q ∧ (incF b n δ).1 q ≤ b := by
  intro n
  induction n with
  | zero => intro δ _ q h; omega
  | succ n ih =>
    intro δ h q hq
    have a := h n (by omega)
    unfold incF
    split
    · show 0 ≤ setL δ n (δ n + 1) q ∧ setL δ n (δ n + 1) q ≤ b
      by_cases e : q = n
      · subst e; rw [setL_eq]; omega
      · rw [setL_ne e]; exact h q hq
    · by_cases e : q = n
      · subst e
        rw [incF_ge q _ q (Nat.le_refl q), setL_eq]
        omega
      · exact ih (setL δ n 0) (fun z hz => by rw [setL_ne (by omega)]; exact h z (by omega)) q (by omega)
theorem incF_h {b : Int} : ∀ (n : Nat) (δ : Nat → Int), (∀ q, q < n → 0 ≤ δ q ∧ δ q ≤ b) → ((incF b n δ).2 = false → horF (b + 1) (incF b n δ).1 n = horF (b + 1) δ n + 1) ∧ ((incF b n δ).2 = true → horF (b + 1) δ n + 1 = (b + 1) ^ n ∧ horF (b + 1) (incF b n δ).1 n = 0) := by
  intro n
  induction n with
  | zero =>
    intro δ _
    exact And.intro (fun h => absurd (show true = false from h) (by decide)) (fun _ => And.intro (by rw [Int.pow_zero]; rfl) rfl)
  | succ n ih =>
    intro δ h
    have a := h n (by omega)
    unfold incF
    by_cases e : δ n < b
    · rw [if_pos e]
      refine ⟨fun _ => ?_, fun h => by cases h⟩
      show horF (b + 1) (setL δ n (δ n + 1)) (n + 1) = _
      unfold horF
      rw [setL_eq, horF_g (δ := δ) n (fun q hq => setL_ne (by omega))]
      omega
    · rw [if_neg e]
      have i := ih (setL δ n 0) (fun q hq => by rw [setL_ne (by omega)]; exact h q (by omega))
      rw [horF_g (ε := setL δ n 0) (δ := δ) n (fun q hq => setL_ne (by omega))] at i
      have z : (incF b n (setL δ n 0)).1 n = 0 := by rw [incF_ge n _ n (Nat.le_refl n), setL_eq]
      unfold horF
      rw [z]
      refine ⟨fun h1 => ?_, fun h1 => ?_⟩
      · rw [i.1 h1]
        have : δ n = b := by omega
        grind
      · have j := i.2 h1
        have : δ n = b := by omega
        rw [j.2, Int.pow_succ]
        refine ⟨?_, by omega⟩
        grind
/-- the k-th mix of the box -/
def boxD (b : Int) (n : Nat) : Nat → Nat → Int
  | 0 => fun _ => 0
  | k + 1 => (incF b n (boxD b n k)).1
theorem boxD_r {b : Int} (hb : 0 ≤ b) (n : Nat) : ∀ k q : Nat, q < n → 0 ≤ boxD b n k q ∧ boxD b n k q ≤ b := by
  intro k
  induction k with
  | zero =>
    intro q _
    show 0 ≤ (0 : Int) ∧ (0 : Int) ≤ b
    omega
  | succ k ih =>
    intro q hq
    exact incF_r hb n _ ih q hq
theorem horF_0 {B : Int} : ∀ n : Nat, horF B (fun _ => 0) n = 0 := by
  intro n
  induction n with
  | zero => rfl
  | succ n ih => unfold horF; rw [ih]; omega
theorem horF_n {b : Int} {δ : Nat → Int} (hb : 0 ≤ b) : ∀ n : Nat, (∀ q, q < n → 0 ≤ δ q ∧ δ q ≤ b) → 0 ≤ horF (b + 1) δ n ∧ horF (b + 1) δ n + 1 ≤ (b + 1) ^ n := by
  intro n
  induction n with
  | zero => intro _; unfold horF; refine ⟨Int.le_refl _, ?_⟩; rw [Int.pow_zero]; decide
  | succ n ih =>
    intro h
    have a := ih (fun q hq => h q (by omega))
    have c := h n (by omega)
    unfold horF
    rw [Int.pow_succ]
    have d : (horF (b + 1) δ n + 1) * (b + 1) ≤ (b + 1) ^ n * (b + 1) := Int.mul_le_mul_of_nonneg_right a.2 (by omega)
    have e : 0 ≤ horF (b + 1) δ n * (b + 1) := Int.mul_nonneg a.1 (by omega)
    refine ⟨by omega, ?_⟩
    have f : (horF (b + 1) δ n + 1) * (b + 1) = horF (b + 1) δ n * (b + 1) + (b + 1) := by grind
    omega
theorem boxD_k {b : Int} (hb : 0 ≤ b) (n : Nat) : ∀ k : Nat, (k : Int) < (b + 1) ^ n → horF (b + 1) (boxD b n k) n = k := by
  intro k
  induction k with
  | zero => intro _; exact horF_0 n
  | succ k ih =>
    intro hk
    have i := ih (by omega)
    have a := incF_h n (boxD b n k) (boxD_r hb n k)
    show horF (b + 1) (incF b n (boxD b n k)).1 n = _
    cases e : (incF b n (boxD b n k)).2 with
    | false => rw [a.1 e, i]; omega
    | true => have := a.2 e; omega
theorem boxD_c {b : Int} (hb : 0 ≤ b) (n k : Nat) (hk : (k : Int) < (b + 1) ^ n) : (incF b n (boxD b n k)).2 = true ↔ (k : Int) + 1 = (b + 1) ^ n := by
  have a := incF_h n (boxD b n k) (boxD_r hb n k)
  have i := boxD_k hb n k hk
  constructor
  · intro h
    have := a.2 h
    omega
  · intro h
    cases e : (incF b n (boxD b n k)).2 with
    | true => rfl
    | false =>
      have j := a.1 e
      have r := horF_n hb n (incF_r hb n _ (boxD_r hb n k))
      omega
