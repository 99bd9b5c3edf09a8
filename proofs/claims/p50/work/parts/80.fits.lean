/-! fits. -/
/-! fits -/
theorem ff_n {p : Nat → Bool} : ∀ j k : Nat, ff p j k < 0 → ∀ i : Nat, k ≤ i → i < k + j → p i = false := by
  intro j
  induction j with
  | zero => intro k _ i h h'; omega
  | succ j ih =>
    intro k h i h1 h2
    unfold ff at h
    by_cases e : p k = true
    · rw [if_pos e] at h
      omega
    · rw [if_neg e] at h
      by_cases e2 : i = k
      · subst e2
        cases hp : p i with
        | false => rfl
        | true => exact absurd hp e
      · exact ih (k + 1) h i (by omega) (by omega)
/-- in a WHOLE table amounts of packs are whole -/
theorem whole_d {T : TB} (h : partF T < 0) {x : Int} (hx : x < 10) : rightF T x % tD T = 0 := by
  have b := ff_b (fun i => decide (tow T i = x)) (tR T) 0
  unfold rightF
  by_cases e : rowF T x < 0
  · rw [if_pos e]
    exact Int.zero_emod _
  · rw [if_neg e]
    have e2 : rowF T x = ff (fun i => decide (tow T i = x)) (tR T) 0 := rfl
    rw [← e2] at b
    rcases b with b | ⟨b1, b2, b3⟩
    · omega
    · have b4 := of_decide_eq_true b3
      have c := ff_n (tR T) 0 h (rowF T x).toNat (by omega) (by omega)
      have d := of_decide_eq_false c
      exact Classical.byContradiction (fun g => d ⟨by omega, g⟩)
theorem whole_q {T : TB} (o : tOK T) (h : partF T < 0) {x : Int} (hx : x < 10) (c : Int) : rightF T x / tD T = c ↔ rightF T x = c * tD T := by
  have d1 := o.2.2.2.2.1
  have e := whole_d h hx
  have f := Int.mul_ediv_add_emod (rightF T x) (tD T)
  rw [e, Int.add_zero] at f
  constructor
  · intro g
    rw [g] at f
    rw [← f, Int.mul_comm]
  · intro g
    rw [g, Int.mul_ediv_cancel _ (by omega)]
def fitP (g : Nat → Int) (K : PK) : Prop := (solF K 12).1 = 1 ∧ ∀ k : Nat, (k : Int) < g 4 → rightF (solF K 12).2.1 (g (76 + 2 * k)) / tD (solF K 12).2.1 = g (77 + 2 * k)
/-- how many of j from k on; the first -/
def cnV (p : Nat → Bool) : Nat → Nat → Int
  | 0, _ => 0
  | j + 1, k => (if p k = true then 1 else 0) + cnV p j (k + 1)
def fsV (p : Nat → Bool) : Nat → Nat → Int
  | 0, _ => -5
  | j + 1, k => if p k = true then 5 * (k : Int) else fsV p j (k + 1)
theorem cnV_r (p : Nat → Bool) : ∀ j k : Nat, 0 ≤ cnV p j k ∧ cnV p j k ≤ (j : Int) := by
  intro j
  induction j with
  | zero => intro k; exact ⟨Int.le_refl _, Int.le_refl _⟩
  | succ j ih =>
    intro k
    have := ih (k + 1)
    unfold cnV
    split <;> omega
theorem cnV_s (p : Nat → Bool) : ∀ j k : Nat, cnV p (j + 1) k = cnV p j k + (if p (k + j) = true then 1 else 0) := by
  intro j
  induction j with
  | zero => intro k; unfold cnV cnV; rw [Nat.add_zero]; omega
  | succ j ih =>
    intro k
    rw [cnV, ih (k + 1), cnV, show k + 1 + j = k + (j + 1) by omega]
    omega
theorem fsV_s (p : Nat → Bool) : ∀ j k : Nat, fsV p (j + 1) k = if cnV p j k = 0 then (if p (k + j) = true then 5 * ((k + j : Nat) : Int) else -5) else fsV p j k := by
  intro j
  induction j with
  | zero =>
    intro k
    unfold fsV fsV cnV
    rw [if_pos rfl, Nat.add_zero]
  | succ j ih =>
    intro k
    have r := cnV_r p j (k + 1)
    rw [fsV, ih (k + 1), cnV, fsV, show k + 1 + j = k + (j + 1) by omega]
    by_cases e : p k = true
    · rw [if_pos e, if_pos e, if_neg (by omega), if_pos e]
    · rw [if_neg e, if_neg e, if_neg e, Int.zero_add]
theorem worF_0 {K : PK} (ok : pOK K) : worF K < 0 ↔ ¬ (solF K 12).1 = 1 := by
  have p := solF_p ok (show 12 ≤ 12 by omega)
  have o := p.1.1
  have r7 := o.2.2.2.2.2.2.1
  have r5 := o.2.2.2.2.1
  have a1 := ed_r (x := tB (solF K 12).2.1) (y := tD (solF K 12).2.1) (by omega)
  unfold worF
  by_cases e : (solF K 12).1 = 1
  · rw [if_pos e]
    exact ⟨fun h => by omega, fun h => absurd e h⟩
  · rw [if_neg e]
    refine ⟨fun _ => e, fun _ => ?_⟩
    split <;> decide
theorem pkG_ok {g : Nat → Int} (h : gR g) : pOK (pkG g) := by
  obtain ⟨z1, z2, z3, z4, z5, z6, z7⟩ := h
  refine ⟨?_, ?_, ?_, fun p hp => z5 p ?_, fun q p hq hp => ?_, fun q hq => ?_⟩
  · show 1 ≤ (g 0).toNat
    omega
  · show (g 0).toNat ≤ 5
    omega
  · show (g 1).toNat ≤ 8
    omega
  · replace hp : p < (g 0).toNat := hp
    omega
  · replace hp : p < (g 0).toNat := hp
    replace hq : q < (g 1).toNat := hq
    have := z7 q p (by omega) (by omega)
    show -9 ≤ (if g (12 + 7 * q) = 0 then -(g (14 + 7 * q + p)) else g (14 + 7 * q + p)) ∧ (if g (12 + 7 * q) = 0 then -(g (14 + 7 * q + p)) else g (14 + 7 * q + p)) ≤ 9
    split <;> omega
  · replace hq : q < (g 1).toNat := hq
    have := z6 q (by omega)
    show -999 ≤ (if g (12 + 7 * q) = 0 then -(g (13 + 7 * q)) else g (13 + 7 * q)) ∧ (if g (12 + 7 * q) = 0 then -(g (13 + 7 * q)) else g (13 + 7 * q)) ≤ 999
    split <;> omega
