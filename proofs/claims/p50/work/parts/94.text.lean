/-! A text, read: as a function. -/
/-! a text, read -/
def chT (t : Nat → Int) (N k : Nat) : Int := if k < N then t k else -1
def tmK (t : Nat → Int) (N k : Nat) : Nat := if 48 ≤ chT t N k ∧ chT t N k ≤ 57 then k + 1 else k
def tmV (t : Nat → Int) (N k : Nat) : Int := if 48 ≤ chT t N k ∧ chT t N k ≤ 57 then chT t N k - 48 else 1
def facR (S : Nat → Int) (c : Nat) : Prop := ∀ p : Nat, p < 5 → -9 ≤ S (7 * c + 2 + p) ∧ S (7 * c + 2 + p) ≤ 9
def txO (t : Nat → Int) (N : Nat) : Prop := N ≤ 80 ∧ ∀ i : Nat, i < N → 0 ≤ t i ∧ t i ≤ 127
theorem chT_r {t : Nat → Int} {N : Nat} (o : txO t N) (k : Nat) : -1 ≤ chT t N k ∧ chT t N k ≤ 127 := by
  unfold chT
  split
  · have := o.2 k (by omega)
    omega
  · omega
theorem chT_n {t : Nat → Int} {N k : Nat} (h : N ≤ k) : chT t N k = -1 := if_neg (by omega)
theorem chT_k {t : Nat → Int} {N k : Nat} (h : 0 ≤ chT t N k) : k < N := by
  unfold chT at h
  split at h
  · assumption
  · omega
theorem tmK_p {t : Nat → Int} {N k : Nat} (h : k ≤ N) : k ≤ tmK t N k ∧ tmK t N k ≤ N := by
  unfold tmK
  split
  · rename_i h1
    have := chT_k (t := t) (N := N) (k := k) (by omega)
    omega
  · omega
theorem tmV_r (t : Nat → Int) (N k : Nat) : 0 ≤ tmV t N k ∧ tmV t N k ≤ 9 := by
  unfold tmV
  split <;> omega
def miS (t : Nat → Int) (N k : Nat) : Int := if chT t N k = 45 then -1 else 1
def miK (t : Nat → Int) (N k : Nat) : Nat := if chT t N k = 45 then k + 1 else k
theorem miK_p {t : Nat → Int} {N k : Nat} (h : k ≤ N) : k ≤ miK t N k ∧ miK t N k ≤ N := by
  unfold miK
  split
  · have := chT_k (t := t) (N := N) (k := k) (by omega)
    omega
  · omega
/-- digits of a bound: how many are left, behind a minus or not -/
def bnL (t : Nat → Int) (N : Nat) (s : Int) : Nat → Nat → Int → Bool × Nat × Int
  | 0, k, v => (true, k, v)
  | j + 1, k, v => if 48 ≤ chT t N k ∧ chT t N k ≤ 57 then (if s < 0 ∧ 99 < 10 * v + (chT t N k - 48) then (false, k, v) else bnL t N s j (k + 1) (10 * v + (chT t N k - 48))) else (true, k, v)
def bdF (t : Nat → Int) (N k : Nat) : Bool × Nat × Int := if 48 ≤ chT t N (miK t N k) ∧ chT t N (miK t N k) ≤ 57 then bnL t N (miS t N k) 3 (miK t N k) 0 else (false, miK t N k, 0)
def tnP : Nat → Int
  | 0 => 1
  | j + 1 => 10 * tnP j
theorem bnL_p {t : Nat → Int} {N : Nat} {s : Int} : ∀ (j k : Nat) (v : Int), k ≤ N → (0 ≤ v ∧ (s < 0 → v ≤ 99)) → (bnL t N s j k v).2.1 ≤ N ∧ 0 ≤ (bnL t N s j k v).2.2 ∧ (s < 0 → (bnL t N s j k v).2.2 ≤ 99) ∧ (bnL t N s j k v).2.2 + 1 ≤ (v + 1) * tnP j := by
  intro j
  induction j with
  | zero =>
    intro k v hk hv
    unfold bnL tnP
    exact ⟨hk, hv.1, hv.2, by show v + 1 ≤ (v + 1) * 1; omega⟩
  | succ j ih =>
    intro k v hk hv
    have tp : ∀ j : Nat, 1 ≤ tnP j := fun j => by
      induction j with
      | zero => exact Int.le_refl 1
      | succ j ih => unfold tnP; omega
    have big : (v + 1) ≤ (v + 1) * tnP (j + 1) := by
      have := Int.mul_le_mul_of_nonneg_left (tp (j + 1)) (show 0 ≤ v + 1 by omega)
      omega
    unfold bnL
    by_cases e : 48 ≤ chT t N k ∧ chT t N k ≤ 57
    · have b := chT_k (t := t) (N := N) (k := k) (by omega)
      rw [if_pos e]
      by_cases e2 : s < 0 ∧ 99 < 10 * v + (chT t N k - 48)
      · rw [if_pos e2]
        exact ⟨hk, hv.1, hv.2, big⟩
      · rw [if_neg e2]
        obtain ⟨q1, q2, q3, q4⟩ := ih (k + 1) (10 * v + (chT t N k - 48)) (by omega) ⟨by omega, fun h => by omega⟩
        refine ⟨q1, q2, q3, Int.le_trans q4 ?_⟩
        have m1 : 10 * v + (chT t N k - 48) + 1 ≤ 10 * (v + 1) := by omega
        have m2 := Int.mul_le_mul_of_nonneg_right m1 (show 0 ≤ tnP j by have := tp j; omega)
        have m3 : 10 * (v + 1) * tnP j = (v + 1) * tnP (j + 1) := by
          rw [tnP, Int.mul_comm 10 (v + 1), Int.mul_assoc]
        omega
    · rw [if_neg e]
      exact ⟨hk, hv.1, hv.2, big⟩
theorem bdF_p {t : Nat → Int} {N k : Nat} (hk : k ≤ N) : (bdF t N k).2.1 ≤ N ∧ -99 ≤ miS t N k * (bdF t N k).2.2 ∧ miS t N k * (bdF t N k).2.2 ≤ 999 := by
  have a := miK_p (t := t) hk
  unfold bdF
  split
  · obtain ⟨q1, q2, q3, q4⟩ := bnL_p (t := t) (N := N) (s := miS t N k) 3 (miK t N k) 0 a.2 (by omega)
    have e : (0 + 1) * tnP 3 = 1000 := rfl
    rw [e] at q4
    generalize bnL t N (miS t N k) 3 (miK t N k) 0 = w at q1 q2 q3 q4 ⊢
    refine ⟨q1, ?_⟩
    unfold miS at q3 ⊢
    by_cases h : chT t N k = 45
    · rw [if_pos h] at q3 ⊢
      have := q3 (by omega)
      omega
    · rw [if_neg h] at q3 ⊢
      omega
  · exact ⟨a.2, by show -99 ≤ miS t N k * 0; omega, by show miS t N k * 0 ≤ 999; omega⟩
def zeT (S : Nat → Int) (c : Nat) : Nat → Int := fun i => if 7 * c ≤ i ∧ i < 7 * c + 7 then 0 else S i
/-- a clause is fit for a rule -/
def clR (S : Nat → Int) (c : Nat) : Prop := (S (7 * c) = 0 ∨ S (7 * c) = 1) ∧ (-99 ≤ S (7 * c + 1) ∧ S (7 * c + 1) ≤ 999) ∧ facR S c
theorem zeT_f (S : Nat → Int) (c : Nat) : facR (zeT S c) c := fun p hp => by
  unfold zeT
  rw [if_pos (by omega)]
  omega
