/-! A text, read: as a function. -/
/-! a text, read -/
def chT (t : Nat → Int) (N k : Nat) : Int := if k < N then t k else -1
def tmK (t : Nat → Int) (N k : Nat) : Nat := if 48 ≤ chT t N k ∧ chT t N k ≤ 57 then k + 1 else k
def tmV (t : Nat → Int) (N k : Nat) : Int := if 48 ≤ chT t N k ∧ chT t N k ≤ 57 then chT t N k - 48 else 1
/-- a term -/
def tmF (t : Nat → Int) (N n c : Nat) (s : Int) (k : Nat) (S : Nat → Int) : Bool × Nat × (Nat → Int) :=
  if 97 ≤ chT t N (tmK t N k) ∧ chT t N (tmK t N k) ≤ 96 + (n : Int) then
    (if -9 ≤ S (7 * c + 2 + (chT t N (tmK t N k) - 97).toNat) + s * tmV t N k ∧ S (7 * c + 2 + (chT t N (tmK t N k) - 97).toNat) + s * tmV t N k ≤ 9 then (true, tmK t N k + 1, setL S (7 * c + 2 + (chT t N (tmK t N k) - 97).toNat) (S (7 * c + 2 + (chT t N (tmK t N k) - 97).toNat) + s * tmV t N k)) else (false, tmK t N k, S))
  else (false, tmK t N k, S)
def facR (S : Nat → Int) (c : Nat) : Prop := ∀ p : Nat, p < 5 → -9 ≤ S (7 * c + 2 + p) ∧ S (7 * c + 2 + p) ≤ 9
def txO (t : Nat → Int) (N : Nat) : Prop := N ≤ 80 ∧ ∀ i : Nat, i < N → 0 ≤ t i ∧ t i ≤ 127
theorem chT_r {t : Nat → Int} {N : Nat} (o : txO t N) (k : Nat) : -1 ≤ chT t N k ∧ chT t N k ≤ 127 := by
  unfold chT
  split
  · have := o.2 k (by omega)
    omega
  · omega
theorem chT_n {t : Nat → Int} {N k : Nat} (h : N ≤ k) : chT t N k = -1 := if_neg (by omega)
theorem chT_k {t : Nat → Int} {N k : Nat} (h : 0 ≤ chT t N k) : k < N := by
  unfold chT at h
  split at h
  · assumption
  · omega
theorem tmK_p {t : Nat → Int} {N k : Nat} (h : k ≤ N) : k ≤ tmK t N k ∧ tmK t N k ≤ N := by
  unfold tmK
  split
  · rename_i h1
    have := chT_k (t := t) (N := N) (k := k) (by omega)
    omega
  · omega
theorem tmV_r (t : Nat → Int) (N k : Nat) : 0 ≤ tmV t N k ∧ tmV t N k ≤ 9 := by
  unfold tmV
  split <;> omega
/-- what a term keeps -/
theorem tmF_p {t : Nat → Int} {N n c k : Nat} {s : Int} {S : Nat → Int} (hk : k ≤ N) (hn : n ≤ 5) (f : facR S c) : k ≤ (tmF t N n c s k S).2.1 ∧ (tmF t N n c s k S).2.1 ≤ N ∧ ((tmF t N n c s k S).1 = true → k < (tmF t N n c s k S).2.1 ∧ facR (tmF t N n c s k S).2.2 c) ∧ ∀ i : Nat, ¬ (7 * c + 2 ≤ i ∧ i < 7 * c + 7) → (tmF t N n c s k S).2.2 i = S i := by
  have a := tmK_p (t := t) hk
  unfold tmF
  by_cases e : 97 ≤ chT t N (tmK t N k) ∧ chT t N (tmK t N k) ≤ 96 + (n : Int)
  · have b := chT_k (t := t) (N := N) (k := tmK t N k) (by omega)
    rw [if_pos e]
    by_cases e2 : -9 ≤ S (7 * c + 2 + (chT t N (tmK t N k) - 97).toNat) + s * tmV t N k ∧ S (7 * c + 2 + (chT t N (tmK t N k) - 97).toNat) + s * tmV t N k ≤ 9
    · rw [if_pos e2]
      refine ⟨by show k ≤ tmK t N k + 1; omega, by show tmK t N k + 1 ≤ N; omega, fun _ => ⟨by show k < tmK t N k + 1; omega, fun p hp => ?_⟩, fun i hi => setL_ne (by omega)⟩
      show -9 ≤ setL S _ _ (7 * c + 2 + p) ∧ setL S _ _ (7 * c + 2 + p) ≤ 9
      by_cases e3 : p = (chT t N (tmK t N k) - 97).toNat
      · rw [e3, setL_eq]; exact e2
      · rw [setL_ne (by omega)]; exact f p hp
    · rw [if_neg e2]
      exact ⟨a.1, a.2, fun h => absurd (show false = true from h) (by decide), fun _ _ => rfl⟩
  · rw [if_neg e]
    exact ⟨a.1, a.2, fun h => absurd (show false = true from h) (by decide), fun _ _ => rfl⟩
/-- terms behind the first -/
def smL (t : Nat → Int) (N n c : Nat) : Nat → Nat → (Nat → Int) → Bool × Nat × (Nat → Int)
  | 0, k, S => (true, k, S)
  | u + 1, k, S => if chT t N k = 43 ∨ chT t N k = 45 then (if (tmF t N n c (if chT t N k = 45 then -1 else 1) (k + 1) S).1 = true then smL t N n c u (tmF t N n c (if chT t N k = 45 then -1 else 1) (k + 1) S).2.1 (tmF t N n c (if chT t N k = 45 then -1 else 1) (k + 1) S).2.2 else (false, (tmF t N n c (if chT t N k = 45 then -1 else 1) (k + 1) S).2.1, S)) else (true, k, S)
theorem smL_p {t : Nat → Int} {N n c : Nat} (hn : n ≤ 5) : ∀ (u k : Nat) (S : Nat → Int), k ≤ N → facR S c → (smL t N n c u k S).2.1 ≤ N ∧ ((smL t N n c u k S).1 = true → facR (smL t N n c u k S).2.2 c) ∧ ∀ i : Nat, ¬ (7 * c + 2 ≤ i ∧ i < 7 * c + 7) → (smL t N n c u k S).2.2 i = S i := by
  intro u
  induction u with
  | zero => intro k S hk f; exact ⟨hk, fun _ => f, fun _ _ => rfl⟩
  | succ u ih =>
    intro k S hk f
    unfold smL
    by_cases e : chT t N k = 43 ∨ chT t N k = 45
    · have b := chT_k (t := t) (N := N) (k := k) (by omega)
      rw [if_pos e]
      obtain ⟨p1, p2, p3, p4⟩ := tmF_p (t := t) (N := N) (n := n) (c := c) (k := k + 1) (s := if chT t N k = 45 then -1 else 1) (S := S) (by omega) hn f
      by_cases e2 : (tmF t N n c (if chT t N k = 45 then -1 else 1) (k + 1) S).1 = true
      · rw [if_pos e2]
        obtain ⟨q1, q2, q3⟩ := ih _ _ p2 (p3 e2).2
        exact ⟨q1, q2, fun i hi => (q3 i hi).trans (p4 i hi)⟩
      · rw [if_neg e2]
        exact ⟨p2, fun h => absurd (show false = true from h) (by decide), fun _ _ => rfl⟩
    · rw [if_neg e]
      exact ⟨hk, fun _ => f, fun _ _ => rfl⟩
def miS (t : Nat → Int) (N k : Nat) : Int := if chT t N k = 45 then -1 else 1
def miK (t : Nat → Int) (N k : Nat) : Nat := if chT t N k = 45 then k + 1 else k
/-- a sum -/
def smF (t : Nat → Int) (N n c k : Nat) (S : Nat → Int) : Bool × Nat × (Nat → Int) := if (tmF t N n c (miS t N k) (miK t N k) S).1 = true then smL t N n c 80 (tmF t N n c (miS t N k) (miK t N k) S).2.1 (tmF t N n c (miS t N k) (miK t N k) S).2.2 else (false, (tmF t N n c (miS t N k) (miK t N k) S).2.1, S)
theorem miK_p {t : Nat → Int} {N k : Nat} (h : k ≤ N) : k ≤ miK t N k ∧ miK t N k ≤ N := by
  unfold miK
  split
  · have := chT_k (t := t) (N := N) (k := k) (by omega)
    omega
  · omega
theorem smF_p {t : Nat → Int} {N n c k : Nat} {S : Nat → Int} (hn : n ≤ 5) (hk : k ≤ N) (f : facR S c) : (smF t N n c k S).2.1 ≤ N ∧ ((smF t N n c k S).1 = true → facR (smF t N n c k S).2.2 c) ∧ ∀ i : Nat, ¬ (7 * c + 2 ≤ i ∧ i < 7 * c + 7) → (smF t N n c k S).2.2 i = S i := by
  have a := miK_p (t := t) hk
  obtain ⟨p1, p2, p3, p4⟩ := tmF_p (t := t) (N := N) (n := n) (c := c) (k := miK t N k) (s := miS t N k) (S := S) a.2 hn f
  unfold smF
  by_cases e2 : (tmF t N n c (miS t N k) (miK t N k) S).1 = true
  · rw [if_pos e2]
    obtain ⟨q1, q2, q3⟩ := smL_p (t := t) (N := N) (c := c) hn 80 _ _ p2 (p3 e2).2
    exact ⟨q1, q2, fun i hi => (q3 i hi).trans (p4 i hi)⟩
  · rw [if_neg e2]
    exact ⟨p2, fun h => absurd (show false = true from h) (by decide), fun _ _ => rfl⟩
/-- digits of a bound: how many are left, behind a minus or not -/
def bnL (t : Nat → Int) (N : Nat) (s : Int) : Nat → Nat → Int → Bool × Nat × Int
  | 0, k, v => (true, k, v)
  | j + 1, k, v => if 48 ≤ chT t N k ∧ chT t N k ≤ 57 then (if s < 0 ∧ 99 < 10 * v + (chT t N k - 48) then (false, k, v) else bnL t N s j (k + 1) (10 * v + (chT t N k - 48))) else (true, k, v)
def bdF (t : Nat → Int) (N k : Nat) : Bool × Nat × Int := if 48 ≤ chT t N (miK t N k) ∧ chT t N (miK t N k) ≤ 57 then bnL t N (miS t N k) 3 (miK t N k) 0 else (false, miK t N k, 0)
def tnP : Nat → Int
  | 0 => 1
  | j + 1 => 10 * tnP j
theorem bnL_p {t : Nat → Int} {N : Nat} {s : Int} : ∀ (j k : Nat) (v : Int), k ≤ N → (0 ≤ v ∧ (s < 0 → v ≤ 99)) → (bnL t N s j k v).2.1 ≤ N ∧ 0 ≤ (bnL t N s j k v).2.2 ∧ (s < 0 → (bnL t N s j k v).2.2 ≤ 99) ∧ (bnL t N s j k v).2.2 + 1 ≤ (v + 1) * tnP j := by
  intro j
  induction j with
  | zero =>
    intro k v hk hv
    unfold bnL tnP
    exact ⟨hk, hv.1, hv.2, by show v + 1 ≤ (v + 1) * 1; omega⟩
  | succ j ih =>
    intro k v hk hv
    have tp : ∀ j : Nat, 1 ≤ tnP j := fun j => by
      induction j with
      | zero => exact Int.le_refl 1
      | succ j ih => unfold tnP; omega
    have big : (v + 1) ≤ (v + 1) * tnP (j + 1) := by
      have := Int.mul_le_mul_of_nonneg_left (tp (j + 1)) (show 0 ≤ v + 1 by omega)
      omega
    unfold bnL
    by_cases e : 48 ≤ chT t N k ∧ chT t N k ≤ 57
    · have b := chT_k (t := t) (N := N) (k := k) (by omega)
      rw [if_pos e]
      by_cases e2 : s < 0 ∧ 99 < 10 * v + (chT t N k - 48)
      · rw [if_pos e2]
        exact ⟨hk, hv.1, hv.2, big⟩
      · rw [if_neg e2]
        obtain ⟨q1, q2, q3, q4⟩ := ih (k + 1) (10 * v + (chT t N k - 48)) (by omega) ⟨by omega, fun h => by omega⟩
        refine ⟨q1, q2, q3, Int.le_trans q4 ?_⟩
        have m1 : 10 * v + (chT t N k - 48) + 1 ≤ 10 * (v + 1) := by omega
        have m2 := Int.mul_le_mul_of_nonneg_right m1 (show 0 ≤ tnP j by have := tp j; omega)
        have m3 : 10 * (v + 1) * tnP j = (v + 1) * tnP (j + 1) := by
          rw [tnP, Int.mul_comm 10 (v + 1), Int.mul_assoc]
        omega
    · rw [if_neg e]
      exact ⟨hk, hv.1, hv.2, big⟩
theorem bdF_p {t : Nat → Int} {N k : Nat} (hk : k ≤ N) : (bdF t N k).2.1 ≤ N ∧ -99 ≤ miS t N k * (bdF t N k).2.2 ∧ miS t N k * (bdF t N k).2.2 ≤ 999 := by
  have a := miK_p (t := t) hk
  unfold bdF
  split
  · obtain ⟨q1, q2, q3, q4⟩ := bnL_p (t := t) (N := N) (s := miS t N k) 3 (miK t N k) 0 a.2 (by omega)
    have e : (0 + 1) * tnP 3 = 1000 := rfl
    rw [e] at q4
    generalize bnL t N (miS t N k) 3 (miK t N k) 0 = w at q1 q2 q3 q4 ⊢
    refine ⟨q1, ?_⟩
    unfold miS at q3 ⊢
    by_cases h : chT t N k = 45
    · rw [if_pos h] at q3 ⊢
      have := q3 (by omega)
      omega
    · rw [if_neg h] at q3 ⊢
      omega
  · exact ⟨a.2, by show -99 ≤ miS t N k * 0; omega, by show miS t N k * 0 ≤ 999; omega⟩
def zeT (S : Nat → Int) (c : Nat) : Nat → Int := fun i => if 7 * c ≤ i ∧ i < 7 * c + 7 then 0 else S i
/-- a clause -/
def clF (t : Nat → Int) (N n c k : Nat) (S : Nat → Int) : Bool × Nat × (Nat → Int) :=
  if (smF t N n c k (zeT S c)).1 = true then
    (if chT t N (smF t N n c k (zeT S c)).2.1 = 62 ∨ chT t N (smF t N n c k (zeT S c)).2.1 = 60 then
      (if (bdF t N ((smF t N n c k (zeT S c)).2.1 + 1)).1 = true then (true, (bdF t N ((smF t N n c k (zeT S c)).2.1 + 1)).2.1, setL (setL (smF t N n c k (zeT S c)).2.2 (7 * c) (if chT t N (smF t N n c k (zeT S c)).2.1 = 62 then 0 else 1)) (7 * c + 1) (miS t N ((smF t N n c k (zeT S c)).2.1 + 1) * (bdF t N ((smF t N n c k (zeT S c)).2.1 + 1)).2.2))
        else (false, (bdF t N ((smF t N n c k (zeT S c)).2.1 + 1)).2.1, S))
      else (false, (smF t N n c k (zeT S c)).2.1, S))
    else (false, (smF t N n c k (zeT S c)).2.1, S)
/-- a clause is fit for a rule -/
def clR (S : Nat → Int) (c : Nat) : Prop := (S (7 * c) = 0 ∨ S (7 * c) = 1) ∧ (-99 ≤ S (7 * c + 1) ∧ S (7 * c + 1) ≤ 999) ∧ facR S c
theorem zeT_f (S : Nat → Int) (c : Nat) : facR (zeT S c) c := fun p hp => by
  unfold zeT
  rw [if_pos (by omega)]
  omega
theorem clF_p {t : Nat → Int} {N n c k : Nat} {S : Nat → Int} (hn : n ≤ 5) (hk : k ≤ N) : (clF t N n c k S).2.1 ≤ N ∧ ((clF t N n c k S).1 = true → clR (clF t N n c k S).2.2 c ∧ ∀ i : Nat, ¬ (7 * c ≤ i ∧ i < 7 * c + 7) → (clF t N n c k S).2.2 i = S i) := by
  obtain ⟨p1, p2, p3⟩ := smF_p (t := t) (N := N) (c := c) hn hk (zeT_f S c)
  unfold clF
  by_cases e1 : (smF t N n c k (zeT S c)).1 = true
  · rw [if_pos e1]
    by_cases e2 : chT t N (smF t N n c k (zeT S c)).2.1 = 62 ∨ chT t N (smF t N n c k (zeT S c)).2.1 = 60
    · have b := chT_k (t := t) (N := N) (k := (smF t N n c k (zeT S c)).2.1) (by omega)
      obtain ⟨q1, q2⟩ := bdF_p (t := t) (N := N) (k := (smF t N n c k (zeT S c)).2.1 + 1) (by omega)
      rw [if_pos e2]
      by_cases e3 : (bdF t N ((smF t N n c k (zeT S c)).2.1 + 1)).1 = true
      · rw [if_pos e3]
        refine ⟨q1, fun _ => ⟨⟨?_, ?_, fun p hp => ?_⟩, fun i hi => ?_⟩⟩
        · show setL (setL _ (7 * c) _) (7 * c + 1) _ (7 * c) = 0 ∨ setL (setL _ (7 * c) _) (7 * c + 1) _ (7 * c) = 1
          rw [setL_ne (by omega), setL_eq]
          split
          · exact Or.inl rfl
          · exact Or.inr rfl
        · show -99 ≤ setL (setL _ (7 * c) _) (7 * c + 1) _ (7 * c + 1) ∧ setL (setL _ (7 * c) _) (7 * c + 1) _ (7 * c + 1) ≤ 999
          rw [setL_eq]
          exact q2
        · show -9 ≤ setL (setL _ (7 * c) _) (7 * c + 1) _ (7 * c + 2 + p) ∧ setL (setL _ (7 * c) _) (7 * c + 1) _ (7 * c + 2 + p) ≤ 9
          rw [setL_ne (by omega), setL_ne (by omega)]
          exact p2 e1 p hp
        · show setL (setL _ (7 * c) _) (7 * c + 1) _ i = S i
          rw [setL_ne (by omega), setL_ne (by omega), p3 i (by omega)]
          unfold zeT
          rw [if_neg hi]
      · rw [if_neg e3]
        exact ⟨q1, fun h => absurd (show false = true from h) (by decide)⟩
    · rw [if_neg e2]
      exact ⟨p1, fun h => absurd (show false = true from h) (by decide)⟩
  · rw [if_neg e1]
    exact ⟨p1, fun h => absurd (show false = true from h) (by decide)⟩
/-- all clauses: r more may come -/
def alF (t : Nat → Int) (N n : Nat) : Nat → Nat → Nat → (Nat → Int) → Bool × Nat × Nat × (Nat → Int)
  | 0, c, k, S => (false, k, c, S)
  | r + 1, c, k, S => if (clF t N n c k S).1 = true then (if N ≤ (clF t N n c k S).2.1 then (true, (clF t N n c k S).2.1, c + 1, (clF t N n c k S).2.2) else if r ≠ 0 ∧ chT t N (clF t N n c k S).2.1 = 59 then alF t N n r (c + 1) ((clF t N n c k S).2.1 + 1) (clF t N n c k S).2.2 else (false, (clF t N n c k S).2.1, c, S)) else (false, (clF t N n c k S).2.1, c, S)
theorem alF_p {t : Nat → Int} {N n : Nat} (hn : n ≤ 5) : ∀ (r c k : Nat) (S : Nat → Int), r + c = 4 → k ≤ N → (∀ q : Nat, q < c → clR S q) → (alF t N n r c k S).2.1 ≤ N ∧ ((alF t N n r c k S).1 = true → 1 ≤ (alF t N n r c k S).2.2.1 ∧ (alF t N n r c k S).2.2.1 ≤ 4 ∧ ∀ q : Nat, q < (alF t N n r c k S).2.2.1 → clR (alF t N n r c k S).2.2.2 q) := by
  intro r
  induction r with
  | zero => intro c k S hr hk hS; exact ⟨hk, fun h => absurd (show false = true from h) (by decide)⟩
  | succ r ih =>
    intro c k S hr hk hS
    obtain ⟨p1, p2⟩ := clF_p (t := t) (N := N) (n := n) (c := c) (S := S) hn hk
    unfold alF
    by_cases e1 : (clF t N n c k S).1 = true
    · obtain ⟨p3, p4⟩ := p2 e1
      have hS' : ∀ q : Nat, q < c + 1 → clR (clF t N n c k S).2.2 q := fun q hq => by
        by_cases e : q = c
        · rw [e]; exact p3
        · have := hS q (by omega)
          unfold clR facR at this ⊢
          rw [p4 (7 * q) (by omega), p4 (7 * q + 1) (by omega)]
          refine ⟨this.1, this.2.1, fun p hp => ?_⟩
          rw [p4 (7 * q + 2 + p) (by omega)]
          exact this.2.2 p hp
      rw [if_pos e1]
      by_cases e2 : N ≤ (clF t N n c k S).2.1
      · rw [if_pos e2]
        exact ⟨p1, fun _ => ⟨by show 1 ≤ c + 1; omega, by show c + 1 ≤ 4; omega, hS'⟩⟩
      · rw [if_neg e2]
        by_cases e3 : r ≠ 0 ∧ chT t N (clF t N n c k S).2.1 = 59
        · rw [if_pos e3]
          exact ih (c + 1) _ _ (by omega) (by omega) hS'
        · rw [if_neg e3]
          exact ⟨p1, fun h => absurd (show false = true from h) (by decide)⟩
    · rw [if_neg e1]
      exact ⟨p1, fun h => absurd (show false = true from h) (by decide)⟩
