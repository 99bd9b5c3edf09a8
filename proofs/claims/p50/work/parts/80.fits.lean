/-! fits. -/
/-! fits -/
theorem ff_n {p : Nat → Bool} : ∀ j k : Nat, ff p j k < 0 → ∀ i : Nat, k ≤ i → i < k + j → p i = false := by
  intro j
  induction j with
  | zero => intro k _ i h h'; omega
  | succ j ih =>
    intro k h i h1 h2
    unfold ff at h
    by_cases e : p k = true
    · rw [if_pos e] at h
      omega
    · rw [if_neg e] at h
      by_cases e2 : i = k
      · subst e2
        cases hp : p i with
        | false => rfl
        | true => exact absurd hp e
      · exact ih (k + 1) h i (by omega) (by omega)
/-- in a WHOLE table amounts of packs are whole -/
theorem whole_d {T : TB} (h : partF T < 0) {x : Int} (hx : x < 10) : rightF T x % tD T = 0 := by
  have b := ff_b (fun i => decide (tow T i = x)) (tR T) 0
  unfold rightF
  by_cases e : rowF T x < 0
  · rw [if_pos e]
    exact Int.zero_emod _
  · rw [if_neg e]
    have e2 : rowF T x = ff (fun i => decide (tow T i = x)) (tR T) 0 := rfl
    rw [← e2] at b
    rcases b with b | ⟨b1, b2, b3⟩
    · omega
    · have b4 := of_decide_eq_true b3
      have c := ff_n (tR T) 0 h (rowF T x).toNat (by omega) (by omega)
      have d := of_decide_eq_false c
      exact Classical.byContradiction (fun g => d ⟨by omega, g⟩)
theorem whole_q {T : TB} (o : tOK T) (h : partF T < 0) {x : Int} (hx : x < 10) (c : Int) : rightF T x / tD T = c ↔ rightF T x = c * tD T := by
  have d1 := o.2.2.2.2.1
  have e := whole_d h hx
  have f := Int.mul_ediv_add_emod (rightF T x) (tD T)
  rw [e, Int.add_zero] at f
  constructor
  · intro g
    rw [g] at f
    rw [← f, Int.mul_comm]
  · intro g
    rw [g, Int.mul_ediv_cancel _ (by omega)]
def fitP (g : Nat → Int) (K : PK) : Prop := (solF K 12).1 = 1 ∧ ∀ k : Nat, (k : Int) < g 4 → rightF (solF K 12).2.1 (g (76 + 2 * k)) / tD (solF K 12).2.1 = g (77 + 2 * k)
theorem L145 {d : Nat} {L : j_B} {g : Nat → Int} {T : TB} {m : j_M0} (hx : gX g) (h5 : g 0 ≤ 5) (v : vC 55 T m) (o : tOK T) (k5 : m 3 5 = g 4) (hs : ∀ k : Nat, (k : Int) < g 4 → m 14 k = g (76 + 2 * k) ∧ m 15 k = g (77 + 2 * k)) : ∀ j k : Nat, ((k + j : Nat) : Int) = g 4 → ∃ f, j_fin (c_call (d + 3)) 145 21 [some (jR 2), some (jI k)] [] (hH L m) = some (some (jI f), hH L m) ∧ fl f (∀ i : Nat, k ≤ i → (i : Int) < g 4 → rightF T (g (76 + 2 * i)) / tD T = g (77 + 2 * i)) := by
  have h4 := hx.2.2.2.1
  intro j
  induction j with
  | zero =>
    intro k hk
    rw [T145_21, if_neg (by omega)]
    exact ⟨1, rfl, Or.inl ⟨rfl, fun i h h' => by omega⟩⟩
  | succ j ih =>
    intro k hk
    have hsk := hs k (by omega)
    rw [T145_21, if_pos (by omega), if_pos (by omega), Int.toNat_natCast, hsk.1, Q54_55 (d := d) v o]
    simp only [Option.bind_some, Option.toList_some, List.cons_append, List.nil_append]
    rw [T145_51, if_pos (by omega), Int.toNat_natCast, hsk.2, nat1 (by omega)]
    simp only [cmp_eq]
    by_cases e : rightF T (g (76 + 2 * k)) / tD T = g (77 + 2 * k)
    · rw [if_pos e]
      obtain ⟨f, h1, h2⟩ := ih (k + 1) (by omega)
      refine ⟨f, h1, fl_w h2 ⟨fun h i h3 h4 => ?_, fun h i h3 h4 => h i (by omega) h4⟩⟩
      by_cases e2 : i = k
      · subst e2; exact e
      · exact h i (by omega) h4
    · rw [if_neg e]
      exact ⟨0, rfl, Or.inr ⟨rfl, fun h => e (h k (Nat.le_refl k) (by omega))⟩⟩
theorem Q145 {d : Nat} {L : j_B} {g0 g : Nat → Int} {m : j_M0} (hx : gX g0) (h5 : g0 0 ≤ 5) (h : gR g) (w : pkR 35 g m) (k5 : m 3 5 = g0 4) (hs : ∀ k : Nat, (k : Int) < g0 4 → m 14 k = g0 (76 + 2 * k) ∧ m 15 k = g0 (77 + 2 * k)) : ∃ f m', c_call (d + 6) 145 [jR 2] (hH L m) = some (some (jI f), hH L m') ∧ kpt (fun b _ => 54 ≤ b ∧ b ≤ 67) m m' ∧ fl f (fitP g0 (pkG g)) := by
  obtain ⟨m1, q1, q2, q3, q4, q5⟩ := Q29_54 (d := d) (L := L) (vP_of h w) (show 12 ≤ 12 by omega)
  have sp := solF_p (vP_ok (vP_of h w)) (show 12 ≤ 12 by omega)
  have g2 : kpt (fun b _ => 54 ≤ b ∧ b ≤ 67) m m1 := kpt_w q2 (fun b z h => by omega)
  rw [E145, T145_0, show (12 : Int) = ((12 : Nat) : Int) from rfl, q1]
  simp only [Option.bind_some, Option.toList_some, List.cons_append, List.nil_append]
  rw [T145_13]
  by_cases e : (solF (pkG g) 12).1 = 1
  · rw [if_pos e]
    obtain ⟨f, h1, h2⟩ := L145 (d := d + 2) (L := L) hx h5 q3 sp.1.1 ((kpt_at g2 (by omega)).trans k5) (fun k hk => ⟨(kpt_at g2 (by omega)).trans (hs k hk).1, (kpt_at g2 (by omega)).trans (hs k hk).2⟩) (g0 4).toNat 0 (by have := hx.2.2.2.1; omega)
    exact ⟨f, m1, h1, g2, fl_w h2 ⟨fun h => ⟨e, fun k hk => h k (Nat.zero_le k) hk⟩, fun h i _ hi => h.2 i hi⟩⟩
  · rw [if_neg e]
    exact ⟨0, m1, rfl, g2, Or.inr ⟨rfl, fun h => e h.1⟩⟩
/-- how many of j from k on; the first -/
def cnV (p : Nat → Bool) : Nat → Nat → Int
  | 0, _ => 0
  | j + 1, k => (if p k = true then 1 else 0) + cnV p j (k + 1)
def fsV (p : Nat → Bool) : Nat → Nat → Int
  | 0, _ => -5
  | j + 1, k => if p k = true then 5 * (k : Int) else fsV p j (k + 1)
theorem cnV_r (p : Nat → Bool) : ∀ j k : Nat, 0 ≤ cnV p j k ∧ cnV p j k ≤ (j : Int) := by
  intro j
  induction j with
  | zero => intro k; exact ⟨Int.le_refl _, Int.le_refl _⟩
  | succ j ih =>
    intro k
    have := ih (k + 1)
    unfold cnV
    split <;> omega
theorem cnV_s (p : Nat → Bool) : ∀ j k : Nat, cnV p (j + 1) k = cnV p j k + (if p (k + j) = true then 1 else 0) := by
  intro j
  induction j with
  | zero => intro k; unfold cnV cnV; rw [Nat.add_zero]; omega
  | succ j ih =>
    intro k
    rw [cnV, ih (k + 1), cnV, show k + 1 + j = k + (j + 1) by omega]
    omega
theorem fsV_s (p : Nat → Bool) : ∀ j k : Nat, fsV p (j + 1) k = if cnV p j k = 0 then (if p (k + j) = true then 5 * ((k + j : Nat) : Int) else -5) else fsV p j k := by
  intro j
  induction j with
  | zero =>
    intro k
    unfold fsV fsV cnV
    rw [if_pos rfl, Nat.add_zero]
  | succ j ih =>
    intro k
    have r := cnV_r p j (k + 1)
    rw [fsV, ih (k + 1), cnV, fsV, show k + 1 + j = k + (j + 1) by omega]
    by_cases e : p k = true
    · rw [if_pos e, if_pos e, if_neg (by omega), if_pos e]
    · rw [if_neg e, if_neg e, if_neg e, Int.zero_add]
theorem L117 {d : Nat} {L : j_B} {g : Nat → Int} {r : Nat} {x2 : Int} {p : Nat → Bool} (hg : gR g) (hx : gX g) (hr : (r : Int) < g 1) (hp : ∀ k : Nat, k < 10 → (p k = true ↔ fitP g (pkG (gU g (13 + 7 * r) (5 * (k : Int)))))) : ∀ j k : Nat, k + j = 10 → ∀ m : j_M0, (∃ u : Int, pkR 35 (gU g (13 + 7 * r) u) m) → m 3 5 = g 4 → (∀ k : Nat, (k : Int) < g 4 → m 14 k = g (76 + 2 * k) ∧ m 15 k = g (77 + 2 * k)) → ∃ m', j_fin (c_call (d + 6)) 117 42 [some (jR 2), some (jI r), some (jI x2), some (jI (cnV p k 0)), some (jI (fsV p k 0)), some (jI (5 * (k : Int)))] [] (hH L m) = some (some (jI (if x2 = 0 then cnV p 10 0 else fsV p 10 0)), hH L m') ∧ kpt (fun b _ => 35 ≤ b ∧ b ≤ 39 ∨ 54 ≤ b ∧ b ≤ 67) m m' := by
  have g4 := hg.2.2.2.1
  have g5 := hg.2.1
  intro j
  induction j with
  | zero =>
    intro k hk m w k5 hs
    have e : k = 10 := by omega
    subst e
    rw [T117_42, if_pos (by omega)]
    split
    · exact ⟨m, rfl, kpt_rfl⟩
    · exact ⟨m, rfl, kpt_rfl⟩
  | succ j ih =>
    intro k hk m w k5 hs
    obtain ⟨u, w⟩ := w
    have a := cnV_r p k 0
    have hb : -99 ≤ 5 * (k : Int) ∧ 5 * (k : Int) ≤ 999 := by omega
    have w1 : pkR 35 (gU g (13 + 7 * r) (5 * (k : Int))) (j_up m 38 r (5 * (k : Int))) := by
      have h := pkR_bound w (r := r) (v := 5 * (k : Int)) (by rw [gU_ne (by omega)]; exact hr) hb
      rw [gU_2] at h
      exact h
    obtain ⟨f, m1, s1, s2, s3⟩ := Q145 (d := d) (L := L) (m := j_up m 38 r (5 * (k : Int))) hx g5 (gR_bound hg (r := r) (by omega) hb) w1 ((up_ne (by omega)).trans k5) (fun q hq => ⟨(up_ne (by omega)).trans (hs q hq).1, (up_ne (by omega)).trans (hs q hq).2⟩)
    have k1 : kpt (fun b _ => 35 ≤ b ∧ b ≤ 39 ∨ 54 ≤ b ∧ b ≤ 67) m m1 := kpt_tr (kpt_up (by omega)) (kpt_w s2 (fun b z h => by omega))
    have w2 : pkR 35 (gU g (13 + 7 * r) (5 * (k : Int))) m1 := pkR_k w1 (fun b z h h' => kpt_at s2 (by omega))
    obtain ⟨m2, t1, t2⟩ := ih (k + 1) (by omega) m1 ⟨_, w2⟩ ((kpt_at k1 (by omega)).trans k5) (fun q hq => ⟨(kpt_at k1 (by omega)).trans (hs q hq).1, (kpt_at k1 (by omega)).trans (hs q hq).2⟩)
    rw [cnV_s, fsV_s, Nat.zero_add, show 5 * ((k + 1 : Nat) : Int) = 5 * (k : Int) + 5 by omega] at t1
    rw [T117_42, if_neg (by omega), if_pos (by omega), Int.toNat_natCast, s1]
    simp only [Option.bind_some, Option.toList_some, List.cons_append, List.nil_append]
    rw [T117_64, w32_id (x := 5 * (k : Int) + 5) (by omega) (by omega)]
    rcases s3 with ⟨rfl, s3⟩ | ⟨rfl, s3⟩
    · have hpk := (hp k (by omega)).mpr s3
      rw [if_pos hpk, if_pos hpk] at t1
      rw [if_neg (by decide), w32_id (x := cnV p k 0 + 1) (by omega) (by omega)]
      by_cases e : cnV p k 0 = 0
      · rw [if_pos e] at t1 ⊢
        exact ⟨m2, t1, kpt_tr k1 t2⟩
      · rw [if_neg e] at t1 ⊢
        exact ⟨m2, t1, kpt_tr k1 t2⟩
    · have hpk : ¬ p k = true := fun h => s3 ((hp k (by omega)).mp h)
      rw [if_neg hpk, if_neg hpk, Int.add_zero] at t1
      rw [if_pos rfl]
      have e : (if cnV p k 0 = 0 then -5 else fsV p k 0) = fsV p k 0 := by
        by_cases e1 : cnV p k 0 = 0
        · rw [if_pos e1]
          have h := fsV_s p k 0
          cases k with
          | zero => rfl
          | succ k =>
            have h2 := fsV_s p k 0
            have h3 := cnV_s p k 0
            have r2 := cnV_r p k 0
            rw [h2]
            by_cases e2 : p (0 + k) = true
            · rw [if_pos e2] at h3
              omega
            · rw [if_neg e2] at h3
              rw [if_pos (by omega), if_neg e2]
        · rw [if_neg e1]
      rw [e] at t1
      exact ⟨m2, t1, kpt_tr k1 t2⟩
theorem worF_0 {K : PK} (ok : pOK K) : worF K < 0 ↔ ¬ (solF K 12).1 = 1 := by
  have p := solF_p ok (show 12 ≤ 12 by omega)
  have o := p.1.1
  have r7 := o.2.2.2.2.2.2.1
  have r5 := o.2.2.2.2.1
  have a1 := ed_r (x := tB (solF K 12).2.1) (y := tD (solF K 12).2.1) (by omega)
  unfold worF
  by_cases e : (solF K 12).1 = 1
  · rw [if_pos e]
    exact ⟨fun h => by omega, fun h => absurd e h⟩
  · rw [if_neg e]
    refine ⟨fun _ => e, fun _ => ?_⟩
    split <;> decide
theorem pkG_ok {g : Nat → Int} (h : gR g) : pOK (pkG g) := by
  obtain ⟨z1, z2, z3, z4, z5, z6, z7⟩ := h
  refine ⟨?_, ?_, ?_, fun p hp => z5 p ?_, fun q p hq hp => ?_, fun q hq => ?_⟩
  · show 1 ≤ (g 0).toNat
    omega
  · show (g 0).toNat ≤ 5
    omega
  · show (g 1).toNat ≤ 8
    omega
  · replace hp : p < (g 0).toNat := hp
    omega
  · replace hp : p < (g 0).toNat := hp
    replace hq : q < (g 1).toNat := hq
    have := z7 q p (by omega) (by omega)
    show -9 ≤ (if g (12 + 7 * q) = 0 then -(g (14 + 7 * q + p)) else g (14 + 7 * q + p)) ∧ (if g (12 + 7 * q) = 0 then -(g (14 + 7 * q + p)) else g (14 + 7 * q + p)) ≤ 9
    split <;> omega
  · replace hq : q < (g 1).toNat := hq
    have := z6 q (by omega)
    show -999 ≤ (if g (12 + 7 * q) = 0 then -(g (13 + 7 * q)) else g (13 + 7 * q)) ∧ (if g (12 + 7 * q) = 0 then -(g (13 + 7 * q)) else g (13 + 7 * q)) ≤ 999
    split <;> omega
