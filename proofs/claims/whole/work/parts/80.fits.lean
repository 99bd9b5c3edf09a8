/-! fits. -/
/-! fits -/
theorem ff_n {p : Nat → Bool} : ∀ j k : Nat, ff p j k < 0 → ∀ i : Nat, k ≤ i → i < k + j → p i = false := by
  intro j
  induction j with
  | zero => intro k _ i h h'; omega
  | succ j ih =>
    intro k h i h1 h2
    unfold ff at h
    by_cases e : p k = true
    · rw [if_pos e] at h
      omega
    · rw [if_neg e] at h
      by_cases e2 : i = k
      · subst e2
        cases hp : p i with
        | false => rfl
        | true => exact absurd hp e
      · exact ih (k + 1) h i (by omega) (by omega)
/-- in a WHOLE table amounts of packs are whole -/
theorem whole_d {T : TB} (h : partF T < 0) {x : Int} (hx : x < 10) : rightF T x % tD T = 0 := by
  have b := ff_b (fun i => decide (tow T i = x)) (tR T) 0
  unfold rightF
  by_cases e : rowF T x < 0
  · rw [if_pos e]
    exact Int.zero_emod _
  · rw [if_neg e]
    have e2 : rowF T x = ff (fun i => decide (tow T i = x)) (tR T) 0 := rfl
    rw [← e2] at b
    rcases b with b | ⟨b1, b2, b3⟩
    · omega
    · have b4 := of_decide_eq_true b3
      have c := ff_n (tR T) 0 h (rowF T x).toNat (by omega) (by omega)
      have d := of_decide_eq_false c
      exact Classical.byContradiction (fun g => d ⟨by omega, g⟩)
theorem whole_q {T : TB} (o : tOK T) (h : partF T < 0) {x : Int} (hx : x < 10) (c : Int) : rightF T x / tD T = c ↔ rightF T x = c * tD T := by
  have d1 := o.2.2.2.2.1
  have e := whole_d h hx
  have f := Int.mul_ediv_add_emod (rightF T x) (tD T)
  rw [e, Int.add_zero] at f
  constructor
  · intro g
    rw [g] at f
    rw [← f, Int.mul_comm]
  · intro g
    rw [g, Int.mul_ediv_cancel _ (by omega)]
def fitP (g : Nat → Int) (K : PK) : Prop := (solF K 12).1 = 1 ∧ ∀ k : Nat, (k : Int) < g 4 → rightF (solF K 12).2.1 (g (76 + 2 * k)) / tD (solF K 12).2.1 = g (77 + 2 * k)
theorem L145 {d L : Nat} {g : Nat → Int} {T : TB} {m : j_M0} (hx : gX g) (h5 : g 0 ≤ 5) (v : vC 55 T m) (o : tOK T) (k5 : m 3 5 = g 4) (hs : ∀ k : Nat, (k : Int) < g 4 → m 14 k = g (76 + 2 * k) ∧ m 15 k = g (77 + 2 * k)) : ∀ j k : Nat, ((k + j : Nat) : Int) = g 4 → ∃ f, j_fin (c_call (d + 3)) 145 21 [some (jR 2), some (jI k)] [] (hH L m) = some (some (jI f), hH L m) ∧ fl f (∀ i : Nat, k ≤ i → (i : Int) < g 4 → rightF T (g (76 + 2 * i)) / tD T = g (77 + 2 * i)) := by
  have h4 := hx.2.2.2.1
  intro j
  induction j with
  | zero =>
    intro k hk
    rw [T145_21, if_neg (by omega)]
    exact ⟨1, rfl, Or.inl ⟨rfl, fun i h h' => by omega⟩⟩
  | succ j ih =>
    intro k hk
    have hsk := hs k (by omega)
    rw [T145_21, if_pos (by omega), if_pos (by omega), Int.toNat_natCast, hsk.1, Q54_55 (d := d) v o]
    simp only [Option.bind_some, Option.toList_some, List.cons_append, List.nil_append]
    rw [T145_51, if_pos (by omega), Int.toNat_natCast, hsk.2, nat1 (by omega)]
    simp only [cmp_eq]
    by_cases e : rightF T (g (76 + 2 * k)) / tD T = g (77 + 2 * k)
    · rw [if_pos e]
      obtain ⟨f, h1, h2⟩ := ih (k + 1) (by omega)
      refine ⟨f, h1, fl_w h2 ⟨fun h i h3 h4 => ?_, fun h i h3 h4 => h i (by omega) h4⟩⟩
      by_cases e2 : i = k
      · subst e2; exact e
      · exact h i (by omega) h4
    · rw [if_neg e]
      exact ⟨0, rfl, Or.inr ⟨rfl, fun h => e (h k (Nat.le_refl k) (by omega))⟩⟩
theorem Q145 {d L : Nat} {g0 g : Nat → Int} {m : j_M0} (hx : gX g0) (h5 : g0 0 ≤ 5) (h : gR g) (w : pkR 35 g m) (k5 : m 3 5 = g0 4) (hs : ∀ k : Nat, (k : Int) < g0 4 → m 14 k = g0 (76 + 2 * k) ∧ m 15 k = g0 (77 + 2 * k)) : ∃ f m', c_call (d + 6) 145 [jR 2] (hH L m) = some (some (jI f), hH L m') ∧ kpt (fun b _ => 54 ≤ b ∧ b ≤ 67) m m' ∧ fl f (fitP g0 (pkG g)) := by
  obtain ⟨m1, q1, q2, q3, q4, q5⟩ := Q29_54 (d := d) (L := L) (vP_of h w) (show 12 ≤ 12 by omega)
  have sp := solF_p (vP_ok (vP_of h w)) (show 12 ≤ 12 by omega)
  have g2 : kpt (fun b _ => 54 ≤ b ∧ b ≤ 67) m m1 := kpt_w q2 (fun b z h => by omega)
  rw [E145, T145_0, show (12 : Int) = ((12 : Nat) : Int) from rfl, q1]
  simp only [Option.bind_some, Option.toList_some, List.cons_append, List.nil_append]
  rw [T145_13]
  by_cases e : (solF (pkG g) 12).1 = 1
  · rw [if_pos e]
    obtain ⟨f, h1, h2⟩ := L145 (d := d + 2) (L := L) hx h5 q3 sp.1.1 ((kpt_at g2 (by omega)).trans k5) (fun k hk => ⟨(kpt_at g2 (by omega)).trans (hs k hk).1, (kpt_at g2 (by omega)).trans (hs k hk).2⟩) (g0 4).toNat 0 (by have := hx.2.2.2.1; omega)
    exact ⟨f, m1, h1, g2, fl_w h2 ⟨fun h => ⟨e, fun k hk => h k (Nat.zero_le k) hk⟩, fun h i _ hi => h.2 i hi⟩⟩
  · rw [if_neg e]
    exact ⟨0, m1, rfl, g2, Or.inr ⟨rfl, fun h => e h.1⟩⟩
theorem L233 {d L : Nat} {T : TB} {m : j_M0} (hx : gX (m 110)) (h5 : m 110 0 ≤ 5) (v : vM 128 T m) (o : tOK T) (hp : partF T < 0) : ∀ j k : Nat, ((k + j : Nat) : Int) = m 110 4 → ∃ f, j_fin (c_call (d + 2)) 233 2 [some (jR 109), some (jI k)] [] (hH L m) = some (some (jI f), hH L m) ∧ fl f (∀ i : Nat, k ≤ i → (i : Int) < m 110 4 → rightF T (m 110 (76 + 2 * i)) / tD T = m 110 (77 + 2 * i)) := by
  have h4 := hx.2.2.2.1
  have d1 := o.2.2.2.2.1
  have d2 := o.2.2.2.2.2.1
  have kD : m 128 13 = tD T := v.2.2.2.2.1
  intro j
  induction j with
  | zero =>
    intro k hk
    rw [T233_2, if_neg (by omega)]
    exact ⟨1, rfl, Or.inl ⟨rfl, fun i h h' => by omega⟩⟩
  | succ j ih =>
    intro k hk
    have hk2 := hx.2.2.2.2.1 k (by omega)
    have i1 : w32 (76 + w32 (2 * (k : Int))) = 76 + 2 * (k : Int) := by
      rw [w32_id (x := 2 * (k : Int)) (by omega) (by omega), w32_id (by omega) (by omega)]
    have i2 : w32 (76 + 2 * (k : Int) + 1) = 77 + 2 * (k : Int) := by
      rw [w32_id (by omega) (by omega)]
      omega
    have i3 : (76 + 2 * (k : Int)).toNat = 76 + 2 * k := by omega
    have i4 : (77 + 2 * (k : Int)).toNat = 77 + 2 * k := by omega
    have mr := mul_r (x := m 110 (77 + 2 * k)) (y := tD T) (a := 999) (b := 1000000000) (by omega) (by omega) (by omega) (by omega)
    rw [T233_2, if_pos (by omega), i1, if_pos (by omega), i3, Q197_128 (d := d) v o]
    simp only [Option.bind_some, Option.toList_some, List.cons_append, List.nil_append]
    rw [T233_31, i1, i2, if_pos (by omega), i4, kD, w64_id (by omega) (by omega), nat1 (by omega)]
    simp only [cmp_eq]
    have wq := whole_q o hp (x := m 110 (76 + 2 * k)) (by omega) (m 110 (77 + 2 * k))
    by_cases e : rightF T (m 110 (76 + 2 * k)) / tD T = m 110 (77 + 2 * k)
    · rw [if_pos (wq.mp e)]
      obtain ⟨f, h1, h2⟩ := ih (k + 1) (by omega)
      refine ⟨f, h1, fl_w h2 ⟨fun h i h3 h4 => ?_, fun h i h3 h4 => h i (by omega) h4⟩⟩
      by_cases e2 : i = k
      · subst e2; exact e
      · exact h i (by omega) h4
    · rw [if_neg (fun h => e (wq.mpr h))]
      exact ⟨0, rfl, Or.inr ⟨rfl, fun h => e (h k (Nat.le_refl k) (by omega))⟩⟩
/-- how many of j from k on; the first -/
def cnV (p : Nat → Bool) : Nat → Nat → Int
  | 0, _ => 0
  | j + 1, k => (if p k = true then 1 else 0) + cnV p j (k + 1)
def fsV (p : Nat → Bool) : Nat → Nat → Int
  | 0, _ => -5
  | j + 1, k => if p k = true then 5 * (k : Int) else fsV p j (k + 1)
theorem cnV_r (p : Nat → Bool) : ∀ j k : Nat, 0 ≤ cnV p j k ∧ cnV p j k ≤ (j : Int) := by
  intro j
  induction j with
  | zero => intro k; exact ⟨Int.le_refl _, Int.le_refl _⟩
  | succ j ih =>
    intro k
    have := ih (k + 1)
    unfold cnV
    split <;> omega
theorem cnV_s (p : Nat → Bool) : ∀ j k : Nat, cnV p (j + 1) k = cnV p j k + (if p (k + j) = true then 1 else 0) := by
  intro j
  induction j with
  | zero => intro k; unfold cnV cnV; rw [Nat.add_zero]; omega
  | succ j ih =>
    intro k
    rw [cnV, ih (k + 1), cnV, show k + 1 + j = k + (j + 1) by omega]
    omega
theorem fsV_s (p : Nat → Bool) : ∀ j k : Nat, fsV p (j + 1) k = if cnV p j k = 0 then (if p (k + j) = true then 5 * ((k + j : Nat) : Int) else -5) else fsV p j k := by
  intro j
  induction j with
  | zero =>
    intro k
    unfold fsV fsV cnV
    rw [if_pos rfl, Nat.add_zero]
  | succ j ih =>
    intro k
    have r := cnV_r p j (k + 1)
    rw [fsV, ih (k + 1), cnV, fsV, show k + 1 + j = k + (j + 1) by omega]
    by_cases e : p k = true
    · rw [if_pos e, if_pos e, if_neg (by omega), if_pos e]
    · rw [if_neg e, if_neg e, if_neg e, Int.zero_add]
theorem L117 {d L : Nat} {g : Nat → Int} {r : Nat} {x2 : Int} {p : Nat → Bool} (hg : gR g) (hx : gX g) (hr : (r : Int) < g 1) (hp : ∀ k : Nat, k < 10 → (p k = true ↔ fitP g (pkG (gU g (13 + 7 * r) (5 * (k : Int)))))) : ∀ j k : Nat, k + j = 10 → ∀ m : j_M0, (∃ u : Int, pkR 35 (gU g (13 + 7 * r) u) m) → m 3 5 = g 4 → (∀ k : Nat, (k : Int) < g 4 → m 14 k = g (76 + 2 * k) ∧ m 15 k = g (77 + 2 * k)) → ∃ m', j_fin (c_call (d + 6)) 117 42 [some (jR 2), some (jI r), some (jI x2), some (jI (cnV p k 0)), some (jI (fsV p k 0)), some (jI (5 * (k : Int)))] [] (hH L m) = some (some (jI (if x2 = 0 then cnV p 10 0 else fsV p 10 0)), hH L m') ∧ kpt (fun b _ => 35 ≤ b ∧ b ≤ 39 ∨ 54 ≤ b ∧ b ≤ 67) m m' := by
  have g4 := hg.2.2.2.1
  have g5 := hg.2.1
  intro j
  induction j with
  | zero =>
    intro k hk m w k5 hs
    have e : k = 10 := by omega
    subst e
    rw [T117_42, if_pos (by omega)]
    split
    · exact ⟨m, rfl, kpt_rfl⟩
    · exact ⟨m, rfl, kpt_rfl⟩
  | succ j ih =>
    intro k hk m w k5 hs
    obtain ⟨u, w⟩ := w
    have a := cnV_r p k 0
    have hb : -99 ≤ 5 * (k : Int) ∧ 5 * (k : Int) ≤ 999 := by omega
    have w1 : pkR 35 (gU g (13 + 7 * r) (5 * (k : Int))) (j_up m 38 r (5 * (k : Int))) := by
      have h := pkR_bound w (r := r) (v := 5 * (k : Int)) (by rw [gU_ne (by omega)]; exact hr) hb
      rw [gU_2] at h
      exact h
    obtain ⟨f, m1, s1, s2, s3⟩ := Q145 (d := d) (L := L) (m := j_up m 38 r (5 * (k : Int))) hx g5 (gR_bound hg (r := r) (by omega) hb) w1 ((up_ne (by omega)).trans k5) (fun q hq => ⟨(up_ne (by omega)).trans (hs q hq).1, (up_ne (by omega)).trans (hs q hq).2⟩)
    have k1 : kpt (fun b _ => 35 ≤ b ∧ b ≤ 39 ∨ 54 ≤ b ∧ b ≤ 67) m m1 := kpt_tr (kpt_up (by omega)) (kpt_w s2 (fun b z h => by omega))
    have w2 : pkR 35 (gU g (13 + 7 * r) (5 * (k : Int))) m1 := pkR_k w1 (fun b z h h' => kpt_at s2 (by omega))
    obtain ⟨m2, t1, t2⟩ := ih (k + 1) (by omega) m1 ⟨_, w2⟩ ((kpt_at k1 (by omega)).trans k5) (fun q hq => ⟨(kpt_at k1 (by omega)).trans (hs q hq).1, (kpt_at k1 (by omega)).trans (hs q hq).2⟩)
    rw [cnV_s, fsV_s, Nat.zero_add, show 5 * ((k + 1 : Nat) : Int) = 5 * (k : Int) + 5 by omega] at t1
    rw [T117_42, if_neg (by omega), if_pos (by omega), Int.toNat_natCast, s1]
    simp only [Option.bind_some, Option.toList_some, List.cons_append, List.nil_append]
    rw [T117_64, w32_id (x := 5 * (k : Int) + 5) (by omega) (by omega)]
    rcases s3 with ⟨rfl, s3⟩ | ⟨rfl, s3⟩
    · have hpk := (hp k (by omega)).mpr s3
      rw [if_pos hpk, if_pos hpk] at t1
      rw [if_neg (by decide), w32_id (x := cnV p k 0 + 1) (by omega) (by omega)]
      by_cases e : cnV p k 0 = 0
      · rw [if_pos e] at t1 ⊢
        exact ⟨m2, t1, kpt_tr k1 t2⟩
      · rw [if_neg e] at t1 ⊢
        exact ⟨m2, t1, kpt_tr k1 t2⟩
    · have hpk : ¬ p k = true := fun h => s3 ((hp k (by omega)).mp h)
      rw [if_neg hpk, if_neg hpk, Int.add_zero] at t1
      rw [if_pos rfl]
      have e : (if cnV p k 0 = 0 then -5 else fsV p k 0) = fsV p k 0 := by
        by_cases e1 : cnV p k 0 = 0
        · rw [if_pos e1]
          have h := fsV_s p k 0
          cases k with
          | zero => rfl
          | succ k =>
            have h2 := fsV_s p k 0
            have h3 := cnV_s p k 0
            have r2 := cnV_r p k 0
            rw [h2]
            by_cases e2 : p (0 + k) = true
            · rw [if_pos e2] at h3
              omega
            · rw [if_neg e2] at h3
              rw [if_pos (by omega), if_neg e2]
        · rw [if_neg e1]
      rw [e] at t1
      exact ⟨m2, t1, kpt_tr k1 t2⟩
theorem worF_0 {K : PK} (ok : pOK K) : worF K < 0 ↔ ¬ (solF K 12).1 = 1 := by
  have p := solF_p ok (show 12 ≤ 12 by omega)
  have o := p.1.1
  have r7 := o.2.2.2.2.2.2.1
  have r5 := o.2.2.2.2.1
  have a1 := ed_r (x := tB (solF K 12).2.1) (y := tD (solF K 12).2.1) (by omega)
  unfold worF
  by_cases e : (solF K 12).1 = 1
  · rw [if_pos e]
    exact ⟨fun h => by omega, fun h => absurd e h⟩
  · rw [if_neg e]
    refine ⟨fun _ => e, fun _ => ?_⟩
    split <;> decide
theorem pkG_ok {g : Nat → Int} (h : gR g) : pOK (pkG g) := by
  obtain ⟨z1, z2, z3, z4, z5, z6, z7⟩ := h
  refine ⟨?_, ?_, ?_, fun p hp => z5 p ?_, fun q p hq hp => ?_, fun q hq => ?_⟩
  · show 1 ≤ (g 0).toNat
    omega
  · show (g 0).toNat ≤ 5
    omega
  · show (g 1).toNat ≤ 8
    omega
  · replace hp : p < (g 0).toNat := hp
    omega
  · replace hp : p < (g 0).toNat := hp
    replace hq : q < (g 1).toNat := hq
    have := z7 q p (by omega) (by omega)
    show -9 ≤ (if g (12 + 7 * q) = 0 then -(g (14 + 7 * q + p)) else g (14 + 7 * q + p)) ∧ (if g (12 + 7 * q) = 0 then -(g (14 + 7 * q + p)) else g (14 + 7 * q + p)) ≤ 9
    split <;> omega
  · replace hq : q < (g 1).toNat := hq
    have := z6 q (by omega)
    show -999 ≤ (if g (12 + 7 * q) = 0 then -(g (13 + 7 * q)) else g (13 + 7 * q)) ∧ (if g (12 + 7 * q) = 0 then -(g (13 + 7 * q)) else g (13 + 7 * q)) ≤ 999
    split <;> omega
theorem L234 {d L : Nat} {r : Nat} {x2 : Int} {p : Nat → Bool} (hr : r < 8) : ∀ k : Nat, k ≤ 10 → ∀ m : j_M0, gR (m 110) → gX (m 110) → (∀ k : Nat, k < 10 → (p k = true ↔ fitP (m 110) (pkG (gU (m 110) (13 + 7 * r) (5 * (k : Int)))))) → ∃ m', j_fin (c_call (d + 8)) 234 30 [some (jR 109), some (jI r), some (jI x2), some (jI (cnV p (10 - k) k)), some (jI (fsV p (10 - k) k)), some (jI (5 * (k : Int) - 5))] [] (hH L m) = some (some (jI (if x2 = 0 then cnV p 10 0 else fsV p 10 0)), hH L m') ∧ kpt (fun b _ => 128 ≤ b ∧ b ≤ 140) m m' := by
  intro k
  induction k with
  | zero =>
    intro hk m hg hx hp
    rw [T234_30, if_pos (by omega)]
    split
    · exact ⟨m, rfl, kpt_rfl⟩
    · exact ⟨m, rfl, kpt_rfl⟩
  | succ k ih =>
    intro hk m hg hx hp
    have hb : -99 ≤ 5 * (k : Int) ∧ 5 * (k : Int) ≤ 999 := by omega
    have g5 := hg.2.1
    have h4 := hx.2.2.2.1
    obtain ⟨m1, s1, s2, s3, s4⟩ := Q230 (d := d) (L := L) (m := m) hg (r := r) (v := 5 * (k : Int)) hr hb
    have e110 : m1 110 = m 110 := funext (fun z => kpt_at s2 (by omega))
    have a := cnV_r p (10 - (k + 1)) (k + 1)
    have hgb := gR_bound hg (r := r) hr hb
    have okb := pkG_ok hgb
    have w0 := worF_0 okb
    have hpk := hp k (by omega)
    have sp := solF_p okb (show 12 ≤ 12 by omega)
    obtain ⟨m2, t1, t2⟩ := ih (by omega) m1 (by rw [e110]; exact hg) (by rw [e110]; exact hx) (by rw [e110]; exact hp)
    rw [show 10 - k = 10 - (k + 1) + 1 by omega, cnV, fsV] at t1
    have e5 : 5 * ((k + 1 : Nat) : Int) - 5 = 5 * (k : Int) := by omega
    have i5 : w32 (5 * (k : Int) + (-5)) = 5 * (k : Int) - 5 := by rw [w32_id (by omega) (by omega)]; omega
    rw [e5, T234_30, if_neg (by omega), s1]
    simp only [Option.bind_some, Option.toList_some, List.cons_append, List.nil_append]
    rw [T234_42, i5]
    by_cases e1 : worF (pkG (gU (m 110) (13 + 7 * r) (5 * (k : Int)))) < 0
    · have hn : ¬ p k = true := fun h => w0.mp e1 (hpk.mp h).1
      rw [if_neg hn, if_neg hn, Int.zero_add] at t1
      rw [if_pos e1]
      exact ⟨m2, t1, kpt_tr s2 t2⟩
    · have e2 : (solF (pkG (gU (m 110) (13 + 7 * r) (5 * (k : Int)))) 12).1 = 1 := Classical.byContradiction (fun h => e1 (w0.mpr h))
      obtain ⟨f, h1, h2⟩ := L233 (d := d + 5) (L := L) (m := m1) (by rw [e110]; exact hx) (by rw [e110]; exact g5) s3 sp.1.1 (sp.2.2 e2).1 (m 110 4).toNat 0 (by rw [e110]; omega)
      have h1' : c_call (d + 8) 233 [jR 109] (hH L m1) = some (some (jI f), hH L m1) := (E233 (d := d + 7)).trans (T233_0.trans h1)
      rw [e110] at h2
      rw [if_neg e1, h1']
      simp only [Option.bind_some, Option.toList_some, List.cons_append, List.nil_append]
      rw [T234_49, i5]
      rcases h2 with ⟨rfl, h2⟩ | ⟨rfl, h2⟩
      · have hy : p k = true := hpk.mpr ⟨e2, fun i hi => h2 i (Nat.zero_le i) hi⟩
        rw [if_pos hy, if_pos hy, Int.add_comm] at t1
        rw [if_neg (by decide), w32_id (x := cnV p (10 - (k + 1)) (k + 1) + 1) (by omega) (by omega)]
        exact ⟨m2, t1, kpt_tr s2 t2⟩
      · have hn : ¬ p k = true := fun h => h2 (fun i _ hi => (hpk.mp h).2 i hi)
        rw [if_neg hn, if_neg hn, Int.zero_add] at t1
        rw [if_pos rfl]
        exact ⟨m2, t1, kpt_tr s2 t2⟩
theorem PA117 {L : Nat} {xs : Nat → Int32} {m : j_M0} (w : Rel xs m) (x y : Int) : PA L xs 117 234 [jI x, jI y] m := by
  have n := Rel_n w
  have q1 : c_call 9 136 [jR 2, jI x] (hH L m) = some (some (jI (bI (0 ≤ x ∧ x < m 110 1))), hH L m) := by
    rw [← n.2.2.2.2.2]
    exact Q136 (d := 8)
  have q2 : ∀ m', m' 110 = m 110 → c_call 9 153 [jR 109, jI x] (hH L m') = some (some (jI (bI (0 ≤ x ∧ x < m 110 1))), hH L m') := fun m' h => by
    rw [← h]
    exact Q153 (d := 7) (by rw [h]; omega)
  by_cases g1 : 0 ≤ x ∧ x < m 110 1
  · by_cases g2 : 0 ≤ y ∧ y ≤ 1
    · obtain ⟨r, rfl⟩ : ∃ r : Nat, x = r := ⟨_, (Int.toNat_of_nonneg (by omega)).symm⟩
      obtain ⟨p, hp⟩ : ∃ p : Nat → Bool, ∀ k : Nat, k < 10 → (p k = true ↔ fitP (m 110) (pkG (gU (m 110) (13 + 7 * r) (5 * (k : Int))))) := ⟨fun k => @decide (fitP (m 110) (pkG (gU (m 110) (13 + 7 * r) (5 * (k : Int))))) (Classical.propDecidable _), fun k _ => ⟨fun h => @of_decide_eq_true _ (Classical.propDecidable _) h, fun h => @decide_eq_true _ (Classical.propDecidable _) h⟩⟩
      obtain ⟨m1, p1, p2, p3⟩ := Q8_35 (d := 8) (L := L) w.2.2.2.1.1
      have st := w.2.2.2.1
      obtain ⟨m2, s1, s2⟩ := L117 (d := 3) (L := L) (g := m 110) (r := r) (x2 := y) (p := p) w.2.1 w.2.2.1 (by omega) hp 10 0 (by omega) m1 ⟨_, by rw [gU_s]; exact p3⟩ ((kpt_at p2 (by omega)).trans st.2.2.2.2.2.1) (fun k hk => ⟨(kpt_at p2 (by omega)).trans (st.2.2.2.2.2.2.1 k hk).1, (kpt_at p2 (by omega)).trans (st.2.2.2.2.2.2.1 k hk).2⟩)
      have k1 : kpt sc m m2 := kpt_tr (kpt_w p2 (fun c z h => by unfold sc; omega)) (kpt_w s2 (fun c z h => by unfold sc; omega))
      have w2 : Rel xs m2 := Rel_k w k1
      obtain ⟨m3, t1, t2⟩ := L234 (d := 1) (L := L) (r := r) (x2 := y) (p := p) (by omega) 10 (Nat.le_refl _) m2 w2.2.1 w2.2.2.1 (by rw [kpt_110 k1]; exact hp)
      refine ⟨jI (if y = 0 then cnV p 10 0 else fsV p 10 0), m2, m3, (E117 (d := 9)).trans ?_, (E234 (d := 9)).trans ?_, Rel_k w2 (kpt_w t2 (fun c z h => by unfold sc; omega))⟩
      · rw [T117_0, q1]
        simp only [Option.bind_some, Option.toList_some, List.cons_append, List.nil_append]
        rw [bI_t g1, T117_5, if_neg (by decide), if_neg (by omega), if_neg (by omega), p1]
        simp only [Option.bind_some, Option.toList_some, List.cons_append, List.nil_append, Option.toList_none]
        rw [T117_39]
        exact s1
      · rw [T234_0, q2 m2 (kpt_110 k1)]
        simp only [Option.bind_some, Option.toList_some, List.cons_append, List.nil_append]
        rw [bI_t g1, T234_5, if_neg (by decide), Q150]
        simp only [Option.bind_some, Option.toList_some, List.cons_append, List.nil_append]
        rw [bI_t g2, T234_15, if_neg (by decide)]
        exact t1
    · refine PA_r w (v := jI (-1)) ((E117 (d := 9)).trans ?_) ((E234 (d := 9)).trans ?_)
      · rw [T117_0, q1]
        simp only [Option.bind_some, Option.toList_some, List.cons_append, List.nil_append]
        rw [bI_t g1, T117_5, if_neg (by decide)]
        by_cases g6 : y < 0
        · rw [if_pos g6]
        · rw [if_neg g6, if_pos (by omega)]
      · rw [T234_0, q2 m rfl]
        simp only [Option.bind_some, Option.toList_some, List.cons_append, List.nil_append]
        rw [bI_t g1, T234_5, if_neg (by decide), Q150]
        simp only [Option.bind_some, Option.toList_some, List.cons_append, List.nil_append]
        rw [bI_f g2, T234_15, if_pos rfl]
  · refine PA_r w (v := jI (-1)) ((E117 (d := 9)).trans ?_) ((E234 (d := 9)).trans ?_)
    · rw [T117_0, q1]
      simp only [Option.bind_some, Option.toList_some, List.cons_append, List.nil_append]
      rw [bI_f g1, T117_5, if_pos rfl]
    · rw [T234_0, q2 m rfl]
      simp only [Option.bind_some, Option.toList_some, List.cons_append, List.nil_append]
      rw [bI_f g1, T234_5, if_pos rfl]
