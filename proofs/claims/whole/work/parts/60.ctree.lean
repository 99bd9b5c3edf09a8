/-! The class relaxes a node. -/
theorem Q40 {d L : Nat} {T : TB} {m : j_M0} (v : vC 71 T m) {p : Nat} {x : Int} (hp : p < 5) (hR : tR T < 20) (hC : tC T ≤ 5) (hx : 0 ≤ x ∧ x ≤ 1000000001) : ∃ m', c_call (d + 2) 40 [jR 71, jI p, jL x] (hH L m) = some (none, hH L m') ∧ kpt (fun b _ => 71 ≤ b ∧ b ≤ 79) m m' ∧ vC 71 (leaR T p x) m' := by
  obtain ⟨m1, q1, q2, q3⟩ := Q39_71 (d := d) (L := L) v (x := 40 + (p : Int)) (y := -x) hR hC
  rw [E40, T40_0, w32_id (by omega) (by omega), w64_id (by omega) (by omega), q1]
  simp only [Option.bind_some, Option.toList_some, List.cons_append, List.nil_append]
  rw [T40_10]
  simp (disch := omega) only [w32_id, show ((tR T : Int) * 5 + (p : Int)).toNat = 5 * tR T + p by omega]
  rw [if_pos (by omega)]
  exact ⟨_, rfl, kpt_tr q2 (kpt_up (by omega)), vC_set (a := 71) q3 hp hC⟩
theorem Q41 {d L : Nat} {T : TB} {m : j_M0} (v : vC 71 T m) {p : Nat} {x : Int} (hp : p < 5) (hR : tR T < 20) (hC : tC T ≤ 5) : ∃ m', c_call (d + 2) 41 [jR 71, jI p, jL x] (hH L m) = some (none, hH L m') ∧ kpt (fun b _ => 71 ≤ b ∧ b ≤ 79) m m' ∧ vC 71 (mosR T p x) m' := by
  obtain ⟨m1, q1, q2, q3⟩ := Q39_71 (d := d) (L := L) v (x := 50 + (p : Int)) (y := x) hR hC
  rw [E41, T41_0, w32_id (by omega) (by omega), q1]
  simp only [Option.bind_some, Option.toList_some, List.cons_append, List.nil_append]
  rw [T41_9]
  simp (disch := omega) only [w32_id, show ((tR T : Int) * 5 + (p : Int)).toNat = 5 * tR T + p by omega]
  rw [if_pos (by omega)]
  exact ⟨_, rfl, kpt_tr q2 (kpt_up (by omega)), vC_set (a := 71) q3 hp hC⟩
theorem L57 {d L : Nat} {m : j_M0} {T : TB} (v : vC 71 T m) (o : tOK T) : ∀ j k : Nat, k + j = tC T → j_fin (c_call (d + 2)) 57 2 [some (jR 71), some (jI k)] [] (hH L m) = some (some (jI (ff (fun p => decide (rightF T (p : Int) % tD T ≠ 0)) j k)), hH L m) := by
  have v0 := v.2.1
  have o1 := o.2.2.1
  intro j
  induction j with
  | zero =>
    intro k hk
    rw [T57_2, if_neg (by omega)]
    rfl
  | succ j ih =>
    intro k hk
    have ih' := ih (k + 1) (by omega)
    have h3 := rightF_r o (k : Int)
    rw [T57_2, if_pos (by omega), Q53_71 v o, ff]
    simp (disch := omega) only [Q43_71 v o, Option.bind_some, Option.toList_some, List.cons_append, List.nil_append, T57_16, T57_19, cmp_eq, nat1]
    grind
theorem Q57 {d L : Nat} {m : j_M0} {T : TB} (v : vC 71 T m) (o : tOK T) : c_call (d + 3) 57 [jR 71] (hH L m) = some (some (jI (partP T)), hH L m) := by
  rw [E57, T57_0]
  exact L57 v o (tC T) 0 (by omega)
/-- the class's tree of n packs is t -/
def sC (n : Nat) (t : TS) (m : j_M0) : Prop := m 68 0 = sN t ∧ m 68 1 = sP t ∧ (∀ k : Nat, k < sN t → m 69 k = sd t k) ∧ (∀ k p : Nat, k < sN t → p < n → m 70 (5 * k + p) = whoF t k p) ∧ (∀ k p : Nat, k < sN t → p < 5 → m 80 (5 * k + p) = sl t k p) ∧ (∀ k p : Nat, k < sN t → p < 5 → m 81 (5 * k + p) = sh t k p) ∧ (∀ k : Nat, k < sN t → m 82 k = tB (sT t k)) ∧ (∀ k : Nat, k < sN t → m 83 k = tD (sT t k)) ∧ (∀ k : Nat, k < sN t → m 84 k = partP (sT t k)) ∧ (∀ k : Nat, k < sN t → m 85 k = sw t k)
theorem sC_k {n : Nat} {t : TS} {m m' : j_M0} (s : sC n t m) (k : ∀ b z, 68 ≤ b → b ≤ 70 ∨ 80 ≤ b → b ≤ 85 → m' b z = m b z) : sC n t m' := by
  unfold sC at s ⊢
  simp (disch := omega) only [k]
  exact s
/-- the bounds come as rows -/
theorem L77a {d L : Nat} {K : PK} {t0 T0 : TB} {N : Nat} {l h : Nat → Int} (hN : N < 40) (ok : pOK K) (o : tOK T0) (hC : tC T0 ≤ 5) (hR : tR T0 ≤ 8) (b : bOK l h) : ∀ j p : Nat, p + j = pN K → ∀ m : j_M0, vC 71 (bouT l h T0 p) m → m 4 0 = pN K → (∀ q : Nat, q < 5 → m 80 (5 * N + q) = l q ∧ m 81 (5 * N + q) = h q) → ∃ m', j_fin (c_call (d + 2)) 77 25 [some (jR 68), some (jR 4), some (jI N), some (jI p), none] [] (hH L m) = j_fin (c_call (d + 2)) 77 25 [some (jR 68), some (jR 4), some (jI N), some (jI (pN K : Nat)), none] [] (hH L m') ∧ kpt (fun b _ => 71 ≤ b ∧ b ≤ 79) m m' ∧ vC 71 (bouT l h T0 (pN K)) m' := by
  have n5 := ok.2.1
  intro j
  induction j with
  | zero =>
    intro p hp m v k0 kb
    have e : p = pN K := by omega
    subst e
    exact ⟨m, rfl, kpt_rfl, v⟩
  | succ j ih =>
    intro p hp m v k0 kb
    have hp5 : p < 5 := by omega
    obtain ⟨a1, a2, a3⟩ := bouT_p o b hR p (by omega)
    obtain ⟨b1, b2, b3, b4⟩ := bouA_p a1 b hp5 (by omega)
    have hb := b p hp5
    have kp := kb p hp5
    have step2 : ∀ m1 : j_M0, kpt (fun b _ => 71 ≤ b ∧ b ≤ 79) m m1 → vC 71 (bouA l (bouT l h T0 p) p) m1 → ∃ m', j_fin (c_call (d + 2)) 77 66 [some (jR 68), some (jR 4), some (jI N), some (jI p), none] [] (hH L m1) = j_fin (c_call (d + 2)) 77 25 [some (jR 68), some (jR 4), some (jI N), some (jI (pN K : Nat)), none] [] (hH L m') ∧ kpt (fun b _ => 71 ≤ b ∧ b ≤ 79) m m' ∧ vC 71 (bouT l h T0 (pN K)) m' := by
      intro m1 g1 v1
      have y81 : m1 81 (5 * N + p) = h p := (kpt_at g1 (by omega)).trans kp.2
      have fin3 : ∀ m2 : j_M0, kpt (fun b _ => 71 ≤ b ∧ b ≤ 79) m m2 → vC 71 (bouT l h T0 (p + 1)) m2 → ∃ m', j_fin (c_call (d + 2)) 77 99 [some (jR 68), some (jR 4), some (jI N), some (jI p), none] [] (hH L m2) = j_fin (c_call (d + 2)) 77 25 [some (jR 68), some (jR 4), some (jI N), some (jI (pN K : Nat)), none] [] (hH L m') ∧ kpt (fun b _ => 71 ≤ b ∧ b ≤ 79) m m' ∧ vC 71 (bouT l h T0 (pN K)) m' := by
        intro m2 g2 v2
        obtain ⟨m3, t1, t2, t3⟩ := ih (p + 1) (by omega) m2 v2 ((kpt_at g2 (by omega)).trans k0) (fun q hq => ⟨(kpt_at g2 (by omega)).trans (kb q hq).1, (kpt_at g2 (by omega)).trans (kb q hq).2⟩)
        rw [T77_99, nat1 (by omega)]
        exact ⟨m3, t1, kpt_tr g2 t2, t3⟩
      rw [T77_66]
      simp (disch := omega) only [w32_id, show ((N : Int) * 5 + (p : Int)).toNat = 5 * N + p by omega, y81, cmp_lt]
      rw [if_pos (by omega)]
      by_cases e : h p < 0
      · rw [if_pos e]
        refine fin3 m1 g1 ?_
        show vC 71 (bouB h (bouA l (bouT l h T0 p) p) p) m1
        unfold bouB
        rw [if_neg (by omega)]
        exact v1
      · rw [if_neg e, if_pos (by omega)]
        obtain ⟨m2, q1, q2, q3⟩ := Q41 (d := d) (L := L) v1 (p := p) (x := h p) hp5 (by omega) (by omega)
        rw [q1]
        simp only [Option.bind_some, Option.toList_some, List.cons_append, List.nil_append, Option.toList_none]
        refine fin3 m2 (kpt_tr g1 q2) ?_
        show vC 71 (bouB h (bouA l (bouT l h T0 p) p) p) m2
        unfold bouB
        rw [if_pos (by omega)]
        exact q3
    rw [T77_25, if_pos (by omega)]
    simp (disch := omega) only [w32_id, show ((N : Int) * 5 + (p : Int)).toNat = 5 * N + p by omega, kp.1, cmp_gt]
    rw [if_pos (by omega)]
    by_cases e : 0 < l p
    · rw [if_pos e, if_pos (by omega)]
      obtain ⟨m2, q1, q2, q3⟩ := Q40 (d := d) (L := L) v (p := p) (x := l p) hp5 (by omega) (by omega) (by omega)
      rw [q1]
      simp only [Option.bind_some, Option.toList_some, List.cons_append, List.nil_append, Option.toList_none]
      refine step2 m2 q2 ?_
      unfold bouA
      rw [if_pos e]
      exact q3
    · rw [if_neg e]
      refine step2 m kpt_rfl ?_
      unfold bouA
      rw [if_neg e]
      exact v
/-- the floors come -/
theorem L77b {d L : Nat} {K : PK} {T : TB} {N : Nat} {x3 : Int} (hN : N < 40) (ok : pOK K) (o : tOK T) : ∀ j p : Nat, p + j = pN K → ∀ m : j_M0, vC 71 T m → m 4 0 = pN K → (∀ q : Nat, q < p → m 70 (5 * N + q) = rightF T (q : Int) / tD T) → ∃ m', j_fin (c_call (d + 3)) 77 187 [some (jR 68), some (jR 4), some (jI N), some (jI x3), some (jI p)] [] (hH L m) = some (some (jI (if x3 = -6 then 0 else 1)), hH L m') ∧ kpt (fun b z => b = 70 ∧ 5 * N ≤ z) m m' ∧ (∀ q : Nat, q < pN K → m' 70 (5 * N + q) = rightF T (q : Int) / tD T) := by
  have n5 := ok.2.1
  intro j
  induction j with
  | zero =>
    intro p hp m v k0 kb
    have e : p = pN K := by omega
    subst e
    rw [T77_187, if_neg (by omega)]
    split
    · exact ⟨m, rfl, kpt_rfl, kb⟩
    · exact ⟨m, rfl, kpt_rfl, kb⟩
  | succ j ih =>
    intro p hp m v k0 kb
    rw [T77_187, if_pos (by omega), Q54_71 (d := d) v o]
    simp only [Option.bind_some, Option.toList_some, List.cons_append, List.nil_append]
    rw [T77_215]
    simp (disch := omega) only [w32_id, nat1, show ((N : Int) * 5 + (p : Int)).toNat = 5 * N + p by omega]
    rw [if_pos (by omega)]
    obtain ⟨m', t1, t2, t3⟩ := ih (p + 1) (by omega) (j_up m 70 (5 * N + p) (rightF T (p : Int) / tD T)) (vC_k v (fun b z h h' => up_ne (by omega))) ((up_ne (by omega)).trans k0) (fun q hq => by
      rw [up_at]
      by_cases e : q = p
      · subst e; rw [if_pos rfl]
      · rw [if_neg (by omega)]; exact kb q (by omega))
    refine ⟨m', t1, kpt_tr (kpt_up ⟨rfl, by omega⟩) t2, t3⟩
theorem Q77 {d L : Nat} {K : PK} {t : TS} {m : j_M0} (w : vP 4 K m) (s : sC (pN K) t m) (si : sI K t) (hN : sN t < 40) {d0 : Int} {l h : Nat → Int} (b : bOK l h) (hd : m 69 (sN t) = d0) (hb : ∀ q : Nat, q < 5 → m 80 (5 * sN t + q) = l q ∧ m 81 (5 * sN t + q) = h q) : ∃ m', c_call (d + 5) 77 [jR 68, jR 4] (hH L m) = some (some (jI (if (relR K l h).1 = -6 then 0 else 1)), hH L m') ∧ kpt (fun b _ => 68 ≤ b ∧ b ≤ 85) m m' ∧ sC (pN K) (addN K t d0 l h) m' := by
  have ok := vP_ok w
  have n5 := ok.2.1
  have n8 := ok.2.2.1
  have ws := staF_w ok
  obtain ⟨s1, s2, s3, s4, s5, s6, s7, s8, s9, s10⟩ := s
  obtain ⟨m1, q1, q2, q3⟩ := Q38_71_4 (d := d + 1) (L := L) (K := K) (m := j_up m 68 0 ((sN t + 1 : Nat) : Int)) (vP_k w (fun b z h h' => up_ne (by omega)))
  rw [E77, T77_0, s1, nat1 (by omega), show c_call (d + 4) 38 _ _ = _ from q1]
  simp only [Option.bind_some, Option.toList_some, List.cons_append, List.nil_append, Option.toList_none]
  have y1 : ∀ b z, (b < 71 ∨ 79 < b) → b ≠ 68 → m1 b z = m b z := fun b z h h' => (kpt_at q2 (by omega)).trans (up_ne h')
  have y168 : ∀ z, m1 68 z = if z = 0 then ((sN t + 1 : Nat) : Int) else m 68 z := fun z => (kpt_at q2 (by omega)).trans up_at
  obtain ⟨m2, p1, p2, p3⟩ := L77a (d := d + 2) (L := L) (t0 := staF K (pR K)) hN ok ws.1 n5 n8 b (pN K) 0 (by omega) m1 q3 ((y1 _ _ (by omega) (by omega)).trans w.2.1) (fun q hq => ⟨(y1 _ _ (by omega) (by omega)).trans (hb q hq).1, (y1 _ _ (by omega) (by omega)).trans (hb q hq).2⟩)
  have p1' : j_fin (c_call (d + 4)) 77 25 [some (jR 68), some (jR 4), some (jI (sN t)), some (jI 0), none] [] (hH L m1) = _ := p1
  have w2 : m2 4 0 = pN K := (kpt_at p2 (by omega)).trans ((y1 _ _ (by omega) (by omega)).trans w.2.1)
  obtain ⟨ob1, ob2, ob3⟩ := bouT_p ws.1 b n8 (pN K) n5
  obtain ⟨m3, g1, g2, g3⟩ := Q45_71 (d := d) (L := L) p3 ob1
  have R := relR_p ok b
  have g3' : vC 71 (relR K l h).2 m3 := g3
  have g1' : c_call (d + 4) 45 [jR 71] (hH L m2) = some (some (jI (relR K l h).1), hH L m3) := g1
  have oT := R.1.1
  have oP := oT.2.2.2.1
  have kP := g3'.2.2.1
  have kB := g3'.2.2.2.1
  have kD := g3'.2.2.2.2.1
  rw [T77_23, p1', T77_25, if_neg (by omega), g1']
  simp only [Option.bind_some, Option.toList_some, List.cons_append, List.nil_append]
  have y3 : ∀ b z, (b < 71 ∨ 79 < b) → b ≠ 68 → m3 b z = m b z := fun b z h h' => (kpt_at g2 (by omega)).trans ((kpt_at p2 (by omega)).trans (y1 _ _ h h'))
  have y368 : ∀ z, m3 68 z = if z = 0 then ((sN t + 1 : Nat) : Int) else m 68 z := fun z => (kpt_at g2 (by omega)).trans ((kpt_at p2 (by omega)).trans (y168 z))
  have y3681 : m3 68 1 = sP t := by rw [y368, if_neg (by omega)]; exact s2
  have si2 := si.2.1
  have si3 := si.2.2.1
  rw [T77_112, y3681, kP, w32_id (by omega) (by omega)]
  have fin : ∀ wv : Int, wv = (if (relR K l h).1 = 3 then 1 else 0) → ∃ m', ((c_call (d + 4) 57 [jR 71] (hH L (j_up (j_up (j_up (j_up m3 68 1 (sP t + (tP (relR K l h).2 : Int))) 85 (sN t) wv) 82 (sN t) (tB (relR K l h).2)) 83 (sN t) (tD (relR K l h).2)))).bind fun z => j_fin (c_call (d + 4)) 77 183 [some (jR 68), some (jR 4), some (jI (sN t)), some (jI (relR K l h).1), none] (z.1.toList ++ [jI (sN t), jR 84]) z.2) = some (some (jI (if (relR K l h).1 = -6 then 0 else 1)), hH L m') ∧ kpt (fun b _ => 68 ≤ b ∧ b ≤ 85) m m' ∧ sC (pN K) (addN K t d0 l h) m' := by
    intro wv hw
    generalize hm4 : j_up (j_up (j_up (j_up m3 68 1 (sP t + (tP (relR K l h).2 : Int))) 85 (sN t) wv) 82 (sN t) (tB (relR K l h).2)) 83 (sN t) (tD (relR K l h).2) = m4
    have v4 : vC 71 (relR K l h).2 m4 := vC_k g3' (fun b z h h' => by rw [← hm4]; simp (disch := omega) only [up_ne])
    rw [show c_call (d + 4) 57 _ _ = _ from Q57 (d := d + 1) v4 oT]
    simp only [Option.bind_some, Option.toList_some, List.cons_append, List.nil_append]
    rw [T77_183, if_pos (by omega), Int.toNat_natCast]
    obtain ⟨m5, t1, t2, t3⟩ := L77b (d := d + 1) (L := L) (T := (relR K l h).2) (x3 := (relR K l h).1) hN ok oT (pN K) 0 (by omega) (j_up m4 84 (sN t) (partP (relR K l h).2)) (vC_k v4 (fun b z h h' => up_ne (by omega))) (by rw [up_ne (by omega), ← hm4]; simp (disch := omega) only [up_ne]; exact (y3 _ _ (by omega) (by omega)).trans w.2.1) (fun q hq => absurd hq (Nat.not_lt_zero q))
    have z5 : ∀ b z, b ≠ 70 → m5 b z = j_up m4 84 (sN t) (partP (relR K l h).2) b z := fun b z h => kpt_at t2 (by omega)
    have z70 : ∀ z, z < 5 * sN t → m5 70 z = m 70 z := fun z h => by
      rw [kpt_at t2 (by omega), up_ne (by omega), ← hm4]
      simp (disch := omega) only [up_ne]
      exact y3 _ _ (by omega) (by omega)
    have z68 : ∀ z, m5 68 z = if z = 1 then sP t + (tP (relR K l h).2 : Int) else m3 68 z := fun z => by
      rw [z5 _ _ (by omega), up_ne (by omega), ← hm4]
      simp (disch := omega) only [up_ne, up_at]
    have z69 : ∀ z, m5 69 z = m 69 z := fun z => by
      rw [z5 _ _ (by omega), up_ne (by omega), ← hm4]
      simp (disch := omega) only [up_ne]
      exact y3 _ _ (by omega) (by omega)
    have z80 : ∀ z, m5 80 z = m 80 z := fun z => by
      rw [z5 _ _ (by omega), up_ne (by omega), ← hm4]
      simp (disch := omega) only [up_ne]
      exact y3 _ _ (by omega) (by omega)
    have z81 : ∀ z, m5 81 z = m 81 z := fun z => by
      rw [z5 _ _ (by omega), up_ne (by omega), ← hm4]
      simp (disch := omega) only [up_ne]
      exact y3 _ _ (by omega) (by omega)
    have z82 : ∀ z, m5 82 z = if z = sN t then tB (relR K l h).2 else m 82 z := fun z => by
      rw [z5 _ _ (by omega), up_ne (by omega), ← hm4]
      simp (disch := omega) only [up_ne, up_at]
      rw [y3 _ _ (by omega) (by omega)]
    have z83 : ∀ z, m5 83 z = if z = sN t then tD (relR K l h).2 else m 83 z := fun z => by
      rw [z5 _ _ (by omega), up_ne (by omega), ← hm4]
      simp (disch := omega) only [up_ne, up_at]
      rw [y3 _ _ (by omega) (by omega)]
    have z84 : ∀ z, m5 84 z = if z = sN t then partP (relR K l h).2 else m 84 z := fun z => by
      rw [z5 _ _ (by omega), up_at, ← hm4]
      simp (disch := omega) only [up_ne, up_at]
      rw [y3 _ _ (by omega) (by omega)]
    have z85 : ∀ z, m5 85 z = if z = sN t then wv else m 85 z := fun z => by
      rw [z5 _ _ (by omega), up_ne (by omega), ← hm4]
      simp (disch := omega) only [up_ne, up_at]
      rw [y3 _ _ (by omega) (by omega)]
    refine ⟨m5, t1, fun b z => ?_, ?_⟩
    · by_cases e : 68 ≤ b ∧ b ≤ 85
      · exact Or.inl e
      · right
        rw [z5 _ _ (by omega), up_ne (by omega), ← hm4]
        simp (disch := omega) only [up_ne]
        exact y3 _ _ (by omega) (by omega)
    · unfold sC
      simp only [z68, z69, z80, z81, z82, z83, z84, z85]
      refine ⟨?_, rfl, fun k hk => ?_, fun k p hk hp => ?_, fun k p hk hp => ?_, fun k p hk hp => ?_, fun k hk => ?_, fun k hk => ?_, fun k hk => ?_, fun k hk => ?_⟩
      · rw [if_neg (by omega), y368, if_pos rfl]; rfl
      · replace hk : k < sN t + 1 := hk
        show _ = (if k = sN t then d0 else sd t k)
        by_cases e : k = sN t
        · rw [if_pos e, e]; exact hd
        · rw [if_neg e]; exact s3 k (by omega)
      · replace hk : k < sN t + 1 := hk
        show _ = rightF (if k = sN t then (relR K l h).2 else sT t k) (p : Int) / tD (if k = sN t then (relR K l h).2 else sT t k)
        by_cases e : k = sN t
        · rw [if_pos e, e]; exact t3 p hp
        · rw [if_neg e, z70 _ (by omega)]; exact s4 k p (by omega) hp
      · replace hk : k < sN t + 1 := hk
        show _ = (if k = sN t then l else sl t k) p
        by_cases e : k = sN t
        · rw [if_pos e, e]; exact (hb p hp).1
        · rw [if_neg e]; exact s5 k p (by omega) hp
      · replace hk : k < sN t + 1 := hk
        show _ = (if k = sN t then h else sh t k) p
        by_cases e : k = sN t
        · rw [if_pos e, e]; exact (hb p hp).2
        · rw [if_neg e]; exact s6 k p (by omega) hp
      · replace hk : k < sN t + 1 := hk
        show _ = tB (if k = sN t then (relR K l h).2 else sT t k)
        by_cases e : k = sN t
        · rw [if_pos e, if_pos e]
        · rw [if_neg e, if_neg e]; exact s7 k (by omega)
      · replace hk : k < sN t + 1 := hk
        show _ = tD (if k = sN t then (relR K l h).2 else sT t k)
        by_cases e : k = sN t
        · rw [if_pos e, if_pos e]
        · rw [if_neg e, if_neg e]; exact s8 k (by omega)
      · replace hk : k < sN t + 1 := hk
        show _ = partP (if k = sN t then (relR K l h).2 else sT t k)
        by_cases e : k = sN t
        · rw [if_pos e, if_pos e]
        · rw [if_neg e, if_neg e]; exact s9 k (by omega)
      · replace hk : k < sN t + 1 := hk
        show _ = (if k = sN t then (if (relR K l h).1 = 3 then 1 else 0) else sw t k)
        by_cases e : k = sN t
        · rw [if_pos e, if_pos e]; exact hw
        · rw [if_neg e, if_neg e]; exact s10 k (by omega)
  by_cases e : (relR K l h).1 = 3
  · rw [if_pos e, if_pos (by omega), if_pos (by omega), if_pos (by omega), Int.toNat_natCast]
    have f := fin 1 (by rw [if_pos e])
    simp (disch := omega) only [up_ne, kB, kD]
    exact f
  · rw [if_neg e, if_pos (by omega), if_pos (by omega), if_pos (by omega), Int.toNat_natCast]
    have f := fin 0 (by rw [if_neg e])
    simp (disch := omega) only [up_ne, kB, kD]
    exact f
