/-! The model branches. -/
theorem L223r {C : Nat → List j_V → j_H → Option j_Z} {L N : Nat} (hN : N < 40) {x2 x3 x4 : Int} : ∀ j p : Nat, p + j = 5 → ∀ m : j_M0, (∀ q : Nat, q < p → m 144 (5 * N + q) = 0 ∧ m 145 (5 * N + q) = (-1)) → ∃ m', j_fin C 223 31 [some (jR 109), some (jI (-1)), some (jI x2), some (jI x3), some (jI x4), some (jI N), some (jI p)] [] (hH L m) = j_fin C 223 31 [some (jR 109), some (jI (-1)), some (jI x2), some (jI x3), some (jI x4), some (jI N), some (jI (5 : Nat))] [] (hH L m') ∧ kpt (fun b z => (b = 144 ∨ b = 145) ∧ 5 * N ≤ z) m m' ∧ (∀ q : Nat, q < 5 → m' 144 (5 * N + q) = 0 ∧ m' 145 (5 * N + q) = (-1)) := by
  intro j
  induction j with
  | zero =>
    intro p hp m a1
    have e : p = 5 := by omega
    subst e
    exact ⟨m, rfl, kpt_rfl, a1⟩
  | succ j ih =>
    intro p hp m a1
    rw [T223_31]
    have e1 : w32 (w32 (5 * (N : Int)) + (p : Int)) = 5 * (N : Int) + (p : Int) := by simp (disch := omega) only [w32_id]
    have e2 : (5 * (N : Int) + (p : Int)).toNat = 5 * N + p := by omega
    rw [if_pos (by omega), if_pos (by omega), if_pos (by omega), if_pos (by omega), if_pos (by omega), e1, e2, nat1 (by omega)]
    obtain ⟨m', t1, t2, t3⟩ := ih (p + 1) (by omega) (j_up (j_up m 144 (5 * N + p) 0) 145 (5 * N + p) (-1)) (fun q hq => by
      rw [up_ne (by omega), up_at, up_at, up_ne (by omega)]
      by_cases e : q = p
      · subst e; rw [if_pos rfl, if_pos rfl]; exact ⟨rfl, rfl⟩
      · rw [if_neg (by omega), if_neg (by omega)]; exact a1 q (by omega))
    exact ⟨m', t1, kpt_tr (kpt_tr (kpt_up ⟨Or.inl rfl, by omega⟩) (kpt_up ⟨Or.inr rfl, by omega⟩)) t2, t3⟩
theorem L223k {C : Nat → List j_V → j_H → Option j_Z} {L N : Nat} (hN : N < 40) {k : Nat} (hk : k < N) {l h : Nat → Int} {x2 x3 x4 : Int} : ∀ j p : Nat, p + j = 5 → ∀ m : j_M0, (∀ q : Nat, q < 5 → m 144 (5 * k + q) = l q ∧ m 145 (5 * k + q) = h q) → (∀ q : Nat, q < p → m 144 (5 * N + q) = (l q) ∧ m 145 (5 * N + q) = (h q)) → ∃ m', j_fin C 223 31 [some (jR 109), some (jI k), some (jI x2), some (jI x3), some (jI x4), some (jI N), some (jI p)] [] (hH L m) = j_fin C 223 31 [some (jR 109), some (jI k), some (jI x2), some (jI x3), some (jI x4), some (jI N), some (jI (5 : Nat))] [] (hH L m') ∧ kpt (fun b z => (b = 144 ∨ b = 145) ∧ 5 * N ≤ z) m m' ∧ (∀ q : Nat, q < 5 → m' 144 (5 * N + q) = (l q) ∧ m' 145 (5 * N + q) = (h q)) := by
  intro j
  induction j with
  | zero =>
    intro p hp m a0 a1
    have e : p = 5 := by omega
    subst e
    exact ⟨m, rfl, kpt_rfl, a1⟩
  | succ j ih =>
    intro p hp m a0 a1
    rw [T223_31]
    have e1 : w32 (w32 (5 * (N : Int)) + (p : Int)) = 5 * (N : Int) + (p : Int) := by simp (disch := omega) only [w32_id]
    have e2 : (5 * (N : Int) + (p : Int)).toNat = 5 * N + p := by omega
    have e3 : w32 (w32 (5 * (k : Int)) + (p : Int)) = 5 * (k : Int) + (p : Int) := by simp (disch := omega) only [w32_id]
    have e4 : (5 * (k : Int) + (p : Int)).toNat = 5 * k + p := by omega
    rw [if_pos (by omega), if_neg (by omega), if_pos (by omega), if_pos (by omega), if_neg (by omega), if_pos (by omega), if_pos (by omega), e1, e2, e3, e4, nat1 (by omega), up_ne (by omega), (a0 p (by omega)).1, (a0 p (by omega)).2]
    obtain ⟨m', t1, t2, t3⟩ := ih (p + 1) (by omega) (j_up (j_up m 144 (5 * N + p) (l p)) 145 (5 * N + p) (h p)) (fun q hq => ⟨(up_ne (by omega)).trans ((up_nj (by omega)).trans (a0 q hq).1), (up_nj (by omega)).trans ((up_ne (by omega)).trans (a0 q hq).2)⟩) (fun q hq => by
      rw [up_ne (by omega), up_at, up_at, up_ne (by omega)]
      by_cases e : q = p
      · subst e; rw [if_pos rfl, if_pos rfl]; exact ⟨rfl, rfl⟩
      · rw [if_neg (by omega), if_neg (by omega)]; exact a1 q (by omega))
    exact ⟨m', t1, kpt_tr (kpt_tr (kpt_up ⟨Or.inl rfl, by omega⟩) (kpt_up ⟨Or.inr rfl, by omega⟩)) t2, t3⟩
theorem sM_21 {n : Nat} {t : TS} {m m' : j_M0} (s : sM n t m) (hn : n ≤ 5) (k : ∀ b z, (b = 109 → z = 22 → m' b z = m b z) ∧ (b = 146 → z < sN t → m' b z = m b z) ∧ (b = 147 ∨ b = 144 ∨ b = 145 → z < 5 * sN t → m' b z = m b z) ∧ (148 ≤ b → b ≤ 150 → m' b z = m b z)) : sM n t (j_up m' 109 21 (sN t)) := sM_j s hn (fun b z => ⟨fun h h' => by
    by_cases e : z = 21
    · subst h; subst e; rw [up_eq rfl]; exact s.1.symm
    · subst h; rw [up_nj e]; exact (k 109 z).1 rfl (by omega), fun h h' => (up_ne (by omega)).trans ((k b z).2.1 h h'), fun h h' => (up_ne (by omega)).trans ((k b z).2.2.1 h h'), fun h h' => (up_ne (by omega)).trans ((k b z).2.2.2 h h')⟩)
theorem Q223r {d L : Nat} {K : PK} {m : j_M0} (w : vG K m) (ok : pOK K) (s : sM (pN K) t00 m) : ∃ m', c_call (d + 6) 223 [jR 109, jI (-1), jI 0, jI 0, jI (-1)] (hH L m) = some (some (jI (if (relR K (fun _ => 0) (fun _ => -1)).1 = -6 then -6 else 1)), hH L m') ∧ kpt (fun b z => 128 ≤ b ∧ b ≤ 150 ∨ b = 109 ∧ 21 ≤ z ∧ z ≤ 23) m m' ∧ sM (pN K) (t01 K) m' := by
  have n5 := ok.2.1
  have s1 : m 109 21 = 0 := s.1
  rw [E223, T223_0, s1, if_neg (by decide), show w32 (0 + 1) = ((0 + 1 : Nat) : Int) from rfl]
  obtain ⟨m1, q1, q2, q3⟩ := L223r (C := c_call (d + 5)) (L := L) (N := 0) (by omega) (x2 := 0) (x3 := 0) (x4 := -1) 5 0 (by omega) (j_up m 109 21 ((0 + 1 : Nat) : Int)) (fun q hq => absurd hq (Nat.not_lt_zero q))
  have q1' : j_fin (c_call (d + 5)) 223 31 [some (jR 109), some (jI (-1)), some (jI 0), some (jI 0), some (jI (-1)), some (jI 0), some (jI 0)] [] (hH L (j_up m 109 21 ((0 + 1 : Nat) : Int))) = _ := q1
  rw [q1', T223_31, if_neg (by omega), if_pos (by omega), if_pos (by omega), if_neg (by omega), if_pos (by omega)]
  have y : ∀ b z, b ≠ 144 → b ≠ 145 → b ≠ 146 → ¬ (b = 109 ∧ z = 21) → (j_up m1 146 (Int.toNat ((0 : Nat) : Int)) 0) b z = m b z := fun b z h h' h'' h3 => by
    rw [up_ne h'', kpt_at q2 (by omega)]
    by_cases e : b = 109
    · subst e; exact up_nj (by omega)
    · exact up_ne e
  generalize hm2 : j_up m1 146 (Int.toNat ((0 : Nat) : Int)) 0 = m2 at y ⊢
  have k21 : m2 109 21 = ((0 + 1 : Nat) : Int) := by rw [← hm2, up_ne (by omega), kpt_at q2 (by omega), up_eq rfl]
  have k146 : m2 146 0 = 0 := by rw [← hm2]; exact up_eq rfl
  obtain ⟨m3, p1, p2, p3⟩ := Q225 (d := d) (L := L) (K := K) (t := t00) (m := m2) (vG_k w (fun z => y _ _ (by omega) (by omega) (by omega) (by omega))) ok (sM_21 s n5 (fun b z => ⟨fun h h' => y _ _ (by omega) (by omega) (by omega) (by omega), fun h h' => absurd h' (Nat.not_lt_zero z), fun h h' => absurd h' (by
      show ¬ z < 5 * 0
      omega), fun h h' => y _ _ (by omega) (by omega) (by omega) (by omega)⟩)) k21 (t00_p K) (by decide) (d0 := 0) (l := fun _ => 0) (h := fun _ => -1) b0_ok k146 (fun q hq => by
    have := q3 q hq
    rw [← hm2, up_ne (by omega), up_ne (by omega)]
    exact this)
  rw [show c_call (d + 5) 225 [jR 109, jI ((0 : Nat) : Int)] (hH L m2) = _ from p1]
  simp only [Option.bind_some, Option.toList_some, List.cons_append, List.nil_append]
  rw [T223_168]
  refine ⟨m3, rfl, fun b z => ?_, p3⟩
  by_cases e : 128 ≤ b ∧ b ≤ 150 ∨ b = 109 ∧ 21 ≤ z ∧ z ≤ 23
  · exact Or.inl e
  · right
    rw [kpt_at p2 (by omega), y _ _ (by omega) (by omega) (by omega) (by omega)]
theorem Q223k {d L : Nat} {K : PK} {t : TS} {m : j_M0} (w : vG K m) (ok : pOK K) (s : sM (pN K) t m) (si : sI K t) (hN : sN t < 40) {k p : Nat} (hk : k < sN t) (hp : p < 5) {le mo : Int} {l h : Nat → Int} (b : bOK l h) (hc : (0 < le ∧ le ≤ 2000000000 ∧ mo = -1 ∧ l = setL (sl t k) p le ∧ h = sh t k) ∨ (le = 0 ∧ 0 ≤ mo ∧ l = sl t k ∧ h = setL (sh t k) p mo)) : ∃ m', c_call (d + 6) 223 [jR 109, jI k, jI p, jI le, jI mo] (hH L m) = some (some (jI (if (relR K l h).1 = -6 then -6 else 1)), hH L m') ∧ kpt (fun b z => 128 ≤ b ∧ b ≤ 150 ∨ b = 109 ∧ 21 ≤ z ∧ z ≤ 23) m m' ∧ sM (pN K) (addN K t (sd t k + 1) l h) m' := by
  have n5 := ok.2.1
  have s1 := s.1
  have hd := si.2.2.2.1 k hk
  have s3 := s.2.2.1 k hk
  rw [E223, T223_0, s1, if_neg (by omega), nat1 (by omega)]
  obtain ⟨m1, q1, q2, q3⟩ := L223k (C := c_call (d + 5)) (L := L) (N := sN t) hN hk (l := sl t k) (h := sh t k) (x2 := p) (x3 := le) (x4 := mo) 5 0 (by omega) (j_up m 109 21 ((sN t + 1 : Nat) : Int)) (fun q hq => ⟨(up_ne (by omega)).trans (s.2.2.2.2.1 k q hk hq), (up_ne (by omega)).trans (s.2.2.2.2.2.1 k q hk hq)⟩) (fun q hq => absurd hq (Nat.not_lt_zero q))
  have q1' : j_fin (c_call (d + 5)) 223 31 [some (jR 109), some (jI k), some (jI p), some (jI le), some (jI mo), some (jI (sN t)), some (jI 0)] [] (hH L (j_up m 109 21 ((sN t + 1 : Nat) : Int))) = _ := q1
  rw [q1', T223_31, if_neg (by omega), if_neg (by omega), if_pos (by omega), if_pos (by omega)]
  have k146 : m1 146 k = sd t k := by rw [kpt_at q2 (by omega), up_ne (by omega)]; exact s3
  simp (disch := omega) only [Int.toNat_natCast, w32_id, k146, show (5 * (sN t : Int) + (p : Int)).toNat = 5 * sN t + p by omega]
  have fin : ∀ m2 : j_M0, (∀ b z, b ≠ 144 → b ≠ 145 → ¬ (b = 146 ∧ z = sN t) → m2 b z = m1 b z) → (∀ z, z < 5 * sN t → m2 144 z = m1 144 z ∧ m2 145 z = m1 145 z) → m2 146 (sN t) = sd t k + 1 → (∀ q : Nat, q < 5 → m2 144 (5 * sN t + q) = l q ∧ m2 145 (5 * sN t + q) = h q) → ∃ m', ((c_call (d + 5) 225 [jR 109, jI (sN t)] (hH L m2)).bind fun z => j_fin (c_call (d + 5)) 223 168 [some (jR 109), some (jI k), some (jI p), some (jI le), some (jI mo), some (jI (sN t)), some (jI (5 : Nat))] (z.1.toList ++ []) z.2) = some (some (jI (if (relR K l h).1 = -6 then -6 else 1)), hH L m') ∧ kpt (fun b z => 128 ≤ b ∧ b ≤ 150 ∨ b = 109 ∧ 21 ≤ z ∧ z ≤ 23) m m' ∧ sM (pN K) (addN K t (sd t k + 1) l h) m' := by
    intro m2 g1 g2 g3 g4
    have y : ∀ b z, b ≠ 144 → b ≠ 145 → ¬ (b = 146 ∧ z = sN t) → ¬ (b = 109 ∧ z = 21) → m2 b z = m b z := fun b z h1 h2 h3 h4 => by
      rw [g1 b z h1 h2 h3, kpt_at q2 (by omega)]
      by_cases e : b = 109
      · subst e; exact up_nj (by omega)
      · exact up_ne e
    have y21 : m2 109 21 = ((sN t + 1 : Nat) : Int) := by rw [g1 _ _ (by omega) (by omega) (by omega), kpt_at q2 (by omega), up_eq rfl]
    obtain ⟨m3, p1, p2, p3⟩ := Q225 (d := d) (L := L) (K := K) (t := t) (m := m2) (vG_k w (fun z => y _ _ (by omega) (by omega) (by omega) (by omega))) ok (sM_21 s n5 (fun b z => ⟨fun h h' => y _ _ (by omega) (by omega) (by omega) (by omega), fun h h' => y _ _ (by omega) (by omega) (by omega) (by omega), fun h h' => by
      by_cases e1 : b = 144
      · subst e1; rw [(g2 z h').1, kpt_at q2 (by omega), up_ne (by omega)]
      · by_cases e2 : b = 145
        · subst e2; rw [(g2 z h').2, kpt_at q2 (by omega), up_ne (by omega)]
        · exact y _ _ e1 e2 (by omega) (by omega), fun h h' => y _ _ (by omega) (by omega) (by omega) (by omega)⟩)) y21 si hN b g3 g4
    rw [p1]
    simp only [Option.bind_some, Option.toList_some, List.cons_append, List.nil_append]
    rw [T223_168]
    refine ⟨m3, rfl, fun b z => ?_, p3⟩
    by_cases e : 128 ≤ b ∧ b ≤ 150 ∨ b = 109 ∧ 21 ≤ z ∧ z ≤ 23
    · exact Or.inl e
    · right
      rw [kpt_at p2 (by omega), y _ _ (by omega) (by omega) (by omega) (by omega)]
  rcases hc with ⟨c1, c5, c2, c3, c4⟩ | ⟨c1, c2, c3, c4⟩
  · rw [if_pos c1, if_pos (by omega), if_pos (by omega)]
    refine fin _ (fun b z h1 h2 h3 => ?_) (fun z hz => ⟨?_, ?_⟩) ?_ (fun q hq => ⟨?_, ?_⟩)
    · rw [up_ne h1]
      by_cases e : b = 146
      · subst e; exact up_nj (by omega)
      · exact up_ne e
    · rw [up_nj (by omega), up_ne (by omega)]
    · rw [up_ne (by omega), up_ne (by omega)]
    · rw [up_ne (by omega), up_eq rfl]
    · rw [c3, up_at]
      unfold setL
      by_cases e : q = p
      · subst e; rw [if_pos rfl, if_pos rfl]
      · rw [if_neg (by omega), if_neg e, up_ne (by omega)]; exact (q3 q hq).1
    · rw [c4, up_ne (by omega), up_ne (by omega)]; exact (q3 q hq).2
  · rw [if_neg (by omega), if_neg (by omega), if_pos (by omega)]
    refine fin _ (fun b z h1 h2 h3 => ?_) (fun z hz => ⟨?_, ?_⟩) ?_ (fun q hq => ⟨?_, ?_⟩)
    · rw [up_ne h2]
      by_cases e : b = 146
      · subst e; exact up_nj (by omega)
      · exact up_ne e
    · rw [up_ne (by omega), up_ne (by omega)]
    · rw [up_nj (by omega), up_ne (by omega)]
    · rw [up_ne (by omega), up_eq rfl]
    · rw [c3, up_ne (by omega), up_ne (by omega)]; exact (q3 q hq).1
    · rw [c4, up_at]
      unfold setL
      by_cases e : q = p
      · subst e; rw [if_pos rfl, if_pos rfl]
      · rw [if_neg (by omega), if_neg e, up_ne (by omega)]; exact (q3 q hq).2
theorem Q223f {d L : Nat} {m : j_M0} (s : m 109 21 = 40) {a b c e : Int} : c_call (d + 1) 223 [jR 109, jI a, jI b, jI c, jI e] (hH L m) = some (some (jI (-6)), hH L m) := by
  rw [E223, T223_0, if_pos s]
theorem L226 {C : Nat → List j_V → j_H → Option j_Z} {L : Nat} {K : PK} {t : TS} {m : j_M0} (s : sM (pN K) t m) (si : sI K t) : ∀ j k : Nat, k + j = sN t → j_fin C 226 4 [some (jR 109), some (jI (hopF t k)), some (jI k)] [] (hH L m) = some (some (jI (hopF t (sN t))), hH L m) := by
  have i1 := si.1
  have s1 := s.1
  intro j
  induction j with
  | zero =>
    intro k hk
    rw [T226_4, if_neg (by omega), show k = sN t by omega]
  | succ j ih =>
    intro k hk
    have ih' := ih (k + 1) (by omega)
    have hb := hopF_b t k
    have k85 := s.2.2.2.2.2.2.2.2 k (by omega)
    have k82 := s.2.2.2.2.2.2.1 k (by omega)
    have k83 := s.2.2.2.2.2.2.2.1 k (by omega)
    rw [T226_4, if_pos (by omega), if_pos (by omega), nat1 (by omega), Int.toNat_natCast, k85, k82, k83]
    rw [hopF] at ih'
    by_cases e1 : sw t k = 0
    · rw [if_pos e1]
      rw [if_neg (fun h => h.1 e1)] at ih'
      exact ih'
    · rw [if_neg e1]
      by_cases e2 : hopF t k < 0
      · rw [if_pos e2]
        rw [if_pos ⟨e1, Or.inl e2⟩] at ih'
        exact ih'
      · obtain ⟨f, hf⟩ : ∃ f : Nat, hopF t k = f := ⟨_, (Int.toNat_of_nonneg (by omega)).symm⟩
        have h82 := s.2.2.2.2.2.2.1 f (by omega)
        have h83 := s.2.2.2.2.2.2.2.1 f (by omega)
        have a1 := (si.2.2.2.2.2 k (by omega)).1
        have a2 := (si.2.2.2.2.2 f (by omega)).1
        have b1 := a1.2.2.2.2.1
        have b2 := a1.2.2.2.2.2.1
        have b3 := a1.2.2.2.2.2.2.1
        have b4 := a1.2.2.2.2.2.2.2.1
        have c1 := a2.2.2.2.2.1
        have c2 := a2.2.2.2.2.2.1
        have c3 := a2.2.2.2.2.2.2.1
        have c4 := a2.2.2.2.2.2.2.2.1
        have p1 := mul_r (x := tB (sT t k)) (y := tD (sT t f)) (a := 1000000000) (b := 1000000000) (by omega) (by omega) (by omega) (by omega)
        have p2 := mul_r (x := tB (sT t f)) (y := tD (sT t k)) (a := 1000000000) (b := 1000000000) (by omega) (by omega) (by omega) (by omega)
        rw [if_neg e2]
        rw [hf] at ih' ⊢
        rw [if_pos (by omega), if_pos (by omega), if_pos (by omega), if_pos (by omega), Int.toNat_natCast, h82, h83, w64_id (by omega) (by omega), w64_id (by omega) (by omega)]
        rw [Int.toNat_natCast] at ih'
        simp only [cmp_lt]
        by_cases e3 : tB (sT t k) * tD (sT t f) < tB (sT t f) * tD (sT t k)
        · rw [if_pos e3]
          rw [if_pos ⟨e1, Or.inr e3⟩] at ih'
          exact ih'
        · rw [if_neg e3]
          rw [if_neg (fun h => by
            rcases h.2 with h | h
            · omega
            · exact e3 h)] at ih'
          exact ih'
theorem Q226 {d L : Nat} {K : PK} {t : TS} {m : j_M0} (s : sM (pN K) t m) (si : sI K t) : c_call (d + 1) 226 [jR 109] (hH L m) = some (some (jI (hopF t (sN t))), hH L m) := by
  rw [E226, T226_0]
  exact L226 s si (sN t) 0 (by omega)
theorem L227 {d L : Nat} {K : PK} {t : TS} {m : j_M0} (s : sM (pN K) t m) (si : sI K t) (k0 : m 110 0 = pN K) (ok : pOK K) {k : Nat} (hk : k < sN t) : ∀ j p : Nat, p + j = pN K → j_fin (c_call (d + 1)) 227 2 [some (jR 109), some (jI k), some (jI p)] [] (hH L m) = some (some (jI (ff (fun p => decide (rightF (sT t k) (p : Int) % tD (sT t k) ≠ 0)) j p)), hH L m) := by
  have n5 := ok.2.1
  have i1 := si.1
  have nk := si.2.2.2.2.2 k hk
  have d1 := nk.1.2.2.2.2.1
  have k149 := s.2.2.2.2.2.2.2.1 k hk
  intro j
  induction j with
  | zero =>
    intro p hp
    rw [T227_2, Q151]
    simp only [Option.bind_some, Option.toList_some, List.cons_append, List.nil_append]
    rw [T227_7, if_neg (by omega)]
    rfl
  | succ j ih =>
    intro p hp
    have ih' := ih (p + 1) (by omega)
    have k147 := s.2.2.2.1 k p hk (by omega)
    rw [T227_2, Q151]
    simp only [Option.bind_some, Option.toList_some, List.cons_append, List.nil_append]
    rw [T227_7, if_pos (by omega)]
    simp (disch := omega) only [w32_id, nat1, Int.toNat_natCast, show (5 * (k : Int) + (p : Int)).toNat = 5 * k + p by omega, k147, k149, cmp_eq]
    rw [if_pos (by omega), if_pos (by omega), if_neg (by omega)]
    simp only [tm_0 (x := rightF (sT t k) (p : Int)) (y := tD (sT t k)) (by omega)]
    rw [ff]
    by_cases e : rightF (sT t k) (p : Int) % tD (sT t k) = 0
    · rw [if_pos e, if_neg (by rw [decide_eq_true_eq]; exact fun h => h e)]
      exact ih'
    · rw [if_neg e, if_pos (by rw [decide_eq_true_eq]; exact e)]
theorem Q227 {d L : Nat} {K : PK} {t : TS} {m : j_M0} (s : sM (pN K) t m) (si : sI K t) (k0 : m 110 0 = pN K) (ok : pOK K) {k : Nat} (hk : k < sN t) : c_call (d + 2) 227 [jR 109, jI k] (hH L m) = some (some (jI (partP (sT t k))), hH L m) := by
  have nk := si.2.2.2.2.2 k hk
  rw [E227, T227_0]
  unfold partP
  rw [nk.2.1]
  exact L227 s si k0 ok hk (pN K) 0 (by omega)
def brO (n : Nat) (r : Int × TS) (m : j_M0) : Prop := m 109 21 = sN r.2 ∧ m 109 22 = sP r.2 ∧ (0 ≤ r.1 → sM n (offN r.2 r.1.toNat) m ∧ m 109 23 = r.1)
theorem L228 {d L : Nat} {K : PK} : ∀ (f : Nat) (t : TS) (m : j_M0) (o2 o3 o4 : Option j_V), sN t + 2 * f = 43 → vG K m → pOK K → sM (pN K) t m → sI K t → ∃ m', j_fin (c_call (d + 6)) 228 19 [some (jR 109), some (jI 1), o2, o3, o4] [] (hH L m) = some (some (jI (if 0 ≤ (groF K f t).1 then 1 else (groF K f t).1)), hH L m') ∧ kpt (fun b z => 128 ≤ b ∧ b ≤ 150 ∨ b = 109 ∧ 21 ≤ z ∧ z ≤ 23) m m' ∧ brO (pN K) (groF K f t) m' := by
  intro f
  induction f with
  | zero =>
    intro t m o2 o3 o4 h w ok s si
    have := si.1
    omega
  | succ f ih =>
    intro t m o2 o3 o4 h w ok s si
    have n5 := ok.2.1
    have i1 := si.1
    have hb := hopF_b t (sN t)
    rw [T228_19, if_pos rfl, show c_call (d + 6) 226 _ _ = _ from Q226 (d := d + 5) s si]
    simp only [Option.bind_some, Option.toList_some, List.cons_append, List.nil_append]
    rw [T228_28]
    unfold groF
    by_cases e1 : hopF t (sN t) < 0
    · rw [if_pos e1, if_pos e1]
      exact ⟨m, rfl, kpt_rfl, s.1, s.2.1, fun h => absurd (show (0 : Int) ≤ -5 from h) (by decide)⟩
    · rw [if_neg e1, if_neg e1]
      obtain ⟨k, hk⟩ : ∃ k : Nat, hopF t (sN t) = k := ⟨_, (Int.toNat_of_nonneg (by omega)).symm⟩
      rw [hk] at hb e1 ⊢
      rw [Int.toNat_natCast] at hb ⊢
      have oo := offN_p si k
      have so : sM (pN K) (offN t k) (j_up (j_up m 150 k 0) 109 23 k) := by
        obtain ⟨s1, s2, s3, s4, s5, s6, s7, s8, s10⟩ := s
        unfold sM
        simp (disch := omega) only [up_ne, up_nj]
        refine ⟨s1, s2, s3, s4, s5, s6, s7, s8, fun i hi => ?_⟩
        show _ = (if i = k then 0 else sw t i)
        rw [up_at]
        split
        · rfl
        · exact s10 i hi
      have w1 : vG K (j_up (j_up m 150 k 0) 109 23 k) := vG_k w (fun z => by rw [up_ne (by omega), up_ne (by omega)])
      have g1 : kpt (fun b z => 128 ≤ b ∧ b ≤ 150 ∨ b = 109 ∧ 21 ≤ z ∧ z ≤ 23) m (j_up (j_up m 150 k 0) 109 23 k) := kpt_tr (kpt_up (Or.inl (by omega))) (kpt_up (Or.inr (by omega)))
      have k23 : (j_up (j_up m 150 k 0) 109 23 (k : Int)) 109 23 = k := up_eq rfl
      rw [if_pos (by omega)]
      generalize j_up (j_up m 150 k 0) 109 23 (k : Int) = m1 at so w1 g1 k23 ⊢
      rw [show c_call (d + 6) 227 _ _ = _ from Q227 (d := d + 4) so oo w1.2.1 ok (show k < sN t by omega)]
      simp only [Option.bind_some, Option.toList_some, List.cons_append, List.nil_append]
      have eT : sT (offN t k) k = sT t k := rfl
      rw [T228_53, eT]
      by_cases e2 : partP (sT t k) < 0
      · rw [if_pos e2, if_pos e2]
        exact ⟨m1, by rw [if_pos (show (0 : Int) ≤ ((k : Int), t).1 from by show (0 : Int) ≤ (k : Int); omega)], g1, so.1, so.2.1, fun _ => ⟨so, k23⟩⟩
      · rw [if_neg e2, if_neg e2]
        obtain ⟨p, hp⟩ : ∃ p : Nat, partP (sT t k) = p := ⟨_, (Int.toNat_of_nonneg (by omega)).symm⟩
        have nk := si.2.2.2.2.2 k (by omega)
        have d1 := nk.1.2.2.2.2.1
        have pb := partP_b (sT t k)
        have hpn : p < pN K := by have := nk.2.1; omega
        rw [hp, Int.toNat_natCast]
        have hw := whoF_r si (k := k) (p := p) (by omega) (by omega) (by omega)
        have hb0 := si.2.2.2.2.1 k (by omega)
        have k147 := so.2.2.2.1 k p (show k < sN t by omega) hpn
        have k149 := so.2.2.2.2.2.2.2.1 k (show k < sN t by omega)
        rw [eT] at k147 k149
        have td : (rightF (sT t k) (p : Int)).tdiv (tD (sT t k)) = whoF t k p := (fd_0 (by omega) hw.2.2.1).symm
        simp (disch := omega) only [w32_id, Int.toNat_natCast, show (5 * (k : Int) + (p : Int)).toNat = 5 * k + p by omega, k147, k149, td, w64_id]
        rw [if_pos (by omega), if_pos (by omega), if_neg (by omega)]
        have hsN : sN (offN t k) = sN t := rfl
        unfold splF
        rw [hsN]
        have e7 : sd (offN t k) k = sd t k := rfl
        have e8 : sl (offN t k) k = sl t k := rfl
        have e9 : sh (offN t k) k = sh t k := rfl
        have e10 : whoF (offN t k) k p = whoF t k p := rfl
        rw [e7, e8, e9, e10]
        by_cases hN : sN t < 40
        · rw [if_pos hN]
          obtain ⟨m2, q1, q2, q3⟩ := Q223k (d := d) (L := L) w1 ok so oo hN (k := k) (p := p) (show k < sN t by omega) (by omega) (le := 0) (mo := whoF t k p) (l := sl t k) (h := setL (sh t k) p (whoF t k p)) (setL_h hb0 ⟨hw.1, hw.2.1⟩) (Or.inr ⟨rfl, hw.1, rfl, rfl⟩)
          rw [e7] at q3
          rw [q1]
          simp only [Option.bind_some, Option.toList_some, List.cons_append, List.nil_append]
          rw [T228_89]
          have g2 := kpt_tr g1 q2
          by_cases e3 : (relR K (sl t k) (setL (sh t k) p (whoF t k p))).1 = -6
          · rw [if_pos e3, if_neg (by decide), if_pos e3, T228_19, if_neg (by decide)]
            exact ⟨m2, rfl, g2, q3.1, q3.2.1, fun h => absurd (show (0 : Int) ≤ -6 from h) (by decide)⟩
          · rw [if_neg e3, if_pos rfl, if_neg e3]
            have si1 := addN_p ok oo hN (d0 := sd t k + 1) (by have := oo.2.2.2.1 k (show k < sN t by omega); rw [e7] at this; omega) (setL_h (p := p) hb0 ⟨hw.1, hw.2.1⟩)
            have hNa : sN (addN K (offN t k) (sd t k + 1) (sl t k) (setL (sh t k) p (whoF t k p))) = sN t + 1 := rfl
            have e5 : ∀ (γ : Type) (x y : γ), (if k = sN (offN t k) then x else y) = y := fun γ x y => if_neg (by omega)
            have hda : sd (addN K (offN t k) (sd t k + 1) (sl t k) (setL (sh t k) p (whoF t k p))) k = sd t k := e5 _ _ _
            have hla : sl (addN K (offN t k) (sd t k + 1) (sl t k) (setL (sh t k) p (whoF t k p))) k = sl t k := e5 _ _ _
            have hha : sh (addN K (offN t k) (sd t k + 1) (sl t k) (setL (sh t k) p (whoF t k p))) k = sh t k := e5 _ _ _
            generalize hta : addN K (offN t k) (sd t k + 1) (sl t k) (setL (sh t k) p (whoF t k p)) = ta at q3 si1 hNa hda hla hha ⊢
            have w2 : vG K m2 := vG_k w1 (fun z => kpt_at q2 (by omega))
            by_cases hN2 : sN t + 1 < 40
            · rw [if_pos hN2]
              dsimp only
              obtain ⟨m3, p1, p2, p3⟩ := Q223k (d := d) (L := L) w2 ok q3 si1 (by omega) (k := k) (p := p) (show k < sN ta by omega) (by omega) (le := whoF t k p + 1) (mo := -1) (l := setL (sl t k) p (whoF t k p + 1)) (h := sh t k) (setL_l hb0 ⟨hw.1, hw.2.1⟩) (Or.inl ⟨by omega, by omega, rfl, by rw [hla], by rw [hha]⟩)
              rw [hda] at p3
              rw [w32_id (x := whoF t k p + 1) (by omega) (by omega), p1]
              simp only [Option.bind_some, Option.toList_some, List.cons_append, List.nil_append]
              rw [T228_106]
              have g3 := kpt_tr g2 p2
              by_cases e4 : (relR K (setL (sl t k) p (whoF t k p + 1)) (sh t k)).1 = -6
              · have e8 : ¬ (decide ((relR K (setL (sl t k) p (whoF t k p + 1)) (sh t k)).1 ≠ -6) = true) := by rw [decide_eq_true_eq]; exact fun h => h e4
                rw [if_pos e4, if_neg e8, T228_19, if_neg (by decide)]
                exact ⟨m3, rfl, g3, p3.1, p3.2.1, fun h => absurd (show (0 : Int) ≤ -6 from h) (by decide)⟩
              · have e8 : decide ((relR K (setL (sl t k) p (whoF t k p + 1)) (sh t k)).1 ≠ -6) = true := by rw [decide_eq_true_eq]; exact e4
                rw [if_neg e4, if_pos e8]
                have hd2 := si1.2.2.2.1 k (show k < sN ta by omega)
                obtain ⟨m4, t1, t2, t3⟩ := ih (addN K ta (sd t k + 1) (setL (sl t k) p (whoF t k p + 1)) (sh t k)) m3 _ _ _ (by
                  show sN ta + 1 + 2 * f = 43
                  omega) (vG_k w2 (fun z => kpt_at p2 (by omega))) ok p3 (addN_p ok si1 (by omega) (by rw [hda] at hd2; omega) (setL_l hb0 ⟨hw.1, hw.2.1⟩))
                exact ⟨m4, t1, kpt_tr g3 t2, t3⟩
            · have k40 : m2 109 21 = 40 := by rw [q3.1]; omega
              rw [if_neg hN2, show c_call (d + 6) 223 _ _ = _ from Q223f (d := d + 5) k40]
              simp only [Option.bind_some, Option.toList_some, List.cons_append, List.nil_append]
              rw [T228_106, T228_19, if_neg (by decide)]
              exact ⟨m2, rfl, g2, q3.1, q3.2.1, fun h => absurd (show (0 : Int) ≤ -6 from h) (by decide)⟩
        · have k40 : m1 109 21 = 40 := by rw [so.1]; omega
          rw [if_neg hN, show c_call (d + 6) 223 _ _ = _ from Q223f (d := d + 5) k40]
          simp only [Option.bind_some, Option.toList_some, List.cons_append, List.nil_append]
          rw [T228_89, if_neg (by decide), T228_19, if_neg (by decide)]
          exact ⟨m1, rfl, g1, so.1, so.2.1, fun h => absurd (show (0 : Int) ≤ -6 from h) (by decide)⟩
theorem Q228 {d L : Nat} {K : PK} {m : j_M0} (w : vG K m) (ok : pOK K) : ∃ m', c_call (d + 7) 228 [jR 109] (hH L m) = some (some (jI (if 0 ≤ (braF K).1 then 1 else (braF K).1)), hH L m') ∧ kpt (fun b z => 128 ≤ b ∧ b ≤ 150 ∨ b = 109 ∧ 21 ≤ z ∧ z ≤ 23) m m' ∧ brO (pN K) (braF K) m' := by
  rw [E228, T228_0]
  have w0 : vG K (j_up (j_up m 109 21 0) 109 22 0) := vG_k w (fun z => by rw [up_ne (by omega), up_ne (by omega)])
  have g0 : kpt (fun b z => 128 ≤ b ∧ b ≤ 150 ∨ b = 109 ∧ 21 ≤ z ∧ z ≤ 23) m (j_up (j_up m 109 21 0) 109 22 0) := kpt_tr (kpt_up (Or.inr (by omega))) (kpt_up (Or.inr (by omega)))
  have s0 : sM (pN K) t00 (j_up (j_up m 109 21 0) 109 22 0) := ⟨by rw [up_nj (by omega), up_eq rfl]; rfl, up_eq rfl, fun k h => absurd h (Nat.not_lt_zero k), fun k p h => absurd h (Nat.not_lt_zero k), fun k p h => absurd h (Nat.not_lt_zero k), fun k p h => absurd h (Nat.not_lt_zero k), fun k h => absurd h (Nat.not_lt_zero k), fun k h => absurd h (Nat.not_lt_zero k), fun k h => absurd h (Nat.not_lt_zero k)⟩
  obtain ⟨m1, q1, q2, q3⟩ := Q223r (d := d) (L := L) w0 ok s0
  rw [q1]
  simp only [Option.bind_some, Option.toList_some, List.cons_append, List.nil_append]
  rw [T228_18]
  have g1 := kpt_tr g0 q2
  unfold braF
  by_cases e : (relR K (fun _ => 0) (fun _ => -1)).1 = -6
  · rw [if_pos e, if_pos e, T228_19, if_neg (by decide)]
    exact ⟨m1, rfl, g1, q3.1, q3.2.1, fun h => absurd (show (0 : Int) ≤ -6 from h) (by decide)⟩
  · rw [if_neg e, if_neg e]
    obtain ⟨m2, t1, t2, t3⟩ := L228 (d := d) (L := L) (K := K) 21 (t01 K) m1 none none none (by rfl) (vG_k w0 (fun z => kpt_at q2 (by omega))) ok q3 (t01_p ok)
    exact ⟨m2, t1, kpt_tr g1 t2, t3⟩
theorem braF_p {K : PK} (ok : pOK K) : sI K (braF K).2 ∧ ((braF K).1 = -6 ∨ (braF K).1 = -5 ∨ (0 ≤ (braF K).1 ∧ (braF K).1 < (sN (braF K).2 : Int) ∧ sw (braF K).2 (braF K).1.toNat ≠ 0)) := by
  unfold braF
  split
  · exact ⟨t01_p ok, Or.inl rfl⟩
  · exact groF_p ok 21 _ (t01_p ok)
