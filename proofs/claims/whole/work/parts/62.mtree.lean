/-! The model relaxes a node. -/
theorem S224 {d L : Nat} {T : TB} {m m0 : j_M0} (v : vM 128 T m) {N p : Nat} {h : Nat → Int} (hN : N < 40) (hp : p < 5) (hR : tR T < 20) (hC : tC T ≤ 5) (hb : 0 ≤ h p) (g : kpt (fun b z => 128 ≤ b ∧ b ≤ 136 ∧ (b = 128 → z ≠ 16)) m0 m) : ∃ m', ((c_call (d + 1) 177 [jR 109, jR 128, jI (w32 (50 + (p : Int))), jL (h p)] (hH L m)).bind fun z => j_fin (c_call (d + 1)) 224 85 [some (jR 109), some (jR 128), some (jI N), some (jI p)] (z.1.toList ++ []) z.2) = some (none, hH L m') ∧ kpt (fun b z => 128 ≤ b ∧ b ≤ 136 ∧ (b = 128 → z ≠ 16)) m0 m' ∧ vM 128 (bouB h T p) m' := by
  obtain ⟨m1, q1, q2, q3⟩ := Q177_128 (d := d) (L := L) v (x := 50 + (p : Int)) (y := h p) hR hC
  have k15 : m1 128 15 = ((tR T + 1 : Nat) : Int) := q3.1
  rw [w32_id (by omega) (by omega), q1]
  simp only [Option.bind_some, Option.toList_some, List.cons_append, List.nil_append, Option.toList_none]
  rw [T224_85, k15]
  simp (disch := omega) only [w32_id, show (5 * (((tR T + 1 : Nat) : Int) - 1) + (p : Int)).toNat = 5 * tR T + p by omega]
  rw [if_pos (by omega)]
  refine ⟨_, rfl, kpt_tr g (kpt_tr (kpt_w q2 (fun b z h => by omega)) (kpt_up (by omega))), ?_⟩
  unfold bouB
  rw [if_pos hb]
  exact vM_set (a := 128) q3 hp hC
theorem Q224 {d L : Nat} {T : TB} {m : j_M0} (v : vM 128 T m) {N p : Nat} {l h : Nat → Int} (hN : N < 40) (hp : p < 5) (hR : tR T < 18) (hC : tC T ≤ 5) (b : bOK l h) (kb : m 144 (5 * N + p) = l p ∧ m 145 (5 * N + p) = h p) : ∃ m', c_call (d + 2) 224 [jR 109, jR 128, jI N, jI p] (hH L m) = some (none, hH L m') ∧ kpt (fun b z => 128 ≤ b ∧ b ≤ 136 ∧ (b = 128 → z ≠ 16)) m m' ∧ vM 128 (bouB h (bouA l T p) p) m' := by
  have hb := b p hp
  rw [E224, T224_0]
  simp (disch := omega) only [w32_id, show (5 * (N : Int) + (p : Int)).toNat = 5 * N + p by omega, kb.1, kb.2]
  rw [if_pos (by omega)]
  by_cases e : 0 < l p
  · have ea : bouA l T p = leaR T p (l p) := by unfold bouA; rw [if_pos e]
    rw [if_pos e, if_pos (by omega), ea]
    obtain ⟨m1, q1, q2, q3⟩ := Q177_128 (d := d) (L := L) v (x := 40 + (p : Int)) (y := -(l p)) (by omega) hC
    have k15 : m1 128 15 = ((tR T + 1 : Nat) : Int) := q3.1
    rw [q1]
    simp only [Option.bind_some, Option.toList_some, List.cons_append, List.nil_append, Option.toList_none]
    rw [T224_34, k15]
    have y145 : m1 145 (5 * N + p) = h p := (kpt_at q2 (by omega)).trans kb.2
    have v2 : vM 128 (leaR T p (l p)) (j_up m1 129 (5 * tR T + p) (-1)) := vM_set (a := 128) q3 hp hC
    have g2 : kpt (fun b z => 128 ≤ b ∧ b ≤ 136 ∧ (b = 128 → z ≠ 16)) m (j_up m1 129 (5 * tR T + p) (-1)) := kpt_tr (kpt_w q2 (fun b z h => by omega)) (kpt_up (by omega))
    simp (disch := omega) only [w32_id, show (5 * (N : Int) + (p : Int)).toNat = 5 * N + p by omega, show (5 * (((tR T + 1 : Nat) : Int) - 1) + (p : Int)).toNat = 5 * tR T + p by omega, up_ne, y145]
    rw [if_pos (by omega), if_pos (by omega)]
    by_cases e2 : h p < 0
    · rw [if_pos e2]
      refine ⟨_, rfl, g2, ?_⟩
      unfold bouB
      rw [if_neg (by omega)]
      exact v2
    · rw [if_neg e2, if_pos (by omega)]
      have s := S224 (d := d) (L := L) v2 (N := N) (p := p) (h := h) hN hp (by
        show tR T + 1 < 20
        omega) hC (by omega) g2
      rw [w32_id (by omega) (by omega)] at s
      exact s
  · have ea : bouA l T p = T := by unfold bouA; rw [if_neg e]
    rw [if_neg e, if_pos (by omega), ea]
    by_cases e2 : h p < 0
    · rw [if_pos e2]
      refine ⟨m, rfl, kpt_rfl, ?_⟩
      unfold bouB
      rw [if_neg (by omega)]
      exact v
    · rw [if_neg e2, if_pos (by omega)]
      have s := S224 (d := d) (L := L) v (N := N) (p := p) (h := h) hN hp (by omega) hC (by omega) kpt_rfl
      rw [w32_id (by omega) (by omega)] at s
      exact s
/-- the model's tree of n packs is t -/
def sM (n : Nat) (t : TS) (m : j_M0) : Prop := m 109 21 = sN t ∧ m 109 22 = sP t ∧ (∀ k : Nat, k < sN t → m 146 k = sd t k) ∧ (∀ k p : Nat, k < sN t → p < n → m 147 (5 * k + p) = rightF (sT t k) (p : Int)) ∧ (∀ k p : Nat, k < sN t → p < 5 → m 144 (5 * k + p) = sl t k p) ∧ (∀ k p : Nat, k < sN t → p < 5 → m 145 (5 * k + p) = sh t k p) ∧ (∀ k : Nat, k < sN t → m 148 k = tB (sT t k)) ∧ (∀ k : Nat, k < sN t → m 149 k = tD (sT t k)) ∧ (∀ k : Nat, k < sN t → m 150 k = sw t k)
theorem sM_j {n : Nat} {t : TS} {m m' : j_M0} (s : sM n t m) (hn : n ≤ 5) (k : ∀ b z, (b = 109 → z = 21 ∨ z = 22 → m' b z = m b z) ∧ (b = 146 → z < sN t → m' b z = m b z) ∧ (b = 147 ∨ b = 144 ∨ b = 145 → z < 5 * sN t → m' b z = m b z) ∧ (148 ≤ b → b ≤ 150 → m' b z = m b z)) : sM n t m' := by
  obtain ⟨s1, s2, s3, s4, s5, s6, s7, s8, s10⟩ := s
  refine ⟨((k 109 21).1 rfl (Or.inl rfl)).trans s1, ((k 109 22).1 rfl (Or.inr rfl)).trans s2, fun i h => ((k 146 i).2.1 rfl h).trans (s3 i h), fun i p h h' => ((k 147 _).2.2.1 (by omega) (by omega)).trans (s4 i p h h'), fun i p h h' => ((k 144 _).2.2.1 (by omega) (by omega)).trans (s5 i p h h'), fun i p h h' => ((k 145 _).2.2.1 (by omega) (by omega)).trans (s6 i p h h'), fun i h => ((k 148 i).2.2.2 (by omega) (by omega)).trans (s7 i h), fun i h => ((k 149 i).2.2.2 (by omega) (by omega)).trans (s8 i h), fun i h => ((k 150 i).2.2.2 (by omega) (by omega)).trans (s10 i h)⟩
theorem L225a {d L : Nat} {K : PK} {T0 : TB} {N : Nat} {l h : Nat → Int} (hN : N < 40) (ok : pOK K) (o : tOK T0) (hC : tC T0 ≤ 5) (hR : tR T0 ≤ 8) (b : bOK l h) : ∀ j p : Nat, p + j = pN K → ∀ m : j_M0, vM 128 (bouT l h T0 p) m → m 110 0 = pN K → (∀ q : Nat, q < 5 → m 144 (5 * N + q) = l q ∧ m 145 (5 * N + q) = h q) → ∃ m', j_fin (c_call (d + 2)) 225 10 [some (jR 109), some (jI N), some (jI p), none] [] (hH L m) = ((c_call (d + 2) 183 [jR 109, jR 128] (hH L m')).bind fun z => j_fin (c_call (d + 2)) 225 42 [some (jR 109), some (jI N), some (jI (pN K : Nat)), none] (z.1.toList ++ []) z.2) ∧ kpt (fun b z => 128 ≤ b ∧ b ≤ 136 ∧ (b = 128 → z ≠ 16)) m m' ∧ vM 128 (bouT l h T0 (pN K)) m' := by
  have n5 := ok.2.1
  intro j
  induction j with
  | zero =>
    intro p hp m v k0 kb
    have e : p = pN K := by omega
    subst e
    rw [T225_10, show c_call (d + 2) 151 _ (hH L m) = _ from Q151 (d := d + 1)]
    simp only [Option.bind_some, Option.toList_some, List.cons_append, List.nil_append]
    rw [T225_15, if_neg (by omega)]
    exact ⟨m, rfl, kpt_rfl, v⟩
  | succ j ih =>
    intro p hp m v k0 kb
    have hp5 : p < 5 := by omega
    obtain ⟨a1, a2, a3⟩ := bouT_p o b hR p (by omega)
    rw [T225_10, show c_call (d + 2) 151 _ (hH L m) = _ from Q151 (d := d + 1)]
    simp only [Option.bind_some, Option.toList_some, List.cons_append, List.nil_append]
    rw [T225_15, if_pos (by omega)]
    obtain ⟨m1, q1, q2, q3⟩ := Q224 (d := d) (L := L) v (N := N) (p := p) (l := l) (h := h) hN hp5 (by omega) (by omega) b (kb p hp5)
    rw [q1]
    simp only [Option.bind_some, Option.toList_some, List.cons_append, List.nil_append, Option.toList_none]
    rw [T225_28, nat1 (by omega)]
    obtain ⟨m2, t1, t2, t3⟩ := ih (p + 1) (by omega) m1 q3 ((kpt_at q2 (by omega)).trans k0) (fun q hq => ⟨(kpt_at q2 (by omega)).trans (kb q hq).1, (kpt_at q2 (by omega)).trans (kb q hq).2⟩)
    exact ⟨m2, t1, kpt_tr q2 t2, t3⟩
theorem L225b {d L : Nat} {K : PK} {T : TB} {N : Nat} {x2 : Int} (hN : N < 40) (ok : pOK K) (o : tOK T) : ∀ j p : Nat, p + j = pN K → ∀ m : j_M0, vM 128 T m → m 110 0 = pN K → (∀ q : Nat, q < p → m 147 (5 * N + q) = rightF T (q : Int)) → ∃ m', j_fin (c_call (d + 2)) 225 103 [some (jR 109), some (jI N), some (jI x2), some (jI p)] [] (hH L m) = some (some (jI (if x2 = -6 then -6 else 1)), hH L m') ∧ kpt (fun b z => b = 147 ∧ 5 * N ≤ z) m m' ∧ (∀ q : Nat, q < pN K → m' 147 (5 * N + q) = rightF T (q : Int)) := by
  have n5 := ok.2.1
  intro j
  induction j with
  | zero =>
    intro p hp m v k0 kb
    have e : p = pN K := by omega
    subst e
    rw [T225_103, show c_call (d + 2) 151 _ (hH L m) = _ from Q151 (d := d + 1)]
    simp only [Option.bind_some, Option.toList_some, List.cons_append, List.nil_append]
    rw [T225_108, if_neg (by omega)]
    split
    · exact ⟨m, rfl, kpt_rfl, kb⟩
    · exact ⟨m, rfl, kpt_rfl, kb⟩
  | succ j ih =>
    intro p hp m v k0 kb
    rw [T225_103, show c_call (d + 2) 151 _ (hH L m) = _ from Q151 (d := d + 1)]
    simp only [Option.bind_some, Option.toList_some, List.cons_append, List.nil_append]
    rw [T225_108, if_pos (by omega), Q197_128 (d := d) v o]
    simp only [Option.bind_some, Option.toList_some, List.cons_append, List.nil_append]
    rw [T225_129]
    simp (disch := omega) only [w32_id, nat1, show (5 * (N : Int) + (p : Int)).toNat = 5 * N + p by omega]
    rw [if_pos (by omega)]
    obtain ⟨m', t1, t2, t3⟩ := ih (p + 1) (by omega) (j_up m 147 (5 * N + p) (rightF T (p : Int))) (vM_k v (fun b z h h' => up_ne (by omega))) ((up_ne (by omega)).trans k0) (fun q hq => by
      rw [up_at]
      by_cases e : q = p
      · subst e; rw [if_pos rfl]
      · rw [if_neg (by omega)]; exact kb q (by omega))
    refine ⟨m', t1, kpt_tr (kpt_up ⟨rfl, by omega⟩) t2, t3⟩
theorem Q225 {d L : Nat} {K : PK} {t : TS} {m : j_M0} (w : vG K m) (ok : pOK K) (s : sM (pN K) t (j_up m 109 21 (sN t))) (s21 : m 109 21 = ((sN t + 1 : Nat) : Int)) (si : sI K t) (hN : sN t < 40) {d0 : Int} {l h : Nat → Int} (b : bOK l h) (hd : m 146 (sN t) = d0) (hb : ∀ q : Nat, q < 5 → m 144 (5 * sN t + q) = l q ∧ m 145 (5 * sN t + q) = h q) : ∃ m', c_call (d + 5) 225 [jR 109, jI (sN t)] (hH L m) = some (some (jI (if (relR K l h).1 = -6 then -6 else 1)), hH L m') ∧ kpt (fun b z => 128 ≤ b ∧ b ≤ 150 ∨ b = 109 ∧ z = 22) m m' ∧ sM (pN K) (addN K t d0 l h) m' := by
  have n5 := ok.2.1
  have n8 := ok.2.2.1
  have ws := staF_w ok
  obtain ⟨s1, s2, s3, s4, s5, s6, s7, s8, s10⟩ := s
  simp (disch := omega) only [up_ne, up_nj] at s2 s3 s4 s5 s6 s7 s8 s10
  obtain ⟨m1, q1, q2, q3, -, -, -⟩ := Q178_128 (d := d + 1) (L := L) w
  rw [E225, T225_0, show c_call (d + 4) 178 _ _ = _ from q1]
  simp only [Option.bind_some, Option.toList_some, List.cons_append, List.nil_append, Option.toList_none]
  have y1 : ∀ b z, (b < 128 ∨ 136 < b) → m1 b z = m b z := fun b z h => kpt_at q2 (by omega)
  obtain ⟨m2, p1, p2, p3⟩ := L225a (d := d + 2) (L := L) hN ok ws.1 n5 n8 b (pN K) 0 (by omega) m1 q3 ((y1 _ _ (by omega)).trans w.2.1) (fun q hq => ⟨(y1 _ _ (by omega)).trans (hb q hq).1, (y1 _ _ (by omega)).trans (hb q hq).2⟩)
  have p1' : j_fin (c_call (d + 4)) 225 10 [some (jR 109), some (jI (sN t)), some (jI 0), none] [] (hH L m1) = _ := p1
  obtain ⟨ob1, ob2, ob3⟩ := bouT_p ws.1 b n8 (pN K) n5
  obtain ⟨m3, g1, g2, g3⟩ := Q183_128 (d := d) (L := L) p3 ob1
  have R := relR_p ok b
  have g3' : vM 128 (relR K l h).2 m3 := g3
  have g1' : c_call (d + 4) 183 [jR 109, jR 128] (hH L m2) = some (some (jI (repM (relR K l h).1)), hH L m3) := g1
  have oT := R.1.1
  have oP := oT.2.2.2.1
  have kP := g3'.2.2.1
  have kB := g3'.2.2.2.1
  have kD := g3'.2.2.2.2.1
  rw [T225_8, p1', show c_call (d + 2 + 2) 183 _ _ = _ from g1']
  simp only [Option.bind_some, Option.toList_some, List.cons_append, List.nil_append]
  have y3 : ∀ b z, (b < 128 ∨ 136 < b) → m3 b z = m b z := fun b z h => (kpt_at g2 (by omega)).trans ((kpt_at p2 (by omega)).trans (y1 _ _ h))
  have y322 : m3 109 22 = sP t := (y3 _ _ (by omega)).trans s2
  have si2 := si.2.1
  have si3 := si.2.2.1
  rw [T225_42, y322, kP, w32_id (by omega) (by omega)]
  have fin : ∀ wv : Int, wv = (if (relR K l h).1 = 3 then 1 else 0) → ∃ m', j_fin (c_call (d + 4)) 225 103 [some (jR 109), some (jI (sN t)), some (jI (repM (relR K l h).1)), some (jI 0)] [] (hH L (j_up (j_up (j_up (j_up m3 109 22 (sP t + (tP (relR K l h).2 : Int))) 150 (sN t) wv) 148 (sN t) (tB (relR K l h).2)) 149 (sN t) (tD (relR K l h).2))) = some (some (jI (if (relR K l h).1 = -6 then -6 else 1)), hH L m') ∧ kpt (fun b z => 128 ≤ b ∧ b ≤ 150 ∨ b = 109 ∧ z = 22) m m' ∧ sM (pN K) (addN K t d0 l h) m' := by
    intro wv hw
    generalize hm4 : j_up (j_up (j_up (j_up m3 109 22 (sP t + (tP (relR K l h).2 : Int))) 150 (sN t) wv) 148 (sN t) (tB (relR K l h).2)) 149 (sN t) (tD (relR K l h).2) = m4
    have v4 : vM 128 (relR K l h).2 m4 := vM_k g3' (fun b z h h' => by rw [← hm4]; simp (disch := omega) only [up_ne])
    obtain ⟨m5, t1, t2, t3⟩ := L225b (d := d + 2) (L := L) (T := (relR K l h).2) (x2 := repM (relR K l h).1) hN ok oT (pN K) 0 (by omega) m4 v4 (by rw [← hm4]; simp (disch := omega) only [up_ne]; exact (y3 _ _ (by omega)).trans w.2.1) (fun q hq => absurd hq (Nat.not_lt_zero q))
    have t1' : j_fin (c_call (d + 4)) 225 103 [some (jR 109), some (jI (sN t)), some (jI (repM (relR K l h).1)), some (jI 0)] [] (hH L m4) = _ := t1
    have z5 : ∀ b z, b ≠ 147 → m5 b z = m4 b z := fun b z h => kpt_at t2 (by omega)
    have z147 : ∀ z, z < 5 * sN t → m5 147 z = m 147 z := fun z h => by
      rw [kpt_at t2 (by omega), ← hm4]
      simp (disch := omega) only [up_ne]
      exact y3 _ _ (by omega)
    have z109 : ∀ z, m5 109 z = if z = 22 then sP t + (tP (relR K l h).2 : Int) else m 109 z := fun z => by
      rw [z5 _ _ (by omega), ← hm4]
      simp (disch := omega) only [up_ne, up_at]
      rw [y3 _ _ (by omega)]
    have z146 : ∀ z, m5 146 z = m 146 z := fun z => by
      rw [z5 _ _ (by omega), ← hm4]
      simp (disch := omega) only [up_ne]
      exact y3 _ _ (by omega)
    have z144 : ∀ z, m5 144 z = m 144 z := fun z => by
      rw [z5 _ _ (by omega), ← hm4]
      simp (disch := omega) only [up_ne]
      exact y3 _ _ (by omega)
    have z145 : ∀ z, m5 145 z = m 145 z := fun z => by
      rw [z5 _ _ (by omega), ← hm4]
      simp (disch := omega) only [up_ne]
      exact y3 _ _ (by omega)
    have z148 : ∀ z, m5 148 z = if z = sN t then tB (relR K l h).2 else m 148 z := fun z => by
      rw [z5 _ _ (by omega), ← hm4]
      simp (disch := omega) only [up_ne, up_at]
      rw [y3 _ _ (by omega)]
    have z149 : ∀ z, m5 149 z = if z = sN t then tD (relR K l h).2 else m 149 z := fun z => by
      rw [z5 _ _ (by omega), ← hm4]
      simp (disch := omega) only [up_ne, up_at]
      rw [y3 _ _ (by omega)]
    have z150 : ∀ z, m5 150 z = if z = sN t then wv else m 150 z := fun z => by
      rw [z5 _ _ (by omega), ← hm4]
      simp (disch := omega) only [up_ne, up_at]
      rw [y3 _ _ (by omega)]
    have ea : (if repM (relR K l h).1 = -6 then (-6 : Int) else 1) = if (relR K l h).1 = -6 then -6 else 1 := by
      unfold repM
      rcases R.2 with e | e | e <;> rw [e] <;> rfl
    rw [t1', ea]
    refine ⟨m5, rfl, fun b z => ?_, ?_⟩
    · by_cases e : 128 ≤ b ∧ b ≤ 150 ∨ b = 109 ∧ z = 22
      · exact Or.inl e
      · right
        by_cases e2 : b = 109
        · subst e2
          rw [z109, if_neg (by omega)]
        · rw [z5 _ _ (by omega), ← hm4]
          simp (disch := omega) only [up_ne]
          exact y3 _ _ (by omega)
    · unfold sM
      simp only [z109, z146, z144, z145, z148, z149, z150]
      refine ⟨?_, rfl, fun k hk => ?_, fun k p hk hp => ?_, fun k p hk hp => ?_, fun k p hk hp => ?_, fun k hk => ?_, fun k hk => ?_, fun k hk => ?_⟩
      · rw [if_neg (by omega)]; exact s21
      · replace hk : k < sN t + 1 := hk
        show _ = (if k = sN t then d0 else sd t k)
        by_cases e : k = sN t
        · rw [if_pos e, e]; exact hd
        · rw [if_neg e]; exact s3 k (by omega)
      · replace hk : k < sN t + 1 := hk
        show _ = rightF (if k = sN t then (relR K l h).2 else sT t k) (p : Int)
        by_cases e : k = sN t
        · rw [if_pos e, e]; exact t3 p hp
        · rw [if_neg e, z147 _ (by omega)]; exact s4 k p (by omega) hp
      · replace hk : k < sN t + 1 := hk
        show _ = (if k = sN t then l else sl t k) p
        by_cases e : k = sN t
        · rw [if_pos e, e]; exact (hb p hp).1
        · rw [if_neg e]; exact s5 k p (by omega) hp
      · replace hk : k < sN t + 1 := hk
        show _ = (if k = sN t then h else sh t k) p
        by_cases e : k = sN t
        · rw [if_pos e, e]; exact (hb p hp).2
        · rw [if_neg e]; exact s6 k p (by omega) hp
      · replace hk : k < sN t + 1 := hk
        show _ = tB (if k = sN t then (relR K l h).2 else sT t k)
        by_cases e : k = sN t
        · rw [if_pos e, if_pos e]
        · rw [if_neg e, if_neg e]; exact s7 k (by omega)
      · replace hk : k < sN t + 1 := hk
        show _ = tD (if k = sN t then (relR K l h).2 else sT t k)
        by_cases e : k = sN t
        · rw [if_pos e, if_pos e]
        · rw [if_neg e, if_neg e]; exact s8 k (by omega)
      · replace hk : k < sN t + 1 := hk
        show _ = (if k = sN t then (if (relR K l h).1 = 3 then 1 else 0) else sw t k)
        by_cases e : k = sN t
        · rw [if_pos e, if_pos e]; exact hw
        · rw [if_neg e, if_neg e]; exact s10 k (by omega)
  by_cases e : (relR K l h).1 = 3
  · have em : repM (relR K l h).1 = 1 := by unfold repM; rw [if_pos e]
    rw [if_pos em, if_pos (by omega), if_pos (by omega), if_pos (by omega), Int.toNat_natCast]
    have f := fin 1 (by rw [if_pos e])
    simp (disch := omega) only [up_ne, kB, kD]
    exact f
  · have em : repM (relR K l h).1 ≠ 1 := by
      have := R.2
      rw [repM_n e]
      omega
    rw [if_neg em, if_pos (by omega), if_pos (by omega), if_pos (by omega), Int.toNat_natCast]
    have f := fin 0 (by rw [if_neg e])
    simp (disch := omega) only [up_ne, kB, kD]
    exact f
