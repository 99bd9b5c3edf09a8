/-! lost, tied. -/
theorem kpt_110 {m m' : j_M0} (k : kpt sc m m') : m' 110 = m 110 := funext (fun z => kpt_at k (by unfold sc; omega))
/-- the loops of lost, tied -/
theorem lost_R {L : Nat} {xs : Nat → Int32} {m : j_M0} (w : Rel xs m) {x : Int} {a : Nat → Int} (hc1 : ∀ m' : j_M0, kpt sc m m' → ∀ p : Nat, p ≤ (m 110 0).toNat → (if x = -1 then (c_call 9 36 [jR 3, jI p] (hH L m')).bind fun z => j_fin (c_call 9) 113 49 [some (jR 2), some (jI x), some (jI p)] (z.1.toList ++ [jI p, jR 108]) z.2 else (c_call 9 2 [jR 50, jI x, jI p] (hH L m')).bind fun z => j_fin (c_call 9) 113 64 [some (jR 2), some (jI x), some (jI p)] (z.1.toList ++ [jI p, jR 108]) z.2) = j_fin (c_call 9) 113 64 [some (jR 2), some (jI x), some (jI p)] [jL (a p), jI p, jR 108] (hH L m')) (hc2 : ∀ m' : j_M0, kpt sc m m' → ∀ p : Nat, p ≤ (m 110 0).toNat → (x < 0 → c_call 8 208 [jR 109, jI p] (hH L m') = some (some (jL (a p)), hH L m')) ∧ (¬ x < 0 → c_call 8 202 [jR 109, jI x, jI p] (hH L m') = some (some (jL (a p)), hH L m'))) : ∃ (v : j_V) (m1 m2 : j_M0), j_fin (c_call 9) 113 17 [some (jR 2), some (jI x), some (jI 0)] [] (hH L m) = some (some v, hH L m1) ∧ j_fin (c_call 9) 222 17 [some (jR 109), some (jI x), some (jI 0)] [] (hH L m1) = some (some v, hH L m2) ∧ Rel xs m2 ∧ kpt sc m m1 := by
  obtain ⟨hb, e34, ok⟩ := Rel_b w
  have wP := Rel_vP w
  have n := Rel_n w
  have ht := w.1.2
  have hN0 : pN (pkG (m 110)) = (m 110 0).toNat := rfl
  generalize hK : pkG (m 110) = K at ok wP hN0
  have n5 := ok.2.1
  have k4 := wP.2.1
  obtain ⟨N, hN, hN1, hN2⟩ := boxN hb n5
  obtain ⟨m1, q1, q2, q3⟩ := L113a (d := 6) (L := L) (x := x) (a := a) (n := pN K) (Q := fun m' => kpt sc m m') n5 (fun m1 m2 h h' => kpt_tr h (kpt_w h' (fun c z hh => by unfold sc; omega))) (fun m' h => ⟨(kpt_at h (by unfold sc; omega)).trans k4, fun p hp => hc1 m' h p (by omega)⟩) (pN K + 1) 0 (by omega) m kpt_rfl (fun q hq => absurd hq (Nat.not_lt_zero q))
  have wP1 : vP 4 K m1 := vP_k wP (fun c z h h' => kpt_at q2 (by omega))
  obtain ⟨m2, p1, p2, p3, p4, p5⟩ := Q81 (d := 6) (L := L) (K := K) (m := m1) hb wP1
  obtain ⟨m3, t1, t2⟩ := L113 (d := 5) (L := L) (K := K) (b := m 110 3) (x := x) (a := a) hb hN2 N 0 (by omega) m2 p5 (fun i hi => (kpt_at p2 (by omega)).trans ((kpt_at q2 (by omega)).trans (ht i hi))) (fun q hq => (kpt_at p2 (by omega)).trans (q3 q hq)) p3
  have g1 : kpt sc m m3 := kpt_tr (kpt_w q2 (fun c z h => by unfold sc; omega)) (kpt_tr (kpt_w p2 (fun c z h => by unfold sc; omega)) (kpt_w t2 (fun c z h => by unfold sc; omega)))
  have w3 : Rel xs m3 := Rel_k w g1
  obtain ⟨m4, s1, s2⟩ := L222 (d := 5) (L := L) (K := K) (b := m 110 3) (x := x) (a := a) (Q := fun m' => kpt sc m m') ok hb hN hN2 (fun m1 m2 h h' => kpt_tr h (kpt_w h' (fun c z hh => by unfold sc; omega))) (fun m' h => ⟨by
    have h1 := kpt_110 h
    rw [← hK, ← h1]
    exact Rel_vG (Rel_k w h), by rw [kpt_110 h], fun p hp => hc2 m' h p (by omega)⟩) N 0 (by omega) m3 g1
  rw [boxC_0 hN1] at s1
  refine ⟨_, m3, m4, ?_, s1, Rel_k w3 (kpt_w s2 (fun c z h => by unfold sc; omega)), g1⟩
  have q1' : j_fin (c_call 9) 113 17 [some (jR 2), some (jI x), some (jI 0)] [] (hH L m) = _ := q1
  have e31 : m1 3 4 = m 110 3 := (kpt_at q2 (by omega)).trans e34
  have e40 : m1 4 0 = pN K := wP1.2.1
  rw [q1', T113_17, if_pos (by omega), e31, p1]
  simp only [Option.bind_some, Option.toList_some, List.cons_append, List.nil_append, Option.toList_none]
  rw [T113_92, p4, ← hN]
  exact t1
theorem PA113 {L : Nat} {xs : Nat → Int32} {m : j_M0} (w : Rel xs m) (x : Int) : PA L xs 113 222 [jI x] m := by
  have n := Rel_n w
  by_cases h : x = -1
  · subst h
    obtain ⟨v, m1, m2, h1, h2, h3, h4⟩ := lost_R (L := L) w (x := -1) (a := haF (m 110)) (fun m' g p hp => by
      have q := Q36 (d := 6) (L := L) (Rel_k w g) (p := p) (by rw [kpt_110 g]; omega)
      rw [kpt_110 g] at q
      rw [if_pos rfl, q]
      simp only [Option.bind_some, Option.toList_some, List.cons_append, List.nil_append]
      rw [T113_49]) (fun m' g p hp => ⟨fun _ => by
      have q := Q208 (d := 5) (L := L) (m := m') (p := p) (Rel_k w g).2.1 (Rel_k w g).2.2.1 (by rw [kpt_110 g]; omega)
      rw [kpt_110 g] at q
      exact q, fun h => absurd (show (-1 : Int) < 0 by decide) h⟩)
    refine ⟨v, m1, m2, (E113 (d := 9)).trans ?_, (E222 (d := 9)).trans ?_, h3⟩
    · rw [T113_0, if_pos rfl]; exact h1
    · rw [T222_0, if_pos rfl]; exact h2
  · rcases w.2.2.2.2.2.1 with ⟨t1, t2⟩ | ⟨t1, t2, s, T, U, t3⟩
    · exact PA_r w (v := jI (-1)) ((E113 (d := 9)).trans (by rw [T113_0, if_neg h, Q137n t1]; simp only [Option.bind_some, Option.toList_some, List.cons_append, List.nil_append]; rw [T113_10, if_pos rfl])) ((E222 (d := 9)).trans (by rw [T222_0, if_neg h, Q201n t2]; simp only [Option.bind_some, Option.toList_some, List.cons_append, List.nil_append]; rw [T222_10, if_pos rfl]))
    · have ou := t3.1.2.2.1
      have u1 := t3.2.2.2.1
      have u2 := t3.2.2.2.2.1
      have hN := ou.1
      have q1 : c_call 9 137 [jR 2, jI x] (hH L m) = _ := Q137t (d := 8) (by omega) u1
      by_cases g : 0 ≤ x ∧ x < (cN U : Int)
      · obtain ⟨k, rfl⟩ : ∃ k : Nat, x = k := ⟨_, (Int.toNat_of_nonneg (by omega)).symm⟩
        obtain ⟨v, m1, m2, h1, h2, h3, h4⟩ := lost_R (L := L) w (x := (k : Int)) (a := cF U k) (fun m' g' p hp => by
          have u1' : uC 50 (m 110 0).toNat U m' := uC_j u1 (by omega) (fun b z a1 a2 => kpt_at g' (by unfold sc; omega))
          have q : c_call 9 2 [jR 50, jI k, jI p] (hH L m') = _ := Q2_50 (d := 8) u1' (by omega) hN (show k < cN U by omega) hp
          rw [if_neg h, q]
          simp only [Option.bind_some, Option.toList_some, List.cons_append, List.nil_append]) (fun m' g' p hp => ⟨fun a => by omega, fun _ => by
          have u2' : uM 115 (m 110 0).toNat U m' := uM_j u2 (by omega) (fun b z a1 => kpt_at g' (by unfold sc; omega))
          have q := Q202 (d := 5) (L := L) (m := m') (x := (k : Int)) (y := (p : Int)) (by rw [kpt_at g' (by unfold sc; omega)]; omega) u2' hN (by omega) (by rw [kpt_110 g']; omega)
          rw [if_pos (by omega), Int.toNat_natCast, Int.toNat_natCast] at q
          exact q⟩)
        refine ⟨v, m1, m2, (E113 (d := 9)).trans ?_, (E222 (d := 9)).trans ?_, h3⟩
        · rw [T113_0, if_neg h, q1]
          simp only [Option.bind_some, Option.toList_some, List.cons_append, List.nil_append]
          rw [bI_t g, T113_10, if_neg (by decide)]
          exact h1
        · have u2' : uM 115 (m 110 0).toNat U m1 := uM_j u2 (by omega) (fun b z a1 => kpt_at h4 (by unfold sc; omega))
          rw [T222_0, if_neg h, show c_call 9 201 _ (hH L m1) = _ from Q201t (d := 7) (by rw [kpt_at h4 (by unfold sc; omega)]; omega) u2' hN]
          simp only [Option.bind_some, Option.toList_some, List.cons_append, List.nil_append]
          rw [bI_t g, T222_10, if_neg (by decide)]
          exact h2
      · refine PA_r w (v := jI (-1)) ((E113 (d := 9)).trans ?_) ((E222 (d := 9)).trans ?_)
        · rw [T113_0, if_neg h, q1]
          simp only [Option.bind_some, Option.toList_some, List.cons_append, List.nil_append]
          rw [bI_f g, T113_10, if_pos rfl]
        · rw [T222_0, if_neg h, show c_call 9 201 _ (hH L m) = _ from Q201t (d := 7) (by omega) u2 hN]
          simp only [Option.bind_some, Option.toList_some, List.cons_append, List.nil_append]
          rw [bI_f g, T222_10, if_pos rfl]
