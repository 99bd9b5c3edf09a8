/-! branch. -/
theorem Q79 {d L : Nat} {K : PK} {t : TS} {m : j_M0} (s : sC (pN K) t m) (si : sI K t) {k : Nat} (hk : k < sN t) : c_call (d + 1) 79 [jR 68, jI k] (hH L m) = some (some (jL (w64 (Int.tdiv (tB (sT t k)) (tD (sT t k))))), hH L m) := by
  have i1 := si.1
  have nk := si.2.2.2.2.2 k hk
  have d1 := nk.1.2.2.2.2.1
  have k82 := s.2.2.2.2.2.2.1 k hk
  have k83 := s.2.2.2.2.2.2.2.1 k hk
  have h : (0 : Int) ≤ (k : Int) ∧ (k : Int) < 40 := by omega
  rw [E79, T79_0]
  simp only [if_pos h, Int.toNat_natCast, k82, k83, cmp_gt]
  rw [if_pos (by omega), if_neg (by omega)]
theorem PA114 {L : Nat} {xs : Nat → Int32} {m : j_M0} (w : Rel xs m) (x : Int) : PA L xs 114 229 [jI x] m := by
  have n := Rel_n w
  have i1 : w32 (m 110 0 + 3) = m 110 0 + 3 := w32_id (by omega) (by omega)
  by_cases g : 0 ≤ x ∧ x ≤ m 110 0 + 3
  · have wP := Rel_vP w
    have wG := Rel_vG w
    have ok := (Rel_b w).2.2
    have hN0 : pN (pkG (m 110)) = (m 110 0).toNat := rfl
    generalize hK : pkG (m 110) = K at ok wP wG hN0
    have n5 := ok.2.1
    obtain ⟨m1, q1, q2, q3⟩ := Q74 (d := 2) (L := L) wP
    have g1 : kpt sc m m1 := kpt_w q2 (fun c z h => by unfold sc; omega)
    have w1 : Rel xs m1 := Rel_k w g1
    have e110 := kpt_110 g1
    have wG1 : vG K m1 := by rw [← hK, ← e110]; exact Rel_vG w1
    obtain ⟨m2, p1, p2, p3⟩ := Q228 (d := 1) (L := L) wG1 ok
    have w2 : Rel xs m2 := Rel_k w1 (kpt_w p2 (fun c z h => by unfold sc; omega))
    obtain ⟨si, cs⟩ := braF_p ok
    obtain ⟨p3a, p3b, p3c⟩ := p3
    have si1 := si.1
    have h1 : ∀ v : Int, j_fin (c_call 9) 114 36 [some (jR 2), some (jI x), none] [jI (braF K).1] (hH L m1) = some (some (jI v), hH L m1) → c_call 10 114 [jR 2, jI x] (hH L m) = some (some (jI v), hH L m1) := by
      intro v h
      refine (E114 (d := 9)).trans ?_
      rw [T114_0, if_neg (by omega), n.2.2.2.2.1, i1, if_neg (by omega), q1]
      simp only [Option.bind_some, Option.toList_some, List.cons_append, List.nil_append]
      exact h
    have h2 : ∀ v : Int, j_fin (c_call 9) 229 22 [some (jR 109), some (jI x), none] [jI (if 0 ≤ (braF K).1 then 1 else (braF K).1)] (hH L m2) = some (some (jI v), hH L m2) → c_call 10 229 [jR 109, jI x] (hH L m1) = some (some (jI v), hH L m2) := by
      intro v h
      refine (E229 (d := 9)).trans ?_
      rw [T229_0, Q151, e110]
      simp only [Option.bind_some, Option.toList_some, List.cons_append, List.nil_append]
      rw [T229_8, Int.add_comm 3, i1, Q150]
      simp only [Option.bind_some, Option.toList_some, List.cons_append, List.nil_append]
      rw [bI_t g, T229_13, if_neg (by decide), show c_call 9 228 [jR 109] (hH L m1) = _ from c_call_mono p1]
      simp only [Option.bind_some, Option.toList_some, List.cons_append, List.nil_append]
      exact h
    by_cases x1 : x = 1
    · refine ⟨jI (sN (braF K).2), m1, m2, h1 _ ?_, h2 _ ?_, w2⟩
      · rw [T114_36, if_pos x1, q3.1]
      · rw [T229_22, if_pos x1, p3a]
    · by_cases x3 : x = 3
      · refine ⟨jI (sP (braF K).2), m1, m2, h1 _ ?_, h2 _ ?_, w2⟩
        · rw [T114_36, if_neg x1, if_pos x3, q3.2.1]
        · rw [T229_22, if_neg x1, if_pos x3, p3b]
      · by_cases r0 : (braF K).1 < 0
        · refine ⟨jI (braF K).1, m1, m2, h1 _ ?_, h2 _ ?_, w2⟩
          · rw [T114_36, if_neg x1, if_neg x3, if_pos r0]
          · rw [if_neg (by omega), T229_22, if_neg x1, if_neg x3, if_pos r0]
        · obtain ⟨k, hk⟩ : ∃ k : Nat, (braF K).1 = k := ⟨_, (Int.toNat_of_nonneg (by omega)).symm⟩
          rw [hk, Int.toNat_natCast] at cs
          obtain ⟨p4, p5⟩ := p3c (by omega)
          rw [hk] at p5 h1 h2
          rw [hk, Int.toNat_natCast] at p4
          have hkN : k < sN (braF K).2 := by omega
          have nk := si.2.2.2.2.2 k hkN
          have d1 := nk.1.2.2.2.2.1
          have c1 : m2 148 k = tB (sT (braF K).2 k) := p4.2.2.2.2.2.2.1 k hkN
          have c2 : m2 149 k = tD (sT (braF K).2 k) := p4.2.2.2.2.2.2.2.1 k hkN
          have c3 : m2 146 k = sd (braF K).2 k := p4.2.2.1 k hkN
          rw [if_pos (by omega)] at h2
          by_cases x0 : x = 0
          · refine ⟨jI (w32 (w64 (Int.tdiv (tB (sT (braF K).2 k)) (tD (sT (braF K).2 k))))), m1, m2, h1 _ ?_, h2 _ ?_, w2⟩
            · rw [T114_36, if_neg x1, if_neg x3, if_neg (by omega), if_pos x0, show c_call 9 79 _ (hH L m1) = _ from Q79 (d := 8) q3 si hkN]
              simp only [Option.bind_some, Option.toList_some, List.cons_append, List.nil_append]
              rw [T114_81]
            · rw [T229_22, if_neg x1, if_neg x3, if_neg (by decide), if_pos x0, p5, if_pos (by omega), if_pos (by omega), Int.toNat_natCast, c1, c2, if_neg (by omega)]
          · by_cases x2 : x = 2
            · refine ⟨jI (sd (braF K).2 k), m1, m2, h1 _ ?_, h2 _ ?_, w2⟩
              · rw [T114_36, if_neg x1, if_neg x3, if_neg (by omega), if_neg x0, if_pos x2, if_pos (by omega), Int.toNat_natCast, q3.2.2.1 k hkN]
              · rw [T229_22, if_neg x1, if_neg x3, if_neg (by decide), if_neg x0, if_pos x2, p5, if_pos (by omega), Int.toNat_natCast, c3]
            · obtain ⟨p, rfl⟩ : ∃ p : Nat, x = 4 + (p : Int) := ⟨(x - 4).toNat, by omega⟩
              have hw := whoF_r si (k := k) (p := p) hkN (by omega) (by omega)
              have c4 := p4.2.2.2.1 k p hkN (by omega)
              have c4' : m2 147 (5 * k + p) = rightF (sT (braF K).2 k) (p : Int) := c4
              have c5 := q3.2.2.2.1 k p hkN (by omega)
              have td : (rightF (sT (braF K).2 k) (p : Int)).tdiv (tD (sT (braF K).2 k)) = whoF (braF K).2 k p := (fd_0 (by omega) hw.2.2.1).symm
              refine ⟨jI (whoF (braF K).2 k p), m1, m2, h1 _ ?_, h2 _ ?_, w2⟩
              · rw [T114_36, if_neg x1, if_neg x3, if_neg (by omega), if_neg x0, if_neg x2, w32_id (x := (k : Int) * 5) (by omega) (by omega), w32_id (x := (k : Int) * 5 + (4 + (p : Int))) (by omega) (by omega), w32_id (x := (k : Int) * 5 + (4 + (p : Int)) - 4) (by omega) (by omega), if_pos (by omega), show ((k : Int) * 5 + (4 + (p : Int)) - 4).toNat = 5 * k + p by omega, c5, w32_id (by omega) (by omega)]
              · rw [T229_22, if_neg x1, if_neg x3, if_neg (by decide), if_neg x0, if_neg x2, p5, w32_id (x := 5 * (k : Int)) (by omega) (by omega), w32_id (x := 5 * (k : Int) + (4 + (p : Int))) (by omega) (by omega), w32_id (x := 5 * (k : Int) + (4 + (p : Int)) - 4) (by omega) (by omega), if_pos (by omega), if_pos (by omega), Int.toNat_natCast, show (5 * (k : Int) + (4 + (p : Int)) - 4).toNat = 5 * k + p by omega, c4', c2, if_neg (by omega), td, w64_id (by omega) (by omega), w32_id (by omega) (by omega)]
  · refine PA_r w (v := jI (-1)) ((E114 (d := 9)).trans ?_) ((E229 (d := 9)).trans ?_)
    · rw [T114_0, n.2.2.2.2.1, i1]
      by_cases h : x < 0
      · rw [if_pos h]
      · rw [if_neg h, if_pos (by omega)]
    · rw [T229_0, Q151]
      simp only [Option.bind_some, Option.toList_some, List.cons_append, List.nil_append]
      rw [T229_8, Int.add_comm 3, i1, Q150]
      simp only [Option.bind_some, Option.toList_some, List.cons_append, List.nil_append]
      rw [bI_f g, T229_13, if_pos rfl]
