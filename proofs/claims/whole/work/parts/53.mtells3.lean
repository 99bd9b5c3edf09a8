/-! The model tells a cut. -/
theorem uM_k {u n : Nat} {U : CU} {m m' : j_M0} (v : uM u n U m) (hn : n ≤ 5) (k : ∀ b s, (b = u → s = 16 → m' b s = m b s) ∧ (b = u + 12 → s < cN U → m' b s = m b s) ∧ (b = u + 9 → s < 5 * cN U → m' b s = m b s) ∧ (b = u + 10 → s < cN U → m' b s = m b s) ∧ (b = u + 11 → s < 20 * cN U → m' b s = m b s)) : uM u n U m' := by
  obtain ⟨v1, v2, v3, v4, v5⟩ := v
  refine ⟨?_, ?_, ?_, ?_, ?_⟩
  · rw [(k _ _).1 rfl rfl]; exact v1
  · intro q hq; rw [(k _ _).2.1 rfl hq]; exact v2 q hq
  · intro q p hq hp; rw [(k _ _).2.2.1 rfl (by omega)]; exact v3 q p hq hp
  · intro q hq; rw [(k _ _).2.2.2.1 rfl hq]; exact v4 q hq
  · intro q p hq hp; rw [(k _ _).2.2.2.2 rfl (by omega)]; exact v5 q p hq hp
theorem L188_115 {d L : Nat} {K : PK} {U : CU} {T : TB} (o : tOK T) (hn : tC T = pN K) (ok : pOK K) (ou : cOK (pN K) U) (hN : cN U < 12) (og : gOK K U T) {r : Nat} (hr : r < tR T) : ∀ j p : Nat, p + j = pN K → ∀ (m : j_M0) (f : Int) (o6 o8 o9 : Option j_V), vM 115 T m → vG K m → uM 115 (pN K) U m → fl f (∀ q : Nat, q < p → nr (sumF K U T r q (tC T))) → (∀ q : Nat, q < p → m 124 (5 * cN U + q) = sumF K U T r q (tC T)) → ∃ f' m', j_fin (c_call (d + 3)) 188 11 [some (jR 109), some (jR 115), some (jI r), some (jI (cN U)), some (jI f), some (jI p), o6, none, o8, o9, none] [] (hH L m) = some (some (jI f'), hH L m') ∧ kpt (fun b x => b = 124 ∧ 5 * cN U ≤ x ∨ b = 125 ∧ cN U ≤ x) m m' ∧ fl f' (∀ p : Nat, p ≤ pN K → nr (sumF K U T r p (tC T))) ∧ (∀ q : Nat, q < pN K → m' 124 (5 * cN U + q) = sumF K U T r q (tC T)) ∧ m' 125 (cN U) = sumF K U T r (pN K) (tC T) := by
  have o3 := o.1
  have o4 := o.2.2.1
  have d1 := o.2.2.2.2.1
  have d2 := o.2.2.2.2.2.1
  have n5 := ok.2.1
  intro j
  induction j with
  | zero =>
    intro p hp m f o6 o8 o9 v w uu hf hw
    have e : p = pN K := by omega
    subst e
    have k1 := v.2.1
    have k9 := v.2.2.2.2.1
    have k2 := v.2.2.2.2.2.2.2.2.1 r hr
    have r1 := o.2.2.2.2.2.2.2.2.2.1 r hr
    simp only [Nat.reduceAdd] at k2
    have b := L188b_115 (d := d) (L := L) v o w uu ok ou og hr (f := f) (o8 := o8) (o9 := o9) (tC T) 0 (by omega)
    rw [show sumF K U T r (pN K) 0 = tri T r / tD T by unfold sumF; rw [if_pos rfl]] at b
    have b' : j_fin (c_call (d + 3)) 188 179 [some (jR 109), some (jR 115), some (jI r), some (jI (cN U)), some (jI f), some (jL (tri T r / tD T)), none, some (jI 0), o8, o9, none] [] (hH L m) = _ := b
    rw [T188_11_109_115, if_neg (by omega), if_pos (by omega), Int.toNat_natCast, k2, k9, Q265 (by omega) (by omega) (by omega) (by omega)]
    simp only [Option.bind_some, Option.toList_some, List.cons_append, List.nil_append]
    rw [T188_174_109_115, b', T188_179_109_115, if_neg (by omega), if_pos (by omega), Int.toNat_natCast]
    by_cases e : f = 0
    · rw [if_pos e]
      refine ⟨0, _, rfl, kpt_up (Or.inr ⟨rfl, by omega⟩), Or.inr ⟨rfl, fun h => ?_⟩, fun q hq => (up_ne (by omega)).trans (hw q hq), up_eq rfl⟩
      rcases hf with ⟨h1, h2⟩ | ⟨h1, h2⟩
      · omega
      · exact h2 (fun q hq => h q (by omega))
    · rw [if_neg e, Q179]
      simp only [Option.bind_some, Option.toList_some, List.cons_append, List.nil_append]
      rw [T188_260_109_115]
      have hf' : ∀ q : Nat, q < pN K → nr (sumF K U T r q (tC T)) := by
        rcases hf with h | h
        · exact h.2
        · exact absurd h.1 e
      by_cases e2 : nr (sumF K U T r (pN K) (tC T))
      · rw [if_neg (by rw [bI_0]; exact not_not_intro e2)]
        refine ⟨1, _, rfl, kpt_up (Or.inr ⟨rfl, by omega⟩), Or.inl ⟨rfl, fun q hq => ?_⟩, fun q hq => (up_ne (by omega)).trans (hw q hq), up_eq rfl⟩
        by_cases e3 : q = pN K
        · rw [e3]; exact e2
        · exact hf' q (by omega)
      · rw [if_pos (by rw [bI_0]; exact e2)]
        exact ⟨0, _, rfl, kpt_up (Or.inr ⟨rfl, by omega⟩), Or.inr ⟨rfl, fun h => e2 (h _ (by omega))⟩, fun q hq => (up_ne (by omega)).trans (hw q hq), up_eq rfl⟩
  | succ j ih =>
    intro p hp m f o6 o8 o9 v w uu hf hw
    have k1 := v.2.1
    have k2 := v.2.2.2.2.2.1 r hr
    simp only [Nat.reduceAdd] at k2
    obtain ⟨o9', a⟩ := L188a_115 (d := d) (L := L) v o w uu ok ou og hr (show p < pN K by omega) (f := f) (tC T) 0 (by omega) o9
    have e0 : j_fin (c_call (d + 3)) 188 11 [some (jR 109), some (jR 115), some (jI r), some (jI (cN U)), some (jI f), some (jI p), o6, none, o8, o9, none] [] (hH L m) = j_fin (c_call (d + 3)) 188 41 [some (jR 109), some (jR 115), some (jI r), some (jI (cN U)), some (jI f), some (jI p), some (jL (sumF K U T r p (tC T))), none, some (jI (tC T)), o9', none] [] (hH L m) := by
      rw [← a, T188_11_109_115, if_pos (by omega), if_pos (by omega), Int.toNat_natCast]
      simp only [k2, sumF, if_neg (show ¬ p = pN K by omega)]
      split <;> rfl
    rw [e0, T188_41_109_115, if_neg (by omega)]
    simp (disch := omega) only [w32_id, show (5 * (cN U : Int) + (p : Int)).toNat = 5 * cN U + p by omega]
    rw [if_pos (by omega), Q179]
    simp only [Option.bind_some, Option.toList_some, List.cons_append, List.nil_append]
    rw [T188_152_109_115, nat1 (by omega)]
    obtain ⟨f', m', g1, g2, g3⟩ := ih (p + 1) (by omega) (j_up m 124 (5 * cN U + p) (sumF K U T r p (tC T))) (j_and f (bI (nr (sumF K U T r p (tC T))))) (some (jL (sumF K U T r p (tC T)))) (some (jI (tC T))) o9' (vM_k v (fun b s h h' => up_ne (by omega))) (vG_k w (fun s => up_ne (by omega))) (uM_k uu n5 (fun b s => ⟨fun h h' => up_ne (by omega), fun h h' => up_ne (by omega), fun h h' => by subst h; exact up_nj (by omega), fun h h' => up_ne (by omega), fun h h' => up_ne (by omega)⟩)) (by
      refine fl_w (fl_and hf) ⟨fun h q hq => ?_, fun h => ⟨fun q hq => h q (by omega), h p (by omega)⟩⟩
      by_cases e : q = p
      · subst e; exact h.2
      · exact h.1 q (by omega)) (by
      intro q hq
      by_cases e' : q = p
      · subst e'; exact up_eq rfl
      · rw [up_nj (by omega)]; exact hw q (by omega))
    exact ⟨f', m', g1, kpt_tr (kpt_up (Or.inl ⟨rfl, by omega⟩)) g2, g3⟩
theorem Q188_115 {d L : Nat} {K : PK} {U : CU} {T : TB} {m : j_M0} (v : vM 115 T m) (o : tOK T) (w : vG K m) (uu : uM 115 (pN K) U m) (hn : tC T = pN K) (ok : pOK K) (ou : cOK (pN K) U) (hN : cN U < 12) (og : gOK K U T) {r : Nat} (hr : r < tR T) : ∃ f' m', c_call (d + 4) 188 [jR 109, jR 115, jI r] (hH L m) = some (some (jI f'), hH L m') ∧ kpt (fun b x => b = 124 ∧ 5 * cN U ≤ x ∨ b = 125 ∧ cN U ≤ x) m m' ∧ fl f' (∀ p : Nat, p ≤ pN K → nr (sumF K U T r p (tC T))) ∧ (∀ q : Nat, q < pN K → m' 124 (5 * cN U + q) = sumF K U T r q (tC T)) ∧ m' 125 (cN U) = sumF K U T r (pN K) (tC T) := by
  rw [E188, T188_0_109_115, uu.1]
  exact L188_115 o hn ok ou hN og hr (pN K) 0 (by omega) m 1 none none none v w uu (Or.inl ⟨rfl, fun q h => absurd h (Nat.not_lt_zero q)⟩) (fun q h => absurd h (Nat.not_lt_zero q))
theorem L188_128 {d L : Nat} {K : PK} {U : CU} {T : TB} (o : tOK T) (hn : tC T = pN K) (ok : pOK K) (ou : cOK (pN K) U) (hN : cN U < 12) (og : gOK K U T) {r : Nat} (hr : r < tR T) : ∀ j p : Nat, p + j = pN K → ∀ (m : j_M0) (f : Int) (o6 o8 o9 : Option j_V), vM 128 T m → vG K m → uM 128 (pN K) U m → fl f (∀ q : Nat, q < p → nr (sumF K U T r q (tC T))) → (∀ q : Nat, q < p → m 137 (5 * cN U + q) = sumF K U T r q (tC T)) → ∃ f' m', j_fin (c_call (d + 3)) 188 11 [some (jR 109), some (jR 128), some (jI r), some (jI (cN U)), some (jI f), some (jI p), o6, none, o8, o9, none] [] (hH L m) = some (some (jI f'), hH L m') ∧ kpt (fun b x => b = 137 ∧ 5 * cN U ≤ x ∨ b = 138 ∧ cN U ≤ x) m m' ∧ fl f' (∀ p : Nat, p ≤ pN K → nr (sumF K U T r p (tC T))) ∧ (∀ q : Nat, q < pN K → m' 137 (5 * cN U + q) = sumF K U T r q (tC T)) ∧ m' 138 (cN U) = sumF K U T r (pN K) (tC T) := by
  have o3 := o.1
  have o4 := o.2.2.1
  have d1 := o.2.2.2.2.1
  have d2 := o.2.2.2.2.2.1
  have n5 := ok.2.1
  intro j
  induction j with
  | zero =>
    intro p hp m f o6 o8 o9 v w uu hf hw
    have e : p = pN K := by omega
    subst e
    have k1 := v.2.1
    have k9 := v.2.2.2.2.1
    have k2 := v.2.2.2.2.2.2.2.2.1 r hr
    have r1 := o.2.2.2.2.2.2.2.2.2.1 r hr
    simp only [Nat.reduceAdd] at k2
    have b := L188b_128 (d := d) (L := L) v o w uu ok ou og hr (f := f) (o8 := o8) (o9 := o9) (tC T) 0 (by omega)
    rw [show sumF K U T r (pN K) 0 = tri T r / tD T by unfold sumF; rw [if_pos rfl]] at b
    have b' : j_fin (c_call (d + 3)) 188 179 [some (jR 109), some (jR 128), some (jI r), some (jI (cN U)), some (jI f), some (jL (tri T r / tD T)), none, some (jI 0), o8, o9, none] [] (hH L m) = _ := b
    rw [T188_11_109_128, if_neg (by omega), if_pos (by omega), Int.toNat_natCast, k2, k9, Q265 (by omega) (by omega) (by omega) (by omega)]
    simp only [Option.bind_some, Option.toList_some, List.cons_append, List.nil_append]
    rw [T188_174_109_128, b', T188_179_109_128, if_neg (by omega), if_pos (by omega), Int.toNat_natCast]
    by_cases e : f = 0
    · rw [if_pos e]
      refine ⟨0, _, rfl, kpt_up (Or.inr ⟨rfl, by omega⟩), Or.inr ⟨rfl, fun h => ?_⟩, fun q hq => (up_ne (by omega)).trans (hw q hq), up_eq rfl⟩
      rcases hf with ⟨h1, h2⟩ | ⟨h1, h2⟩
      · omega
      · exact h2 (fun q hq => h q (by omega))
    · rw [if_neg e, Q179]
      simp only [Option.bind_some, Option.toList_some, List.cons_append, List.nil_append]
      rw [T188_260_109_128]
      have hf' : ∀ q : Nat, q < pN K → nr (sumF K U T r q (tC T)) := by
        rcases hf with h | h
        · exact h.2
        · exact absurd h.1 e
      by_cases e2 : nr (sumF K U T r (pN K) (tC T))
      · rw [if_neg (by rw [bI_0]; exact not_not_intro e2)]
        refine ⟨1, _, rfl, kpt_up (Or.inr ⟨rfl, by omega⟩), Or.inl ⟨rfl, fun q hq => ?_⟩, fun q hq => (up_ne (by omega)).trans (hw q hq), up_eq rfl⟩
        by_cases e3 : q = pN K
        · rw [e3]; exact e2
        · exact hf' q (by omega)
      · rw [if_pos (by rw [bI_0]; exact e2)]
        exact ⟨0, _, rfl, kpt_up (Or.inr ⟨rfl, by omega⟩), Or.inr ⟨rfl, fun h => e2 (h _ (by omega))⟩, fun q hq => (up_ne (by omega)).trans (hw q hq), up_eq rfl⟩
  | succ j ih =>
    intro p hp m f o6 o8 o9 v w uu hf hw
    have k1 := v.2.1
    have k2 := v.2.2.2.2.2.1 r hr
    simp only [Nat.reduceAdd] at k2
    obtain ⟨o9', a⟩ := L188a_128 (d := d) (L := L) v o w uu ok ou og hr (show p < pN K by omega) (f := f) (tC T) 0 (by omega) o9
    have e0 : j_fin (c_call (d + 3)) 188 11 [some (jR 109), some (jR 128), some (jI r), some (jI (cN U)), some (jI f), some (jI p), o6, none, o8, o9, none] [] (hH L m) = j_fin (c_call (d + 3)) 188 41 [some (jR 109), some (jR 128), some (jI r), some (jI (cN U)), some (jI f), some (jI p), some (jL (sumF K U T r p (tC T))), none, some (jI (tC T)), o9', none] [] (hH L m) := by
      rw [← a, T188_11_109_128, if_pos (by omega), if_pos (by omega), Int.toNat_natCast]
      simp only [k2, sumF, if_neg (show ¬ p = pN K by omega)]
      split <;> rfl
    rw [e0, T188_41_109_128, if_neg (by omega)]
    simp (disch := omega) only [w32_id, show (5 * (cN U : Int) + (p : Int)).toNat = 5 * cN U + p by omega]
    rw [if_pos (by omega), Q179]
    simp only [Option.bind_some, Option.toList_some, List.cons_append, List.nil_append]
    rw [T188_152_109_128, nat1 (by omega)]
    obtain ⟨f', m', g1, g2, g3⟩ := ih (p + 1) (by omega) (j_up m 137 (5 * cN U + p) (sumF K U T r p (tC T))) (j_and f (bI (nr (sumF K U T r p (tC T))))) (some (jL (sumF K U T r p (tC T)))) (some (jI (tC T))) o9' (vM_k v (fun b s h h' => up_ne (by omega))) (vG_k w (fun s => up_ne (by omega))) (uM_k uu n5 (fun b s => ⟨fun h h' => up_ne (by omega), fun h h' => up_ne (by omega), fun h h' => by subst h; exact up_nj (by omega), fun h h' => up_ne (by omega), fun h h' => up_ne (by omega)⟩)) (by
      refine fl_w (fl_and hf) ⟨fun h q hq => ?_, fun h => ⟨fun q hq => h q (by omega), h p (by omega)⟩⟩
      by_cases e : q = p
      · subst e; exact h.2
      · exact h.1 q (by omega)) (by
      intro q hq
      by_cases e' : q = p
      · subst e'; exact up_eq rfl
      · rw [up_nj (by omega)]; exact hw q (by omega))
    exact ⟨f', m', g1, kpt_tr (kpt_up (Or.inl ⟨rfl, by omega⟩)) g2, g3⟩
theorem Q188_128 {d L : Nat} {K : PK} {U : CU} {T : TB} {m : j_M0} (v : vM 128 T m) (o : tOK T) (w : vG K m) (uu : uM 128 (pN K) U m) (hn : tC T = pN K) (ok : pOK K) (ou : cOK (pN K) U) (hN : cN U < 12) (og : gOK K U T) {r : Nat} (hr : r < tR T) : ∃ f' m', c_call (d + 4) 188 [jR 109, jR 128, jI r] (hH L m) = some (some (jI f'), hH L m') ∧ kpt (fun b x => b = 137 ∧ 5 * cN U ≤ x ∨ b = 138 ∧ cN U ≤ x) m m' ∧ fl f' (∀ p : Nat, p ≤ pN K → nr (sumF K U T r p (tC T))) ∧ (∀ q : Nat, q < pN K → m' 137 (5 * cN U + q) = sumF K U T r q (tC T)) ∧ m' 138 (cN U) = sumF K U T r (pN K) (tC T) := by
  rw [E188, T188_0_109_128, uu.1]
  exact L188_128 o hn ok ou hN og hr (pN K) 0 (by omega) m 1 none none none v w uu (Or.inl ⟨rfl, fun q h => absurd h (Nat.not_lt_zero q)⟩) (fun q h => absurd h (Nat.not_lt_zero q))
