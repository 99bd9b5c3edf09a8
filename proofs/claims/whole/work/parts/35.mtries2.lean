/-! The model tries a pivot. -/
theorem L244_115 {d L : Nat} {T : TB} (o : tOK T) {r c : Nat} (hr : r < tR T) (hc : c < tC T) : ∀ j k : Nat, k + j = tC T → ∀ (m : j_M0) (f : Int) (o8 o10 o11 : Option j_V), vM 115 T m → fl f ((∀ i : Nat, i < tR T → rowN T r c i) ∧ ∀ q : Nat, q < k → nr (newS T r c q)) → (∀ i : Nat, i < tR T → (∀ q : Nat, q < tC T → m 119 (5 * i + q) = newE T r c i q) ∧ m 120 i = newI T r c i) → (∀ q : Nat, q < k → m 121 q = newS T r c q) → ∃ f' m', j_fin (c_call (d + 1)) 180 244 [some (jR 109), some (jR 115), some (jI r), some (jI c), some (jL (-(te T r c))), none, some (jI f), some (jI k), o8, none, o10, o11, none] [] (hH L m) = some (some (jI f'), hH L m') ∧ kpt (fun b _ => 119 ≤ b ∧ b ≤ 121) m m' ∧ fl f' (pivB T r c = true) ∧ (∀ i : Nat, i < tR T → (∀ q : Nat, q < tC T → m' 119 (5 * i + q) = newE T r c i q) ∧ m' 120 i = newI T r c i) ∧ (∀ q : Nat, q < tC T → m' 121 q = newS T r c q) := by
  have o1 := o.1
  have o2 := o.2.2.1
  have o3 := o.2.2.2.2.1
  have o4 := o.2.2.2.2.2.1
  have w : ∀ x m, c_call (d + 1) 179 [jL x] (hH L m) = some (some (jI (bI (nr x))), hH L m) := fun x m => Q179
  intro j
  induction j with
  | zero =>
    intro k hk m f o8 o10 o11 v hf hw hs
    have hkk : k = tC T := by omega
    subst hkk
    have k3 := v.2.1
    have k2 := v.2.2.2.2.1
    have k1 := v.2.2.2.1
    have k5 := v.2.2.2.2.2.2.2.2.1 r hr
    have k6 := v.2.2.2.2.2.2.2.2.2 c hc
    have r4 := o.2.2.2.2.2.2.2.2.1 r c hr hc
    have r5 := o.2.2.2.2.2.2.2.2.2.1 r hr
    have r6 := o.2.2.2.2.2.2.2.2.2.2.1 c hc
    have r7 := o.2.2.2.2.2.2.1
    have r8 := o.2.2.2.2.2.2.2.1
    simp only [Nat.reduceAdd] at k5 k6
    rw [T180_244_109_115, if_neg (by omega)]
    by_cases e : f = 0
    · rw [if_pos e]
      refine ⟨0, m, rfl, kpt_rfl, Or.inr ⟨rfl, fun h => ?_⟩, hw, hs⟩
      rcases hf with ⟨h1, h2⟩ | ⟨h1, h2⟩
      · omega
      · unfold pivB at h
        have h3 := of_decide_eq_true h
        exact h2 ⟨h3.1, h3.2.1⟩
    · have q := mix_r o hr hc (x := tB T) (y := -(trs T c)) (z := tri T r) (by omega) (by omega) (by omega) (by omega) (by omega) (by omega)
      have q2 : -(trs T c) * tri T r = -(trs T c * tri T r) := Int.neg_mul _ _
      unfold mixF at q
      rw [q2] at q
      rw [if_neg e, if_pos (by omega), if_pos (by omega), Int.toNat_natCast, Int.toNat_natCast, k1, k2, k5, k6, if_neg (by omega), w64_id (x := -(te T r c) * tB T) (by omega) (by omega), w64_id (x := trs T c * tri T r) (by omega) (by omega), show -(te T r c) * tB T - trs T c * tri T r = -(te T r c) * tB T + -(trs T c * tri T r) by omega, w64_id (x := -(te T r c) * tB T + -(trs T c * tri T r)) (by omega) (by omega), w64_id (x := Int.tdiv _ _) (by omega) (by omega), ← q2, w]
      have q3 : (-(te T r c) * tB T + -(trs T c) * tri T r).tdiv (tD T) = newB T r c := rfl
      rw [q3]
      simp only [Option.bind_some, Option.toList_some, List.cons_append, List.nil_append, T180_365_109_115, bI_0]
      obtain ⟨h1, h2⟩ : f = 1 ∧ _ := by
        rcases hf with h | h
        · exact h
        · exact absurd h.1 e
      by_cases e2 : nr (newB T r c)
      · rw [if_neg (not_not_intro e2)]
        exact ⟨1, m, rfl, kpt_rfl, Or.inl ⟨rfl, pivB_t h2.1 h2.2 e2⟩, hw, hs⟩
      · rw [if_pos e2]
        refine ⟨0, m, rfl, kpt_rfl, Or.inr ⟨rfl, fun h => ?_⟩, hw, hs⟩
        unfold pivB at h
        exact e2 (of_decide_eq_true h).2.2
  | succ j ih =>
    intro k hk m f o8 o10 o11 v hf hw hs
    have k3 := v.2.1
    have k2 := v.2.2.2.2.1
    have k5 := v.2.2.2.2.2.2.2.2.2 k (by omega)
    have k6 := v.2.2.2.2.2.2.2.2.2 c hc
    have k7 := v.2.2.2.2.2.2.2.1 r k hr (by omega)
    have r4 := o.2.2.2.2.2.2.2.2.1 r c hr hc
    have r5 := o.2.2.2.2.2.2.2.2.2.2.1 k (by omega)
    have r6 := o.2.2.2.2.2.2.2.2.2.2.1 c hc
    have r7 := o.2.2.2.2.2.2.2.2.1 r k hr (by omega)
    simp only [Nat.reduceAdd] at k5 k6 k7
    have e0 : j_fin (c_call (d + 1)) 180 244 [some (jR 109), some (jR 115), some (jI r), some (jI c), some (jL (-(te T r c))), none, some (jI f), some (jI k), o8, none, o10, o11, none] [] (hH L m) = j_fin (c_call (d + 1)) 180 244 [some (jR 109), some (jR 115), some (jI r), some (jI c), some (jL (-(te T r c))), none, some (jI (j_and f (bI (nr (newS T r c k))))), some (jI (k + 1 : Nat)), o8, none, o10, o11, none] [] (hH L (j_up m 121 k (newS T r c k))) := by
      rw [T180_244_109_115, if_pos (by omega)]
      by_cases e1 : k = c
      · rw [if_pos (by omega), if_pos (by omega), if_pos (by omega), if_pos (by omega)]
        simp (disch := omega) only [Int.toNat_natCast, up_eq, k5, w, Option.bind_some, Option.toList_some, List.cons_append, List.nil_append, T180_322_109_115, nat1]
        unfold newS
        rw [if_pos e1]
        subst e1
        rfl
      · have q := mix_r o hr hc (x := trs T k) (y := trs T c) (z := te T r k) (by omega) (by omega) (by omega) (by omega) (by omega) (by omega)
        rw [if_neg (by omega), if_pos (by omega), if_pos (by omega)]
        unfold mixF at q
        simp (disch := omega) only [w32_id, show (5 * (r : Int) + (k : Int)).toNat = 5 * r + k by omega]
        rw [if_pos (by omega), if_neg (by omega), if_pos (by omega), if_pos (by omega)]
        simp (disch := omega) only [Int.toNat_natCast, up_eq, k5, k6, k7, k2, w64_id, w, Option.bind_some, Option.toList_some, List.cons_append, List.nil_append, T180_322_109_115, nat1]
        unfold newS mixF
        rw [if_neg e1]
    rw [e0]
    obtain ⟨f', m', g1, g2, g3⟩ := ih (k + 1) (by omega) (j_up m 121 k (newS T r c k)) (j_and f (bI (nr (newS T r c k)))) o8 o10 o11 (vM_k v (fun b s h h' => up_ne (by omega))) (by
      refine fl_w (fl_and hf) ⟨fun h => ⟨h.1.1, fun q hq => ?_⟩, fun h => ⟨⟨h.1, fun q hq => h.2 q (by omega)⟩, h.2 k (by omega)⟩⟩
      by_cases e : q = k
      · subst e; exact h.2
      · exact h.1.2 q (by omega)) (by
      intro i hi
      exact ⟨fun q hq => (up_ne (by omega)).trans ((hw i hi).1 q hq), (up_ne (by omega)).trans (hw i hi).2⟩) (by
      intro q hq
      by_cases e' : q = k
      · subst e'
        exact up_eq rfl
      · rw [up_nj (by omega)]
        exact hs q (by omega))
    exact ⟨f', m', g1, kpt_tr (kpt_up ⟨by omega, by omega⟩) g2, g3⟩
theorem L23_115 {d L : Nat} {T : TB} (o : tOK T) {r c : Nat} (hr : r < tR T) (hc : c < tC T) : ∀ j k : Nat, k + j = tR T → ∀ (m : j_M0) (f : Int) (o8 o10 o11 : Option j_V), vM 115 T m → fl f (∀ i : Nat, i < k → rowN T r c i) → (∀ i : Nat, i < k → (∀ q : Nat, q < tC T → m 119 (5 * i + q) = newE T r c i q) ∧ m 120 i = newI T r c i) → ∃ f' m', j_fin (c_call (d + 1)) 180 23 [some (jR 109), some (jR 115), some (jI r), some (jI c), some (jL (-(te T r c))), none, some (jI f), some (jI k), o8, none, o10, o11, none] [] (hH L m) = some (some (jI f'), hH L m') ∧ kpt (fun b _ => 119 ≤ b ∧ b ≤ 121) m m' ∧ fl f' (pivB T r c = true) ∧ (∀ i : Nat, i < tR T → (∀ q : Nat, q < tC T → m' 119 (5 * i + q) = newE T r c i q) ∧ m' 120 i = newI T r c i) ∧ (∀ q : Nat, q < tC T → m' 121 q = newS T r c q) := by
  have o1 := o.1
  have o2 := o.2.2.1
  intro j
  induction j with
  | zero =>
    intro k hk m f o8 o10 o11 v hf hw
    have hkk : k = tR T := by omega
    subst hkk
    have k3 := v.1
    rw [T180_23_109_115, if_neg (by omega)]
    exact L244_115 o hr hc (tC T) 0 (by omega) m f o8 o10 o11 v (fl_w hf ⟨fun h => ⟨h, fun q hq => absurd hq (by omega)⟩, fun h => h.1⟩) hw (fun q h => absurd h (by omega))
  | succ j ih =>
    intro k hk m f o8 o10 o11 v hf hw
    have k3 := v.1
    have k1 := v.2.2.2.2.2.2.2.1 k c (by omega) hc
    simp only [Nat.reduceAdd] at k1
    rw [T180_23_109_115, if_pos (by omega)]
    simp (disch := omega) only [w32_id, show (5 * (k : Int) + (c : Int)).toNat = 5 * k + c by omega, k1]
    rw [if_pos (by omega)]
    obtain ⟨f', m', o10', o11', g1, g2, g3, g4, g5⟩ := L48_115 (d := d) (L := L) o hr hc (show k < tR T by omega) (tC T) 0 (by omega) m f o11 v (fl_w hf (⟨fun h => ⟨h, fun q hq => absurd hq (by omega)⟩, fun h => h.1⟩ : _ ↔ (∀ i : Nat, i < k → rowN T r c i) ∧ _)) (fun q h => absurd h (by omega))
    rw [show (some (jI 0) : Option j_V) = some (jI ((0 : Nat) : Int)) from rfl, g1]
    have v' := vM_k (m' := m') v (fun b s h h' => by
      rcases g2 b s with e | e
      · omega
      · exact e)
    obtain ⟨f2, m2, q1, q2, q3⟩ := ih (k + 1) (by omega) m' f' (some (jL (te T k c))) o10' o11' v' (by
      refine fl_w g3 ⟨fun h i hi => ?_, fun h => ⟨fun i hi => h i (by omega), h k (by omega)⟩⟩
      by_cases e : i = k
      · subst e; exact h.2
      · exact h.1 i (by omega)) (by
      intro i hi
      by_cases e' : i = k
      · subst e'
        exact ⟨g4, g5⟩
      · obtain ⟨a1, a3⟩ := hw i (by omega)
        refine ⟨fun q hq => ?_, ?_⟩
        · rcases g2 119 (5 * i + q) with e | e
          · omega
          · exact e.trans (a1 q hq)
        · rcases g2 120 i with e | e
          · omega
          · exact e.trans a3)
    exact ⟨f2, m2, q1, kpt_tr (kpt_w g2 (fun b s h => by omega)) q2, q3⟩
theorem Q180_115 {d L : Nat} {T : TB} {m : j_M0} (v : vM 115 T m) (o : tOK T) {r c : Nat} (hr : r < tR T) (hc : c < tC T) : ∃ f' m', c_call (d + 2) 180 [jR 109, jR 115, jI r, jI c] (hH L m) = some (some (jI f'), hH L m') ∧ kpt (fun b _ => 119 ≤ b ∧ b ≤ 121) m m' ∧ fl f' (pivB T r c = true) ∧ (∀ i : Nat, i < tR T → (∀ q : Nat, q < tC T → m' 119 (5 * i + q) = newE T r c i q) ∧ m' 120 i = newI T r c i) ∧ (∀ q : Nat, q < tC T → m' 121 q = newS T r c q) := by
  have o1 := o.1
  have o2 := o.2.2.1
  have k1 := v.2.2.2.2.2.2.2.1 r c hr hc
  have r4 := o.2.2.2.2.2.2.2.2.1 r c hr hc
  simp only [Nat.reduceAdd] at k1
  rw [E180, T180_0_109_115]
  simp (disch := omega) only [w32_id, show (5 * (r : Int) + (c : Int)).toNat = 5 * r + c by omega, k1, w64_id]
  rw [if_pos (by omega), Q179]
  simp only [Option.bind_some, Option.toList_some, List.cons_append, List.nil_append]
  rw [T180_18_109_115]
  exact L23_115 o hr hc (tR T) 0 (by omega) m _ none none none v (Or.inl ⟨by unfold bI; rw [if_pos (by omega)], fun i h => absurd h (by omega)⟩) (fun i h => absurd h (by omega))
theorem L244_128 {d L : Nat} {T : TB} (o : tOK T) {r c : Nat} (hr : r < tR T) (hc : c < tC T) : ∀ j k : Nat, k + j = tC T → ∀ (m : j_M0) (f : Int) (o8 o10 o11 : Option j_V), vM 128 T m → fl f ((∀ i : Nat, i < tR T → rowN T r c i) ∧ ∀ q : Nat, q < k → nr (newS T r c q)) → (∀ i : Nat, i < tR T → (∀ q : Nat, q < tC T → m 132 (5 * i + q) = newE T r c i q) ∧ m 133 i = newI T r c i) → (∀ q : Nat, q < k → m 134 q = newS T r c q) → ∃ f' m', j_fin (c_call (d + 1)) 180 244 [some (jR 109), some (jR 128), some (jI r), some (jI c), some (jL (-(te T r c))), none, some (jI f), some (jI k), o8, none, o10, o11, none] [] (hH L m) = some (some (jI f'), hH L m') ∧ kpt (fun b _ => 132 ≤ b ∧ b ≤ 134) m m' ∧ fl f' (pivB T r c = true) ∧ (∀ i : Nat, i < tR T → (∀ q : Nat, q < tC T → m' 132 (5 * i + q) = newE T r c i q) ∧ m' 133 i = newI T r c i) ∧ (∀ q : Nat, q < tC T → m' 134 q = newS T r c q) := by
  have o1 := o.1
  have o2 := o.2.2.1
  have o3 := o.2.2.2.2.1
  have o4 := o.2.2.2.2.2.1
  have w : ∀ x m, c_call (d + 1) 179 [jL x] (hH L m) = some (some (jI (bI (nr x))), hH L m) := fun x m => Q179
  intro j
  induction j with
  | zero =>
    intro k hk m f o8 o10 o11 v hf hw hs
    have hkk : k = tC T := by omega
    subst hkk
    have k3 := v.2.1
    have k2 := v.2.2.2.2.1
    have k1 := v.2.2.2.1
    have k5 := v.2.2.2.2.2.2.2.2.1 r hr
    have k6 := v.2.2.2.2.2.2.2.2.2 c hc
    have r4 := o.2.2.2.2.2.2.2.2.1 r c hr hc
    have r5 := o.2.2.2.2.2.2.2.2.2.1 r hr
    have r6 := o.2.2.2.2.2.2.2.2.2.2.1 c hc
    have r7 := o.2.2.2.2.2.2.1
    have r8 := o.2.2.2.2.2.2.2.1
    simp only [Nat.reduceAdd] at k5 k6
    rw [T180_244_109_128, if_neg (by omega)]
    by_cases e : f = 0
    · rw [if_pos e]
      refine ⟨0, m, rfl, kpt_rfl, Or.inr ⟨rfl, fun h => ?_⟩, hw, hs⟩
      rcases hf with ⟨h1, h2⟩ | ⟨h1, h2⟩
      · omega
      · unfold pivB at h
        have h3 := of_decide_eq_true h
        exact h2 ⟨h3.1, h3.2.1⟩
    · have q := mix_r o hr hc (x := tB T) (y := -(trs T c)) (z := tri T r) (by omega) (by omega) (by omega) (by omega) (by omega) (by omega)
      have q2 : -(trs T c) * tri T r = -(trs T c * tri T r) := Int.neg_mul _ _
      unfold mixF at q
      rw [q2] at q
      rw [if_neg e, if_pos (by omega), if_pos (by omega), Int.toNat_natCast, Int.toNat_natCast, k1, k2, k5, k6, if_neg (by omega), w64_id (x := -(te T r c) * tB T) (by omega) (by omega), w64_id (x := trs T c * tri T r) (by omega) (by omega), show -(te T r c) * tB T - trs T c * tri T r = -(te T r c) * tB T + -(trs T c * tri T r) by omega, w64_id (x := -(te T r c) * tB T + -(trs T c * tri T r)) (by omega) (by omega), w64_id (x := Int.tdiv _ _) (by omega) (by omega), ← q2, w]
      have q3 : (-(te T r c) * tB T + -(trs T c) * tri T r).tdiv (tD T) = newB T r c := rfl
      rw [q3]
      simp only [Option.bind_some, Option.toList_some, List.cons_append, List.nil_append, T180_365_109_128, bI_0]
      obtain ⟨h1, h2⟩ : f = 1 ∧ _ := by
        rcases hf with h | h
        · exact h
        · exact absurd h.1 e
      by_cases e2 : nr (newB T r c)
      · rw [if_neg (not_not_intro e2)]
        exact ⟨1, m, rfl, kpt_rfl, Or.inl ⟨rfl, pivB_t h2.1 h2.2 e2⟩, hw, hs⟩
      · rw [if_pos e2]
        refine ⟨0, m, rfl, kpt_rfl, Or.inr ⟨rfl, fun h => ?_⟩, hw, hs⟩
        unfold pivB at h
        exact e2 (of_decide_eq_true h).2.2
  | succ j ih =>
    intro k hk m f o8 o10 o11 v hf hw hs
    have k3 := v.2.1
    have k2 := v.2.2.2.2.1
    have k5 := v.2.2.2.2.2.2.2.2.2 k (by omega)
    have k6 := v.2.2.2.2.2.2.2.2.2 c hc
    have k7 := v.2.2.2.2.2.2.2.1 r k hr (by omega)
    have r4 := o.2.2.2.2.2.2.2.2.1 r c hr hc
    have r5 := o.2.2.2.2.2.2.2.2.2.2.1 k (by omega)
    have r6 := o.2.2.2.2.2.2.2.2.2.2.1 c hc
    have r7 := o.2.2.2.2.2.2.2.2.1 r k hr (by omega)
    simp only [Nat.reduceAdd] at k5 k6 k7
    have e0 : j_fin (c_call (d + 1)) 180 244 [some (jR 109), some (jR 128), some (jI r), some (jI c), some (jL (-(te T r c))), none, some (jI f), some (jI k), o8, none, o10, o11, none] [] (hH L m) = j_fin (c_call (d + 1)) 180 244 [some (jR 109), some (jR 128), some (jI r), some (jI c), some (jL (-(te T r c))), none, some (jI (j_and f (bI (nr (newS T r c k))))), some (jI (k + 1 : Nat)), o8, none, o10, o11, none] [] (hH L (j_up m 134 k (newS T r c k))) := by
      rw [T180_244_109_128, if_pos (by omega)]
      by_cases e1 : k = c
      · rw [if_pos (by omega), if_pos (by omega), if_pos (by omega), if_pos (by omega)]
        simp (disch := omega) only [Int.toNat_natCast, up_eq, k5, w, Option.bind_some, Option.toList_some, List.cons_append, List.nil_append, T180_322_109_128, nat1]
        unfold newS
        rw [if_pos e1]
        subst e1
        rfl
      · have q := mix_r o hr hc (x := trs T k) (y := trs T c) (z := te T r k) (by omega) (by omega) (by omega) (by omega) (by omega) (by omega)
        rw [if_neg (by omega), if_pos (by omega), if_pos (by omega)]
        unfold mixF at q
        simp (disch := omega) only [w32_id, show (5 * (r : Int) + (k : Int)).toNat = 5 * r + k by omega]
        rw [if_pos (by omega), if_neg (by omega), if_pos (by omega), if_pos (by omega)]
        simp (disch := omega) only [Int.toNat_natCast, up_eq, k5, k6, k7, k2, w64_id, w, Option.bind_some, Option.toList_some, List.cons_append, List.nil_append, T180_322_109_128, nat1]
        unfold newS mixF
        rw [if_neg e1]
    rw [e0]
    obtain ⟨f', m', g1, g2, g3⟩ := ih (k + 1) (by omega) (j_up m 134 k (newS T r c k)) (j_and f (bI (nr (newS T r c k)))) o8 o10 o11 (vM_k v (fun b s h h' => up_ne (by omega))) (by
      refine fl_w (fl_and hf) ⟨fun h => ⟨h.1.1, fun q hq => ?_⟩, fun h => ⟨⟨h.1, fun q hq => h.2 q (by omega)⟩, h.2 k (by omega)⟩⟩
      by_cases e : q = k
      · subst e; exact h.2
      · exact h.1.2 q (by omega)) (by
      intro i hi
      exact ⟨fun q hq => (up_ne (by omega)).trans ((hw i hi).1 q hq), (up_ne (by omega)).trans (hw i hi).2⟩) (by
      intro q hq
      by_cases e' : q = k
      · subst e'
        exact up_eq rfl
      · rw [up_nj (by omega)]
        exact hs q (by omega))
    exact ⟨f', m', g1, kpt_tr (kpt_up ⟨by omega, by omega⟩) g2, g3⟩
theorem L23_128 {d L : Nat} {T : TB} (o : tOK T) {r c : Nat} (hr : r < tR T) (hc : c < tC T) : ∀ j k : Nat, k + j = tR T → ∀ (m : j_M0) (f : Int) (o8 o10 o11 : Option j_V), vM 128 T m → fl f (∀ i : Nat, i < k → rowN T r c i) → (∀ i : Nat, i < k → (∀ q : Nat, q < tC T → m 132 (5 * i + q) = newE T r c i q) ∧ m 133 i = newI T r c i) → ∃ f' m', j_fin (c_call (d + 1)) 180 23 [some (jR 109), some (jR 128), some (jI r), some (jI c), some (jL (-(te T r c))), none, some (jI f), some (jI k), o8, none, o10, o11, none] [] (hH L m) = some (some (jI f'), hH L m') ∧ kpt (fun b _ => 132 ≤ b ∧ b ≤ 134) m m' ∧ fl f' (pivB T r c = true) ∧ (∀ i : Nat, i < tR T → (∀ q : Nat, q < tC T → m' 132 (5 * i + q) = newE T r c i q) ∧ m' 133 i = newI T r c i) ∧ (∀ q : Nat, q < tC T → m' 134 q = newS T r c q) := by
  have o1 := o.1
  have o2 := o.2.2.1
  intro j
  induction j with
  | zero =>
    intro k hk m f o8 o10 o11 v hf hw
    have hkk : k = tR T := by omega
    subst hkk
    have k3 := v.1
    rw [T180_23_109_128, if_neg (by omega)]
    exact L244_128 o hr hc (tC T) 0 (by omega) m f o8 o10 o11 v (fl_w hf ⟨fun h => ⟨h, fun q hq => absurd hq (by omega)⟩, fun h => h.1⟩) hw (fun q h => absurd h (by omega))
  | succ j ih =>
    intro k hk m f o8 o10 o11 v hf hw
    have k3 := v.1
    have k1 := v.2.2.2.2.2.2.2.1 k c (by omega) hc
    simp only [Nat.reduceAdd] at k1
    rw [T180_23_109_128, if_pos (by omega)]
    simp (disch := omega) only [w32_id, show (5 * (k : Int) + (c : Int)).toNat = 5 * k + c by omega, k1]
    rw [if_pos (by omega)]
    obtain ⟨f', m', o10', o11', g1, g2, g3, g4, g5⟩ := L48_128 (d := d) (L := L) o hr hc (show k < tR T by omega) (tC T) 0 (by omega) m f o11 v (fl_w hf (⟨fun h => ⟨h, fun q hq => absurd hq (by omega)⟩, fun h => h.1⟩ : _ ↔ (∀ i : Nat, i < k → rowN T r c i) ∧ _)) (fun q h => absurd h (by omega))
    rw [show (some (jI 0) : Option j_V) = some (jI ((0 : Nat) : Int)) from rfl, g1]
    have v' := vM_k (m' := m') v (fun b s h h' => by
      rcases g2 b s with e | e
      · omega
      · exact e)
    obtain ⟨f2, m2, q1, q2, q3⟩ := ih (k + 1) (by omega) m' f' (some (jL (te T k c))) o10' o11' v' (by
      refine fl_w g3 ⟨fun h i hi => ?_, fun h => ⟨fun i hi => h i (by omega), h k (by omega)⟩⟩
      by_cases e : i = k
      · subst e; exact h.2
      · exact h.1 i (by omega)) (by
      intro i hi
      by_cases e' : i = k
      · subst e'
        exact ⟨g4, g5⟩
      · obtain ⟨a1, a3⟩ := hw i (by omega)
        refine ⟨fun q hq => ?_, ?_⟩
        · rcases g2 132 (5 * i + q) with e | e
          · omega
          · exact e.trans (a1 q hq)
        · rcases g2 133 i with e | e
          · omega
          · exact e.trans a3)
    exact ⟨f2, m2, q1, kpt_tr (kpt_w g2 (fun b s h => by omega)) q2, q3⟩
theorem Q180_128 {d L : Nat} {T : TB} {m : j_M0} (v : vM 128 T m) (o : tOK T) {r c : Nat} (hr : r < tR T) (hc : c < tC T) : ∃ f' m', c_call (d + 2) 180 [jR 109, jR 128, jI r, jI c] (hH L m) = some (some (jI f'), hH L m') ∧ kpt (fun b _ => 132 ≤ b ∧ b ≤ 134) m m' ∧ fl f' (pivB T r c = true) ∧ (∀ i : Nat, i < tR T → (∀ q : Nat, q < tC T → m' 132 (5 * i + q) = newE T r c i q) ∧ m' 133 i = newI T r c i) ∧ (∀ q : Nat, q < tC T → m' 134 q = newS T r c q) := by
  have o1 := o.1
  have o2 := o.2.2.1
  have k1 := v.2.2.2.2.2.2.2.1 r c hr hc
  have r4 := o.2.2.2.2.2.2.2.2.1 r c hr hc
  simp only [Nat.reduceAdd] at k1
  rw [E180, T180_0_109_128]
  simp (disch := omega) only [w32_id, show (5 * (r : Int) + (c : Int)).toNat = 5 * r + c by omega, k1, w64_id]
  rw [if_pos (by omega), Q179]
  simp only [Option.bind_some, Option.toList_some, List.cons_append, List.nil_append]
  rw [T180_18_109_128]
  exact L23_128 o hr hc (tR T) 0 (by omega) m _ none none none v (Or.inl ⟨by unfold bI; rw [if_pos (by omega)], fun i h => absurd h (by omega)⟩) (fun i h => absurd h (by omega))
