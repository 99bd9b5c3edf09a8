/-! The model makes a cut: its loops. -/
theorem L189a_115 {C : Nat → List j_V → j_H → Option j_Z} {L : Nat} {r : Nat} {U : CU} (hN : cN U < 12) : ∀ j k : Nat, k + j = 20 → ∀ (m : j_M0), (∀ q : Nat, q < k → m 126 (20 * cN U + q) = 0) → ∃ m', kpt (fun b x => b = 126 ∧ 20 * cN U ≤ x) m m' ∧ j_fin C 189 19 [some (jR 109), some (jR 115), some (jI r), some (jI (cN U)), some (jI k), none, none] [] (hH L m) = j_fin C 189 19 [some (jR 109), some (jR 115), some (jI r), some (jI (cN U)), some (jI (20 : Nat)), none, none] [] (hH L m') ∧ (∀ q : Nat, q < 20 → m' 126 (20 * cN U + q) = 0) := by
  intro j
  induction j with
  | zero =>
    intro k hk m hz
    have e : k = 20 := by omega
    subst e
    exact ⟨m, kpt_rfl, rfl, hz⟩
  | succ j ih =>
    intro k hk m hz
    rw [T189_19_109_115, if_pos (by omega), nat1 (by omega)]
    simp (disch := omega) only [w32_id, show (20 * (cN U : Int) + (k : Int)).toNat = 20 * cN U + k by omega]
    rw [if_pos (by omega)]
    obtain ⟨m', h1, h2, h3⟩ := ih (k + 1) (by omega) (j_up m 126 (20 * cN U + k) 0) (by
      intro q hq
      by_cases e : q = k
      · subst e; exact up_eq rfl
      · rw [up_nj (by omega)]; exact hz q (by omega))
    exact ⟨m', kpt_tr (kpt_up ⟨rfl, by omega⟩) h1, h2, h3⟩
theorem midCM_115 {T : TB} {x : Int} {r c : Nat} {m : j_M0} (v : vM 115 (midC T x r c) m) (o4 : tC T ≤ 5) (hc : c < tC T) : vM 115 (midC T x r (c + 1)) (j_up m 116 (5 * tR T + c) (-(te T r c % tD T))) := by
  obtain ⟨v1, v2, v3, v4, v5, v6, v7, v8, v9, v10⟩ := v
  unfold vM
  simp (disch := omega) only [Nat.reduceAdd, up_ne]
  refine ⟨v1, v2, v3, v4, v5, v6, v7, ?_, v9, v10⟩
  intro i q hi hq
  replace hi : i < tR T + 1 := hi
  replace hq : q < tC T := hq
  have this : m 116 (5 * i + q) = (if i = tR T then (if q < c then -(te T r q % tD T) else 0) else te T i q) := v8 i q hi hq
  show _ = (if i = tR T then (if q < c + 1 then -(te T r q % tD T) else 0) else te T i q)
  rw [up_at]
  by_cases e : i = tR T
  · rw [if_pos e] at this ⊢
    by_cases e2 : q = c
    · subst e2
      rw [if_pos (by omega), if_pos (by omega)]
    · rw [if_neg (by omega), this]
      by_cases e3 : q < c
      · rw [if_pos e3, if_pos (by omega)]
      · rw [if_neg e3, if_neg (by omega)]
  · rw [if_neg (by omega), this, if_neg e, if_neg e]
theorem L189c_115 {d L : Nat} {K : PK} {U : CU} {T : TB} {x : Int} (ok : pOK K) (o : tOK T) (og : gOK K U T) (hN : cN U < 12) (hR : tR T < 20) {r : Nat} (hr : r < tR T) : ∀ j c : Nat, c + j = tC T → ∀ (m : j_M0) (o5 : Option j_V), vM 115 (midC T x r c) m → m 115 16 = cN U → (∀ q : Nat, q < 20 → m 126 (20 * cN U + q) = wtF T r c q) → ∃ m', kpt (fun b z => b = 116 ∨ b = 126 ∧ 20 * cN U ≤ z) m m' ∧ j_fin (c_call (d + 4)) 189 81 [some (jR 109), some (jR 115), some (jI r), some (jI (cN U)), some (jI c), o5, none] [] (hH L m) = some (some (jI 1), hH L (j_up m' 115 16 ((cN U + 1 : Nat) : Int))) ∧ vM 115 (midC T x r (tC T)) m' ∧ (∀ q : Nat, q < 20 → m' 126 (20 * cN U + q) = wtF T r (tC T) q) := by
  have o3 := o.1
  have o4 := o.2.2.1
  have d1 := o.2.2.2.2.1
  have d2 := o.2.2.2.2.2.1
  have n8 := ok.2.2.1
  have n5 := ok.2.1
  intro j
  induction j with
  | zero =>
    intro c hc m o5 v h hz
    have e : c = tC T := by omega
    subst e
    have k1 : m 115 14 = tC T := v.2.1
    rw [T189_81_109_115, if_neg (by omega), h, nat1 (by omega)]
    exact ⟨m, kpt_rfl, rfl, v, hz⟩
  | succ j ih =>
    intro c hc m o5 v h hz
    have k0 : m 115 15 = ((tR T + 1 : Nat) : Int) := v.1
    have k1 : m 115 14 = tC T := v.2.1
    have k9 : m 115 13 = tD T := v.2.2.2.2.1
    have k2 : m 123 c = tos T c := v.2.2.2.2.2.2.1 c (show c < tC T by omega)
    have k3 : m 116 (5 * r + c) = (if r = tR T then _ else te T r c) := v.2.2.2.2.2.2.2.1 r c (show r < tR T + 1 by omega) (show c < tC T by omega)
    rw [if_neg (by omega)] at k3
    have r1 := o.2.2.2.2.2.2.2.2.1 r c hr (by omega)
    have a1 := Int.emod_nonneg (te T r c) (b := tD T) (by omega)
    have a2 := Int.emod_lt_of_pos (te T r c) (b := tD T) (by omega)
    have g := og.2 c (by omega)
    unfold good at g
    rw [T189_81_109_115, if_pos (by omega)]
    simp (disch := omega) only [w32_id, show (5 * (r : Int) + (c : Int)).toNat = 5 * r + c by omega, k3, k9]
    rw [if_pos (by omega), Q266 (by omega) (by omega) (by omega) (by omega)]
    simp only [Option.bind_some, Option.toList_some, List.cons_append, List.nil_append]
    rw [T189_108_109_115, k0, nat1 (by omega)]
    simp (disch := omega) only [w32_id, show (5 * (((tR T + 1 : Nat) : Int) - 1) + (c : Int)).toNat = 5 * tR T + c by omega, w64_id, up_ne, Int.toNat_natCast, k2]
    rw [if_pos (by omega), if_pos (by omega)]
    have v' := midCM_115 v o4 (show c < tC T by omega)
    by_cases e1 : tos T c < 10
    · rw [if_pos e1]
      obtain ⟨m', h1, h2, h3⟩ := ih (c + 1) (by omega) _ (some (jL (te T r c % tD T))) v' ((up_ne (by omega)).trans h) (fun q hq => by
        rw [wtF, if_neg (by omega), up_ne (by omega)]
        exact hz q hq)
      exact ⟨m', kpt_tr (kpt_up (Or.inl rfl)) h1, h2, h3⟩
    · rw [if_neg e1, if_pos (by omega), Q190 (by omega) (by omega)]
      simp only [Option.bind_some, Option.toList_some, List.cons_append, List.nil_append]
      obtain ⟨y, hy⟩ : ∃ y : Nat, slotF (tos T c) = (y : Int) := ⟨(slotF (tos T c)).toNat, by unfold slotF; split <;> omega⟩
      have hy2 : y < 20 := by unfold slotF at hy; split at hy <;> omega
      rw [hy, T189_159_109_115]
      simp (disch := omega) only [w32_id, nat1, show (20 * (cN U : Int) + (y : Int)).toNat = 20 * cN U + y by omega]
      rw [if_pos (by omega)]
      obtain ⟨m', h1, h2, h3⟩ := ih (c + 1) (by omega) (j_up (j_up m 116 (5 * tR T + c) (-(te T r c % tD T))) 126 (20 * cN U + y) (te T r c % tD T)) (some (jL (te T r c % tD T))) (vM_k v' (fun b s h h' => up_ne (by omega))) (by rw [up_ne (by omega), up_ne (by omega)]; exact h) (fun q hq => by
        rw [wtF, up_at, hy]
        by_cases e3 : q = y
        · rw [if_pos (by omega), if_pos ⟨by omega, by omega⟩]
        · rw [if_neg (by omega), if_neg (fun h => by have := h.2; omega), up_ne (by omega)]
          exact hz q hq)
      exact ⟨m', kpt_tr (kpt_tr (kpt_up (Or.inl rfl)) (kpt_up (Or.inr ⟨rfl, by omega⟩))) h1, h2, h3⟩
theorem L189a_128 {C : Nat → List j_V → j_H → Option j_Z} {L : Nat} {r : Nat} {U : CU} (hN : cN U < 12) : ∀ j k : Nat, k + j = 20 → ∀ (m : j_M0), (∀ q : Nat, q < k → m 139 (20 * cN U + q) = 0) → ∃ m', kpt (fun b x => b = 139 ∧ 20 * cN U ≤ x) m m' ∧ j_fin C 189 19 [some (jR 109), some (jR 128), some (jI r), some (jI (cN U)), some (jI k), none, none] [] (hH L m) = j_fin C 189 19 [some (jR 109), some (jR 128), some (jI r), some (jI (cN U)), some (jI (20 : Nat)), none, none] [] (hH L m') ∧ (∀ q : Nat, q < 20 → m' 139 (20 * cN U + q) = 0) := by
  intro j
  induction j with
  | zero =>
    intro k hk m hz
    have e : k = 20 := by omega
    subst e
    exact ⟨m, kpt_rfl, rfl, hz⟩
  | succ j ih =>
    intro k hk m hz
    rw [T189_19_109_128, if_pos (by omega), nat1 (by omega)]
    simp (disch := omega) only [w32_id, show (20 * (cN U : Int) + (k : Int)).toNat = 20 * cN U + k by omega]
    rw [if_pos (by omega)]
    obtain ⟨m', h1, h2, h3⟩ := ih (k + 1) (by omega) (j_up m 139 (20 * cN U + k) 0) (by
      intro q hq
      by_cases e : q = k
      · subst e; exact up_eq rfl
      · rw [up_nj (by omega)]; exact hz q (by omega))
    exact ⟨m', kpt_tr (kpt_up ⟨rfl, by omega⟩) h1, h2, h3⟩
theorem midCM_128 {T : TB} {x : Int} {r c : Nat} {m : j_M0} (v : vM 128 (midC T x r c) m) (o4 : tC T ≤ 5) (hc : c < tC T) : vM 128 (midC T x r (c + 1)) (j_up m 129 (5 * tR T + c) (-(te T r c % tD T))) := by
  obtain ⟨v1, v2, v3, v4, v5, v6, v7, v8, v9, v10⟩ := v
  unfold vM
  simp (disch := omega) only [Nat.reduceAdd, up_ne]
  refine ⟨v1, v2, v3, v4, v5, v6, v7, ?_, v9, v10⟩
  intro i q hi hq
  replace hi : i < tR T + 1 := hi
  replace hq : q < tC T := hq
  have this : m 129 (5 * i + q) = (if i = tR T then (if q < c then -(te T r q % tD T) else 0) else te T i q) := v8 i q hi hq
  show _ = (if i = tR T then (if q < c + 1 then -(te T r q % tD T) else 0) else te T i q)
  rw [up_at]
  by_cases e : i = tR T
  · rw [if_pos e] at this ⊢
    by_cases e2 : q = c
    · subst e2
      rw [if_pos (by omega), if_pos (by omega)]
    · rw [if_neg (by omega), this]
      by_cases e3 : q < c
      · rw [if_pos e3, if_pos (by omega)]
      · rw [if_neg e3, if_neg (by omega)]
  · rw [if_neg (by omega), this, if_neg e, if_neg e]
theorem L189c_128 {d L : Nat} {K : PK} {U : CU} {T : TB} {x : Int} (ok : pOK K) (o : tOK T) (og : gOK K U T) (hN : cN U < 12) (hR : tR T < 20) {r : Nat} (hr : r < tR T) : ∀ j c : Nat, c + j = tC T → ∀ (m : j_M0) (o5 : Option j_V), vM 128 (midC T x r c) m → m 128 16 = cN U → (∀ q : Nat, q < 20 → m 139 (20 * cN U + q) = wtF T r c q) → ∃ m', kpt (fun b z => b = 129 ∨ b = 139 ∧ 20 * cN U ≤ z) m m' ∧ j_fin (c_call (d + 4)) 189 81 [some (jR 109), some (jR 128), some (jI r), some (jI (cN U)), some (jI c), o5, none] [] (hH L m) = some (some (jI 1), hH L (j_up m' 128 16 ((cN U + 1 : Nat) : Int))) ∧ vM 128 (midC T x r (tC T)) m' ∧ (∀ q : Nat, q < 20 → m' 139 (20 * cN U + q) = wtF T r (tC T) q) := by
  have o3 := o.1
  have o4 := o.2.2.1
  have d1 := o.2.2.2.2.1
  have d2 := o.2.2.2.2.2.1
  have n8 := ok.2.2.1
  have n5 := ok.2.1
  intro j
  induction j with
  | zero =>
    intro c hc m o5 v h hz
    have e : c = tC T := by omega
    subst e
    have k1 : m 128 14 = tC T := v.2.1
    rw [T189_81_109_128, if_neg (by omega), h, nat1 (by omega)]
    exact ⟨m, kpt_rfl, rfl, v, hz⟩
  | succ j ih =>
    intro c hc m o5 v h hz
    have k0 : m 128 15 = ((tR T + 1 : Nat) : Int) := v.1
    have k1 : m 128 14 = tC T := v.2.1
    have k9 : m 128 13 = tD T := v.2.2.2.2.1
    have k2 : m 136 c = tos T c := v.2.2.2.2.2.2.1 c (show c < tC T by omega)
    have k3 : m 129 (5 * r + c) = (if r = tR T then _ else te T r c) := v.2.2.2.2.2.2.2.1 r c (show r < tR T + 1 by omega) (show c < tC T by omega)
    rw [if_neg (by omega)] at k3
    have r1 := o.2.2.2.2.2.2.2.2.1 r c hr (by omega)
    have a1 := Int.emod_nonneg (te T r c) (b := tD T) (by omega)
    have a2 := Int.emod_lt_of_pos (te T r c) (b := tD T) (by omega)
    have g := og.2 c (by omega)
    unfold good at g
    rw [T189_81_109_128, if_pos (by omega)]
    simp (disch := omega) only [w32_id, show (5 * (r : Int) + (c : Int)).toNat = 5 * r + c by omega, k3, k9]
    rw [if_pos (by omega), Q266 (by omega) (by omega) (by omega) (by omega)]
    simp only [Option.bind_some, Option.toList_some, List.cons_append, List.nil_append]
    rw [T189_108_109_128, k0, nat1 (by omega)]
    simp (disch := omega) only [w32_id, show (5 * (((tR T + 1 : Nat) : Int) - 1) + (c : Int)).toNat = 5 * tR T + c by omega, w64_id, up_ne, Int.toNat_natCast, k2]
    rw [if_pos (by omega), if_pos (by omega)]
    have v' := midCM_128 v o4 (show c < tC T by omega)
    by_cases e1 : tos T c < 10
    · rw [if_pos e1]
      obtain ⟨m', h1, h2, h3⟩ := ih (c + 1) (by omega) _ (some (jL (te T r c % tD T))) v' ((up_ne (by omega)).trans h) (fun q hq => by
        rw [wtF, if_neg (by omega), up_ne (by omega)]
        exact hz q hq)
      exact ⟨m', kpt_tr (kpt_up (Or.inl rfl)) h1, h2, h3⟩
    · rw [if_neg e1, if_pos (by omega), Q190 (by omega) (by omega)]
      simp only [Option.bind_some, Option.toList_some, List.cons_append, List.nil_append]
      obtain ⟨y, hy⟩ : ∃ y : Nat, slotF (tos T c) = (y : Int) := ⟨(slotF (tos T c)).toNat, by unfold slotF; split <;> omega⟩
      have hy2 : y < 20 := by unfold slotF at hy; split at hy <;> omega
      rw [hy, T189_159_109_128]
      simp (disch := omega) only [w32_id, nat1, show (20 * (cN U : Int) + (y : Int)).toNat = 20 * cN U + y by omega]
      rw [if_pos (by omega)]
      obtain ⟨m', h1, h2, h3⟩ := ih (c + 1) (by omega) (j_up (j_up m 129 (5 * tR T + c) (-(te T r c % tD T))) 139 (20 * cN U + y) (te T r c % tD T)) (some (jL (te T r c % tD T))) (vM_k v' (fun b s h h' => up_ne (by omega))) (by rw [up_ne (by omega), up_ne (by omega)]; exact h) (fun q hq => by
        rw [wtF, up_at, hy]
        by_cases e3 : q = y
        · rw [if_pos (by omega), if_pos ⟨by omega, by omega⟩]
        · rw [if_neg (by omega), if_neg (fun h => by have := h.2; omega), up_ne (by omega)]
          exact hz q hq)
      exact ⟨m', kpt_tr (kpt_tr (kpt_up (Or.inl rfl)) (kpt_up (Or.inr ⟨rfl, by omega⟩))) h1, h2, h3⟩
