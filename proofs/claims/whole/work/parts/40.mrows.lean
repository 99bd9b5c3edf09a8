/-! The model's packs; rows come to its table. -/
def kG (m : j_M0) : Prop := 1 ≤ m 110 0 ∧ m 110 0 ≤ 5 ∧ 0 ≤ m 110 1 ∧ m 110 1 ≤ 8 ∧ (∀ p : Nat, p < 5 → 0 ≤ m 110 (7 + p) ∧ m 110 (7 + p) ≤ 99) ∧ (∀ r : Nat, r < 8 → (m 110 (12 + 7 * r) = 0 ∨ m 110 (12 + 7 * r) = 1) ∧ -99 ≤ m 110 (13 + 7 * r) ∧ m 110 (13 + 7 * r) ≤ 999) ∧ (∀ r p : Nat, r < 8 → p < 5 → -9 ≤ m 110 (14 + 7 * r + p) ∧ m 110 (14 + 7 * r + p) ≤ 9)
def ptM (m : j_M0) (r p : Nat) : Int := if m 110 (12 + 7 * r) = 0 then -(m 110 (14 + 7 * r + p)) else m 110 (14 + 7 * r + p)
def liM (m : j_M0) (r : Nat) : Int := if m 110 (12 + 7 * r) = 0 then -(m 110 (13 + 7 * r)) else m 110 (13 + 7 * r)
/-- the model's packs are K -/
def vG (K : PK) (m : j_M0) : Prop := kG m ∧ m 110 0 = pN K ∧ m 110 1 = pR K ∧ (∀ p : Nat, p < pN K → m 110 (7 + p) = pC K p) ∧ (∀ r p : Nat, r < pR K → p < pN K → ptM m r p = pP K r p) ∧ (∀ r : Nat, r < pR K → liM m r = pL K r)
theorem vG_k {K : PK} {m m' : j_M0} (v : vG K m) (k : ∀ s, m' 110 s = m 110 s) : vG K m' := by
  unfold vG kG ptM liM at v ⊢
  simp only [k]
  exact v
theorem vG_n {K : PK} {m : j_M0} (v : vG K m) : 1 ≤ pN K ∧ pN K ≤ 5 ∧ pR K ≤ 8 := by
  obtain ⟨h, h1, h2, -⟩ := v
  unfold kG at h
  omega
theorem Q154 {d L : Nat} {m : j_M0} {r : Nat} (h : r < 8) : c_call (d + 1) 154 [jR 109, jI r] (hH L m) = some (some (jI (m 110 (12 + 7 * r))), hH L m) := by
  rw [E154, T154_0]
  simp (disch := omega) only [w32_id, show (12 + 7 * (r : Int)).toNat = 12 + 7 * r by omega]
  rw [if_pos (by omega)]
theorem Q155 {d L : Nat} {m : j_M0} {r : Nat} (h : r < 8) : c_call (d + 1) 155 [jR 109, jI r] (hH L m) = some (some (jI (m 110 (13 + 7 * r))), hH L m) := by
  rw [E155, T155_0]
  simp (disch := omega) only [w32_id, show (12 + 7 * (r : Int) + 1).toNat = 13 + 7 * r by omega]
  rw [if_pos (by omega)]
theorem Q156 {d L : Nat} {m : j_M0} {r p : Nat} (h : r < 8) (h' : p < 5) : c_call (d + 1) 156 [jR 109, jI r, jI p] (hH L m) = some (some (jI (m 110 (14 + 7 * r + p))), hH L m) := by
  rw [E156, T156_0]
  simp (disch := omega) only [w32_id, show (12 + 7 * (r : Int) + 2 + (p : Int)).toNat = 14 + 7 * r + p by omega]
  rw [if_pos (by omega)]
theorem Q157 {d L : Nat} {m : j_M0} {r p : Nat} (g : kG m) (h : r < 8) (h' : p < 5) : c_call (d + 2) 157 [jR 109, jI r, jI p] (hH L m) = some (some (jL (ptM m r p)), hH L m) := by
  have e1 := g.2.2.2.2.2.2 r p h h'
  rw [E157, T157_0, Q154 h]
  simp only [Option.bind_some, Option.toList_some, List.cons_append, List.nil_append, T157_5, Q156 h h', T157_14, T157_25]
  rw [w32_id (by omega) (by omega)]
  unfold ptM
  split <;> rfl
theorem Q158 {d L : Nat} {m : j_M0} {r : Nat} (g : kG m) (h : r < 8) : c_call (d + 2) 158 [jR 109, jI r] (hH L m) = some (some (jL (liM m r)), hH L m) := by
  have e1 := g.2.2.2.2.2.1 r h
  rw [E158, T158_0, Q154 h]
  simp only [Option.bind_some, Option.toList_some, List.cons_append, List.nil_append, T158_5, Q155 h, T158_13, T158_23]
  rw [w32_id (by omega) (by omega)]
  unfold liM
  split <;> rfl
theorem L177_115 {C : Nat → List j_V → j_H → Option j_Z} {L : Nat} {x y : Int} {R N : Nat} (hR : R < 20) (hN : N ≤ 5) : ∀ j k : Nat, k + j = N → ∀ m : j_M0, m 115 15 = R → m 115 14 = N → ∃ m', j_fin C 177 3 [some (jR 109), some (jR 115), some (jI x), some (jL y), none, some (jI k)] [] (hH L m) = some (none, hH L (j_up (j_up (j_up m' 122 R x) 117 R y) 115 15 ((R + 1 : Nat) : Int))) ∧ (∀ b s, m' b s = m b s ∨ (b = 116 ∧ 5 * R + k ≤ s ∧ s < 5 * R + N)) ∧ (∀ s, 5 * R + k ≤ s → s < 5 * R + N → m' 116 s = 0) := by
  intro j
  induction j with
  | zero =>
    intro k hk m h h'
    rw [T177_3_109_115, if_neg (by omega), h, if_pos (by omega)]
    simp (disch := omega) only [up_ne, h, Int.toNat_natCast]
    rw [if_pos (by omega), nat1 (by omega)]
    exact ⟨m, rfl, fun b s => Or.inl rfl, fun s h1 h2 => by omega⟩
  | succ j ih =>
    intro k hk m h h'
    rw [T177_3_109_115, if_pos (by omega), h]
    simp (disch := omega) only [w32_id, nat1, show (5 * (R : Int) + (k : Int)).toNat = 5 * R + k by omega]
    rw [if_pos (by omega)]
    obtain ⟨m', h1, h2, h3⟩ := ih (k + 1) (by omega) (j_up m 116 (5 * R + k) 0) ((up_ne (by omega)).trans h) ((up_ne (by omega)).trans h')
    refine ⟨m', h1, fun b s => ?_, fun s h4 h5 => ?_⟩
    · rcases h2 b s with e | e
      · by_cases e2 : b = 116
        · subst e2
          by_cases e3 : s = 5 * R + k
          · right; omega
          · left; rw [e]; exact up_nj e3
        · left; rw [e]; exact up_ne e2
      · right; omega
    · by_cases e3 : s = 5 * R + k
      · rcases h2 116 s with e | e
        · rw [e]; exact up_eq e3
        · omega
      · exact h3 s (by omega) h5
theorem Q177_115 {d L : Nat} {T : TB} {m : j_M0} (v : vM 115 T m) {x y : Int} (hR : tR T < 20) (hC : tC T ≤ 5) : ∃ m', c_call (d + 1) 177 [jR 109, jR 115, jI x, jL y] (hH L m) = some (none, hH L m') ∧ kpt (fun b z => 115 ≤ b ∧ b ≤ 123 ∧ (b = 115 → z = 15)) m m' ∧ vM 115 (addR T x y) m' := by
  have k0 := v.1
  have k1 := v.2.1
  have k2 := v.2.2.1
  have k3 := v.2.2.2.1
  have k4 := v.2.2.2.2.1
  obtain ⟨m', h1, h2, h3⟩ := L177_115 (C := c_call d) (L := L) (x := x) (y := y) hR hC (tC T) 0 (by omega) m k0 k1
  have g : ∀ b s, b ≠ 116 → m' b s = m b s := fun b s e3 => by
    rcases h2 b s with e | e
    · exact e
    · omega
  have g3 : ∀ s, s < 5 * tR T → m' 116 s = m 116 s := fun s h => by
    rcases h2 116 s with e | e
    · exact e
    · omega
  refine ⟨j_up (j_up (j_up m' 122 (tR T) x) 117 (tR T) y) 115 15 ((tR T + 1 : Nat) : Int), ?_, ?_, ?_⟩
  · rw [E177, T177_0_109_115]
    exact h1
  · intro b s
    by_cases e : 115 ≤ b ∧ b ≤ 123 ∧ (b = 115 → s = 15)
    · exact Or.inl e
    · right
      by_cases e1 : b = 115
      · subst e1
        rw [up_nj (by omega), up_ne (by omega), up_ne (by omega), g _ _ (by omega)]
      · rw [up_ne (by omega), up_ne (by omega), up_ne (by omega), g _ _ (by omega)]
  · unfold vM
    simp (disch := omega) only [Nat.reduceAdd, up_ne, up_nj, up_eq, up_at, g]
    refine ⟨rfl, k1, k2, k3, k4, ?_, ?_, ?_, ?_, ?_⟩
    · intro i hi
      show _ = (if i = tR T then x else tow T i)
      replace hi : i < tR T + 1 := hi
      by_cases e : i = tR T
      · rw [if_pos e, if_pos e]
      · rw [if_neg e, if_neg e]
        exact v.2.2.2.2.2.1 i (by omega)
    · exact v.2.2.2.2.2.2.1
    · intro i c hi hc
      show _ = (if i = tR T then 0 else te T i c)
      replace hi : i < tR T + 1 := hi
      replace hc : c < tC T := hc
      by_cases e : i = tR T
      · rw [if_pos e]
        exact h3 _ (by omega) (by omega)
      · rw [if_neg e, g3 _ (by omega)]
        exact v.2.2.2.2.2.2.2.1 i c (by omega) hc
    · intro i hi
      show _ = (if i = tR T then y else tri T i)
      replace hi : i < tR T + 1 := hi
      by_cases e : i = tR T
      · rw [if_pos e, if_pos e]
      · rw [if_neg e, if_neg e]
        exact v.2.2.2.2.2.2.2.2.1 i (by omega)
    · exact v.2.2.2.2.2.2.2.2.2
theorem L177_128 {C : Nat → List j_V → j_H → Option j_Z} {L : Nat} {x y : Int} {R N : Nat} (hR : R < 20) (hN : N ≤ 5) : ∀ j k : Nat, k + j = N → ∀ m : j_M0, m 128 15 = R → m 128 14 = N → ∃ m', j_fin C 177 3 [some (jR 109), some (jR 128), some (jI x), some (jL y), none, some (jI k)] [] (hH L m) = some (none, hH L (j_up (j_up (j_up m' 135 R x) 130 R y) 128 15 ((R + 1 : Nat) : Int))) ∧ (∀ b s, m' b s = m b s ∨ (b = 129 ∧ 5 * R + k ≤ s ∧ s < 5 * R + N)) ∧ (∀ s, 5 * R + k ≤ s → s < 5 * R + N → m' 129 s = 0) := by
  intro j
  induction j with
  | zero =>
    intro k hk m h h'
    rw [T177_3_109_128, if_neg (by omega), h, if_pos (by omega)]
    simp (disch := omega) only [up_ne, h, Int.toNat_natCast]
    rw [if_pos (by omega), nat1 (by omega)]
    exact ⟨m, rfl, fun b s => Or.inl rfl, fun s h1 h2 => by omega⟩
  | succ j ih =>
    intro k hk m h h'
    rw [T177_3_109_128, if_pos (by omega), h]
    simp (disch := omega) only [w32_id, nat1, show (5 * (R : Int) + (k : Int)).toNat = 5 * R + k by omega]
    rw [if_pos (by omega)]
    obtain ⟨m', h1, h2, h3⟩ := ih (k + 1) (by omega) (j_up m 129 (5 * R + k) 0) ((up_ne (by omega)).trans h) ((up_ne (by omega)).trans h')
    refine ⟨m', h1, fun b s => ?_, fun s h4 h5 => ?_⟩
    · rcases h2 b s with e | e
      · by_cases e2 : b = 129
        · subst e2
          by_cases e3 : s = 5 * R + k
          · right; omega
          · left; rw [e]; exact up_nj e3
        · left; rw [e]; exact up_ne e2
      · right; omega
    · by_cases e3 : s = 5 * R + k
      · rcases h2 129 s with e | e
        · rw [e]; exact up_eq e3
        · omega
      · exact h3 s (by omega) h5
theorem Q177_128 {d L : Nat} {T : TB} {m : j_M0} (v : vM 128 T m) {x y : Int} (hR : tR T < 20) (hC : tC T ≤ 5) : ∃ m', c_call (d + 1) 177 [jR 109, jR 128, jI x, jL y] (hH L m) = some (none, hH L m') ∧ kpt (fun b z => 128 ≤ b ∧ b ≤ 136 ∧ (b = 128 → z = 15)) m m' ∧ vM 128 (addR T x y) m' := by
  have k0 := v.1
  have k1 := v.2.1
  have k2 := v.2.2.1
  have k3 := v.2.2.2.1
  have k4 := v.2.2.2.2.1
  obtain ⟨m', h1, h2, h3⟩ := L177_128 (C := c_call d) (L := L) (x := x) (y := y) hR hC (tC T) 0 (by omega) m k0 k1
  have g : ∀ b s, b ≠ 129 → m' b s = m b s := fun b s e3 => by
    rcases h2 b s with e | e
    · exact e
    · omega
  have g3 : ∀ s, s < 5 * tR T → m' 129 s = m 129 s := fun s h => by
    rcases h2 129 s with e | e
    · exact e
    · omega
  refine ⟨j_up (j_up (j_up m' 135 (tR T) x) 130 (tR T) y) 128 15 ((tR T + 1 : Nat) : Int), ?_, ?_, ?_⟩
  · rw [E177, T177_0_109_128]
    exact h1
  · intro b s
    by_cases e : 128 ≤ b ∧ b ≤ 136 ∧ (b = 128 → s = 15)
    · exact Or.inl e
    · right
      by_cases e1 : b = 128
      · subst e1
        rw [up_nj (by omega), up_ne (by omega), up_ne (by omega), g _ _ (by omega)]
      · rw [up_ne (by omega), up_ne (by omega), up_ne (by omega), g _ _ (by omega)]
  · unfold vM
    simp (disch := omega) only [Nat.reduceAdd, up_ne, up_nj, up_eq, up_at, g]
    refine ⟨rfl, k1, k2, k3, k4, ?_, ?_, ?_, ?_, ?_⟩
    · intro i hi
      show _ = (if i = tR T then x else tow T i)
      replace hi : i < tR T + 1 := hi
      by_cases e : i = tR T
      · rw [if_pos e, if_pos e]
      · rw [if_neg e, if_neg e]
        exact v.2.2.2.2.2.1 i (by omega)
    · exact v.2.2.2.2.2.2.1
    · intro i c hi hc
      show _ = (if i = tR T then 0 else te T i c)
      replace hi : i < tR T + 1 := hi
      replace hc : c < tC T := hc
      by_cases e : i = tR T
      · rw [if_pos e]
        exact h3 _ (by omega) (by omega)
      · rw [if_neg e, g3 _ (by omega)]
        exact v.2.2.2.2.2.2.2.1 i c (by omega) hc
    · intro i hi
      show _ = (if i = tR T then y else tri T i)
      replace hi : i < tR T + 1 := hi
      by_cases e : i = tR T
      · rw [if_pos e, if_pos e]
      · rw [if_neg e, if_neg e]
        exact v.2.2.2.2.2.2.2.2.1 i (by omega)
    · exact v.2.2.2.2.2.2.2.2.2
