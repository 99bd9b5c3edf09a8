/-! Packs as data; rows come to a table. -/
/-- packs as data: how many, rules; costs, points, limits -/
abbrev PK : Type := (Nat × Nat) × (Nat → Int) × (Nat → Nat → Int) × (Nat → Int)
def pN (K : PK) : Nat := K.1.1
def pR (K : PK) : Nat := K.1.2
def pC (K : PK) : Nat → Int := K.2.1
def pP (K : PK) : Nat → Nat → Int := K.2.2.1
def pL (K : PK) : Nat → Int := K.2.2.2
def pOK (K : PK) : Prop := 1 ≤ pN K ∧ pN K ≤ 5 ∧ pR K ≤ 8 ∧ (∀ p : Nat, p < pN K → 0 ≤ pC K p ∧ pC K p ≤ 99) ∧ (∀ r p : Nat, r < pR K → p < pN K → -9 ≤ pP K r p ∧ pP K r p ≤ 9) ∧ (∀ r : Nat, r < pR K → -999 ≤ pL K r ∧ pL K r ≤ 999)
/-- the class's packs at a are K -/
def vP (a : Nat) (K : PK) (m : j_M0) : Prop := kP a m ∧ m a 0 = pN K ∧ m a 1 = pR K ∧ (∀ p : Nat, p < pN K → m (a + 1) p = pC K p) ∧ (∀ r p : Nat, r < pR K → p < pN K → ptC a m r p = pP K r p) ∧ (∀ r : Nat, r < pR K → liC a m r = pL K r)
theorem vP_ok {a : Nat} {K : PK} {m : j_M0} (v : vP a K m) : pOK K := by
  obtain ⟨h, h1, h2, h3, h4, h5⟩ := v
  have g := h
  unfold kP at g
  obtain ⟨g1, g2, g3, g4, g5, g6, g7⟩ := g
  refine ⟨by omega, by omega, by omega, ?_, ?_, ?_⟩
  · intro p hp
    rw [← h3 p hp]
    exact g5 p (by omega)
  · intro r p hr hp
    rw [← h4 r p hr hp]
    exact ptC_r h (by omega) (by omega)
  · intro r hr
    rw [← h5 r hr]
    exact liC_r h (by omega)
theorem kP_k {a : Nat} {m m' : j_M0} (v : kP a m) (k : ∀ b s, a ≤ b → b ≤ a + 4 → m' b s = m b s) : kP a m' := by
  unfold kP at v ⊢
  rw [k a 0 (by omega) (by omega), k a 1 (by omega) (by omega)]
  refine ⟨v.1, v.2.1, v.2.2.1, v.2.2.2.1, ?_, ?_, ?_⟩
  · intro p hp; rw [k _ _ (by omega) (by omega)]; exact v.2.2.2.2.1 p hp
  · intro r hr; rw [k _ _ (by omega) (by omega), k _ _ (by omega) (by omega)]; exact v.2.2.2.2.2.1 r hr
  · intro r hr; rw [k _ _ (by omega) (by omega)]; exact v.2.2.2.2.2.2 r hr
theorem vP_k {a : Nat} {K : PK} {m m' : j_M0} (v : vP a K m) (k : ∀ b s, a ≤ b → b ≤ a + 4 → m' b s = m b s) : vP a K m' := by
  obtain ⟨h, h1, h2, h3, h4, h5⟩ := v
  refine ⟨kP_k h k, ?_, ?_, ?_, ?_, ?_⟩
  · rw [k a 0 (by omega) (by omega)]; exact h1
  · rw [k a 1 (by omega) (by omega)]; exact h2
  · intro p hp; rw [k _ _ (by omega) (by omega)]; exact h3 p hp
  · intro r p hr hp
    have := h4 r p hr hp
    unfold ptC at this ⊢
    rw [k _ _ (by omega) (by omega), k _ _ (by omega) (by omega)]
    exact this
  · intro r hr
    have := h5 r hr
    unfold liC at this ⊢
    rw [k _ _ (by omega) (by omega), k _ _ (by omega) (by omega)]
    exact this
/-- tables alike where they are told -/
def tEq (T U : TB) : Prop := tR T = tR U ∧ tC T = tC U ∧ tP T = tP U ∧ tB T = tB U ∧ tD T = tD U ∧ (∀ i : Nat, i < tR T → tow T i = tow U i) ∧ (∀ c : Nat, c < tC T → tos T c = tos U c) ∧ (∀ i c : Nat, i < tR T → c < tC T → te T i c = te U i c) ∧ (∀ i : Nat, i < tR T → tri T i = tri U i) ∧ (∀ c : Nat, c < tC T → trs T c = trs U c)
theorem vC_e {a : Nat} {T U : TB} {m : j_M0} (v : vC a T m) (e : tEq T U) : vC a U m := by
  obtain ⟨e1, e2, e3, e4, e5, e6, e7, e8, e9, e10⟩ := e
  obtain ⟨v1, v2, v3, v4, v5, v6, v7, v8, v9, v10⟩ := v
  unfold vC
  rw [← e1, ← e2, ← e3, ← e4, ← e5]
  exact ⟨v1, v2, v3, v4, v5, fun i h => (v6 i h).trans (e6 i h), fun i h => (v7 i h).trans (e7 i h), fun i c h h' => (v8 i c h h').trans (e8 i c h h'), fun i h => (v9 i h).trans (e9 i h), fun i h => (v10 i h).trans (e10 i h)⟩
theorem vM_e {a : Nat} {T U : TB} {m : j_M0} (v : vM a T m) (e : tEq T U) : vM a U m := by
  obtain ⟨e1, e2, e3, e4, e5, e6, e7, e8, e9, e10⟩ := e
  obtain ⟨v1, v2, v3, v4, v5, v6, v7, v8, v9, v10⟩ := v
  unfold vM
  rw [← e1, ← e2, ← e3, ← e4, ← e5]
  exact ⟨v1, v2, v3, v4, v5, fun i h => (v6 i h).trans (e6 i h), fun i h => (v7 i h).trans (e7 i h), fun i c h h' => (v8 i c h h').trans (e8 i c h h'), fun i h => (v9 i h).trans (e9 i h), fun i h => (v10 i h).trans (e10 i h)⟩
/-- a row behind the others -/
def addR (T : TB) (x y : Int) : TB := ((tR T + 1, tC T, tP T, tB T, tD T), (fun i => if i = tR T then x else tow T i), tos T, (fun i c => if i = tR T then 0 else te T i c), (fun i => if i = tR T then y else tri T i), trs T)
def setE (T : TB) (r c : Nat) (x : Int) : TB := (T.1, tow T, tos T, (fun i k => if i = r ∧ k = c then x else te T i k), tri T, trs T)
def staF (K : PK) (k : Nat) : TB := ((k, pN K, 0, 0, 1), (fun i => 10 + (i : Int)), (fun c => (c : Int)), pP K, pL K, pC K)
theorem L39_41 {C : Nat → List j_V → j_H → Option j_Z} {L : j_B} {x y : Int} {R : Nat} (hR : R < 20) : ∀ j k : Nat, k + j = 5 → ∀ m : j_M0, m 41 0 = R → ∃ m', j_fin C 39 25 [some (jR 41), some (jI x), some (jL y), none, some (jI R), some (jI k)] [] (hH L m) = some (some (jI R), hH L (j_up m' 41 0 ((R + 1 : Nat) : Int))) ∧ (∀ b s, m' b s = m b s ∨ (b = 44 ∧ 5 * R + k ≤ s ∧ s < 5 * R + 5)) ∧ (∀ s, 5 * R + k ≤ s → s < 5 * R + 5 → m' 44 s = 0) := by
  intro j
  induction j with
  | zero =>
    intro k hk m h
    rw [T39_25_41, if_neg (by omega), h, nat1 (by omega)]
    exact ⟨m, rfl, fun b s => Or.inl rfl, fun s h1 h2 => by omega⟩
  | succ j ih =>
    intro k hk m h
    rw [T39_25_41, if_pos (by omega)]
    simp (disch := omega) only [w32_id, nat1, show ((R : Int) * 5 + (k : Int)).toNat = 5 * R + k by omega]
    rw [if_pos (by omega)]
    obtain ⟨m', h1, h2, h3⟩ := ih (k + 1) (by omega) (j_up m 44 (5 * R + k) 0) ((up_ne (by omega)).trans h)
    refine ⟨m', h1, fun b s => ?_, fun s h4 h5 => ?_⟩
    · rcases h2 b s with e | e
      · by_cases e2 : b = 44
        · subst e2
          by_cases e3 : s = 5 * R + k
          · right; omega
          · left; rw [e]; exact up_nj e3
        · left; rw [e]; exact up_ne e2
      · right; omega
    · by_cases e3 : s = 5 * R + k
      · rcases h2 44 s with e | e
        · rw [e]; exact up_eq e3
        · omega
      · exact h3 s (by omega) h5
theorem Q39_41 {d : Nat} {L : j_B} {T : TB} {m : j_M0} (v : vC 41 T m) {x y : Int} (hR : tR T < 20) (hC : tC T ≤ 5) : ∃ m', c_call (d + 1) 39 [jR 41, jI x, jL y] (hH L m) = some (some (jI (tR T)), hH L m') ∧ kpt (fun b _ => 41 ≤ b ∧ b ≤ 49) m m' ∧ vC 41 (addR T x y) m' := by
  have k0 := v.1
  have k1 := v.2.1
  have k2 := v.2.2.1
  have k3 := v.2.2.2.1
  have k4 := v.2.2.2.2.1
  obtain ⟨m', h1, h2, h3⟩ := L39_41 (C := c_call d) (L := L) (x := x) (y := y) hR 5 0 (by omega) (j_up (j_up m 42 (tR T) x) 45 (tR T) y) (by rw [up_ne (by omega), up_ne (by omega)]; exact k0)
  have g : ∀ b s, b ≠ 42 → b ≠ 45 → b ≠ 44 → m' b s = m b s := fun b s e1 e2 e3 => by
    rcases h2 b s with e | e
    · rw [e, up_ne e2, up_ne e1]
    · omega
  have g1 : ∀ s, m' 42 s = if s = tR T then x else m 42 s := fun s => by
    rcases h2 42 s with e | e
    · rw [e, up_ne (by omega), up_at]
    · omega
  have g4 : ∀ s, m' 45 s = if s = tR T then y else m 45 s := fun s => by
    rcases h2 45 s with e | e
    · rw [e, up_at, up_ne (by omega)]
    · omega
  have g3 : ∀ s, s < 5 * tR T → m' 44 s = m 44 s := fun s h => by
    rcases h2 44 s with e | e
    · rw [e, up_ne (by omega), up_ne (by omega)]
    · omega
  refine ⟨j_up m' 41 0 ((tR T + 1 : Nat) : Int), ?_, ?_, ?_⟩
  · rw [E39, T39_0_41, k0, if_pos (by omega), if_pos (by omega), Int.toNat_natCast]
    exact h1
  · intro b s
    by_cases e : 41 ≤ b ∧ b ≤ 49
    · exact Or.inl e
    · right
      rw [up_ne (by omega)]
      exact g b s (by omega) (by omega) (by omega)
  · unfold vC
    simp (disch := omega) only [Nat.reduceAdd, up_ne, up_nj, up_eq, g, g1, g4]
    refine ⟨rfl, k1, k2, k3, k4, ?_, ?_, ?_, ?_, ?_⟩
    · intro i hi
      show _ = (if i = tR T then x else tow T i)
      replace hi : i < tR T + 1 := hi
      by_cases e : i = tR T
      · rw [if_pos e, if_pos e]
      · rw [if_neg e, if_neg e]
        exact v.2.2.2.2.2.1 i (by omega)
    · exact v.2.2.2.2.2.2.1
    · intro i c hi hc
      show _ = (if i = tR T then 0 else te T i c)
      replace hi : i < tR T + 1 := hi
      replace hc : c < tC T := hc
      by_cases e : i = tR T
      · rw [if_pos e]
        exact h3 _ (by omega) (by omega)
      · rw [if_neg e, g3 _ (by omega)]
        exact v.2.2.2.2.2.2.2.1 i c (by omega) hc
    · intro i hi
      show _ = (if i = tR T then y else tri T i)
      replace hi : i < tR T + 1 := hi
      by_cases e : i = tR T
      · rw [if_pos e, if_pos e]
      · rw [if_neg e, if_neg e]
        exact v.2.2.2.2.2.2.2.2.1 i (by omega)
    · exact v.2.2.2.2.2.2.2.2.2
theorem L39_55 {C : Nat → List j_V → j_H → Option j_Z} {L : j_B} {x y : Int} {R : Nat} (hR : R < 20) : ∀ j k : Nat, k + j = 5 → ∀ m : j_M0, m 55 0 = R → ∃ m', j_fin C 39 25 [some (jR 55), some (jI x), some (jL y), none, some (jI R), some (jI k)] [] (hH L m) = some (some (jI R), hH L (j_up m' 55 0 ((R + 1 : Nat) : Int))) ∧ (∀ b s, m' b s = m b s ∨ (b = 58 ∧ 5 * R + k ≤ s ∧ s < 5 * R + 5)) ∧ (∀ s, 5 * R + k ≤ s → s < 5 * R + 5 → m' 58 s = 0) := by
  intro j
  induction j with
  | zero =>
    intro k hk m h
    rw [T39_25_55, if_neg (by omega), h, nat1 (by omega)]
    exact ⟨m, rfl, fun b s => Or.inl rfl, fun s h1 h2 => by omega⟩
  | succ j ih =>
    intro k hk m h
    rw [T39_25_55, if_pos (by omega)]
    simp (disch := omega) only [w32_id, nat1, show ((R : Int) * 5 + (k : Int)).toNat = 5 * R + k by omega]
    rw [if_pos (by omega)]
    obtain ⟨m', h1, h2, h3⟩ := ih (k + 1) (by omega) (j_up m 58 (5 * R + k) 0) ((up_ne (by omega)).trans h)
    refine ⟨m', h1, fun b s => ?_, fun s h4 h5 => ?_⟩
    · rcases h2 b s with e | e
      · by_cases e2 : b = 58
        · subst e2
          by_cases e3 : s = 5 * R + k
          · right; omega
          · left; rw [e]; exact up_nj e3
        · left; rw [e]; exact up_ne e2
      · right; omega
    · by_cases e3 : s = 5 * R + k
      · rcases h2 58 s with e | e
        · rw [e]; exact up_eq e3
        · omega
      · exact h3 s (by omega) h5
theorem Q39_55 {d : Nat} {L : j_B} {T : TB} {m : j_M0} (v : vC 55 T m) {x y : Int} (hR : tR T < 20) (hC : tC T ≤ 5) : ∃ m', c_call (d + 1) 39 [jR 55, jI x, jL y] (hH L m) = some (some (jI (tR T)), hH L m') ∧ kpt (fun b _ => 55 ≤ b ∧ b ≤ 63) m m' ∧ vC 55 (addR T x y) m' := by
  have k0 := v.1
  have k1 := v.2.1
  have k2 := v.2.2.1
  have k3 := v.2.2.2.1
  have k4 := v.2.2.2.2.1
  obtain ⟨m', h1, h2, h3⟩ := L39_55 (C := c_call d) (L := L) (x := x) (y := y) hR 5 0 (by omega) (j_up (j_up m 56 (tR T) x) 59 (tR T) y) (by rw [up_ne (by omega), up_ne (by omega)]; exact k0)
  have g : ∀ b s, b ≠ 56 → b ≠ 59 → b ≠ 58 → m' b s = m b s := fun b s e1 e2 e3 => by
    rcases h2 b s with e | e
    · rw [e, up_ne e2, up_ne e1]
    · omega
  have g1 : ∀ s, m' 56 s = if s = tR T then x else m 56 s := fun s => by
    rcases h2 56 s with e | e
    · rw [e, up_ne (by omega), up_at]
    · omega
  have g4 : ∀ s, m' 59 s = if s = tR T then y else m 59 s := fun s => by
    rcases h2 59 s with e | e
    · rw [e, up_at, up_ne (by omega)]
    · omega
  have g3 : ∀ s, s < 5 * tR T → m' 58 s = m 58 s := fun s h => by
    rcases h2 58 s with e | e
    · rw [e, up_ne (by omega), up_ne (by omega)]
    · omega
  refine ⟨j_up m' 55 0 ((tR T + 1 : Nat) : Int), ?_, ?_, ?_⟩
  · rw [E39, T39_0_55, k0, if_pos (by omega), if_pos (by omega), Int.toNat_natCast]
    exact h1
  · intro b s
    by_cases e : 55 ≤ b ∧ b ≤ 63
    · exact Or.inl e
    · right
      rw [up_ne (by omega)]
      exact g b s (by omega) (by omega) (by omega)
  · unfold vC
    simp (disch := omega) only [Nat.reduceAdd, up_ne, up_nj, up_eq, g, g1, g4]
    refine ⟨rfl, k1, k2, k3, k4, ?_, ?_, ?_, ?_, ?_⟩
    · intro i hi
      show _ = (if i = tR T then x else tow T i)
      replace hi : i < tR T + 1 := hi
      by_cases e : i = tR T
      · rw [if_pos e, if_pos e]
      · rw [if_neg e, if_neg e]
        exact v.2.2.2.2.2.1 i (by omega)
    · exact v.2.2.2.2.2.2.1
    · intro i c hi hc
      show _ = (if i = tR T then 0 else te T i c)
      replace hi : i < tR T + 1 := hi
      replace hc : c < tC T := hc
      by_cases e : i = tR T
      · rw [if_pos e]
        exact h3 _ (by omega) (by omega)
      · rw [if_neg e, g3 _ (by omega)]
        exact v.2.2.2.2.2.2.2.1 i c (by omega) hc
    · intro i hi
      show _ = (if i = tR T then y else tri T i)
      replace hi : i < tR T + 1 := hi
      by_cases e : i = tR T
      · rw [if_pos e, if_pos e]
      · rw [if_neg e, if_neg e]
        exact v.2.2.2.2.2.2.2.2.1 i (by omega)
    · exact v.2.2.2.2.2.2.2.2.2
