/-! ends. -/
theorem gR_many {g : Nat → Int} (h : gR g) {v : Int} (hv : 0 ≤ v ∧ v ≤ 8) : gR (gU g (1) v) := by
  obtain ⟨h1, h2, h3, h4, h5, h6, h7⟩ := h
  unfold gR
  rw [gU_ne (show 0 ≠ 1 by omega), gU_eq rfl]
  refine ⟨h1, h2, hv.1, hv.2, fun p hp => ?_, fun q hq => ?_, fun q p hq hp => ?_⟩
  · rw [gU_ne (by omega)]; exact h5 p hp
  · rw [gU_ne (by omega), gU_ne (by omega)]; exact h6 q hq
  · rw [gU_ne (by omega)]; exact h7 q p hq hp
theorem gR_cost {g : Nat → Int} (h : gR g) {c : Nat} {v : Int} (hc : c < 5) (hv : 0 ≤ v ∧ v ≤ 99) : gR (gU g (7 + c) v) := by
  obtain ⟨h1, h2, h3, h4, h5, h6, h7⟩ := h
  unfold gR
  rw [gU_ne (show 0 ≠ 7 + c by omega), gU_ne (show 1 ≠ 7 + c by omega)]
  refine ⟨h1, h2, h3, h4, fun p hp => ?_, fun q hq => ?_, fun q p hq hp => ?_⟩
  · by_cases e : p = c
    · subst e; rw [gU_eq rfl]; exact hv
    · rw [gU_ne (by omega)]; exact h5 p hp
  · rw [gU_ne (by omega), gU_ne (by omega)]; exact h6 q hq
  · rw [gU_ne (by omega)]; exact h7 q p hq hp
theorem gR_sort {g : Nat → Int} (h : gR g) {r : Nat} {v : Int} (hr : r < 8) (hv : v = 0 ∨ v = 1) : gR (gU g (12 + 7 * r) v) := by
  obtain ⟨h1, h2, h3, h4, h5, h6, h7⟩ := h
  unfold gR
  rw [gU_ne (show 0 ≠ 12 + 7 * r by omega), gU_ne (show 1 ≠ 12 + 7 * r by omega)]
  refine ⟨h1, h2, h3, h4, fun p hp => ?_, fun q hq => ?_, fun q p hq hp => ?_⟩
  · rw [gU_ne (by omega)]; exact h5 p hp
  · rw [gU_ne (show 13 + 7 * q ≠ 12 + 7 * r by omega)]
    by_cases e : q = r
    · subst e; rw [gU_eq rfl]; exact ⟨hv, (h6 q hq).2⟩
    · rw [gU_ne (by omega)]; exact h6 q hq
  · rw [gU_ne (by omega)]; exact h7 q p hq hp
theorem gR_fac {g : Nat → Int} (h : gR g) {r c : Nat} {v : Int} (hr : r < 8) (hc : c < 5) (hv : -9 ≤ v ∧ v ≤ 9) : gR (gU g (14 + 7 * r + c) v) := by
  obtain ⟨h1, h2, h3, h4, h5, h6, h7⟩ := h
  unfold gR
  rw [gU_ne (show 0 ≠ 14 + 7 * r + c by omega), gU_ne (show 1 ≠ 14 + 7 * r + c by omega)]
  refine ⟨h1, h2, h3, h4, fun p hp => ?_, fun q hq => ?_, fun q p hq hp => ?_⟩
  · rw [gU_ne (by omega)]; exact h5 p hp
  · rw [gU_ne (by omega), gU_ne (by omega)]; exact h6 q hq
  · by_cases e : q = r ∧ p = c
    · obtain ⟨e1, e2⟩ := e
      subst e1; subst e2; rw [gU_eq rfl]; exact hv
    · rw [gU_ne (by omega)]; exact h7 q p hq hp
theorem gR_far {g : Nat → Int} (h : gR g) {i : Nat} {v : Int} (hi : 68 ≤ i ∨ (2 ≤ i ∧ i < 7)) : gR (gU g (i) v) := by
  obtain ⟨h1, h2, h3, h4, h5, h6, h7⟩ := h
  unfold gR
  rw [gU_ne (show 0 ≠ i by omega), gU_ne (show 1 ≠ i by omega)]
  refine ⟨h1, h2, h3, h4, fun p hp => ?_, fun q hq => ?_, fun q p hq hp => ?_⟩
  · rw [gU_ne (by omega)]; exact h5 p hp
  · rw [gU_ne (by omega), gU_ne (by omega)]; exact h6 q hq
  · rw [gU_ne (by omega)]; exact h7 q p hq hp
theorem pkR_cost {a : Nat} {g : Nat → Int} {m : j_M0} (w : pkR a g m) {c : Nat} {v : Int} (hc : c < 5) (hv : 0 ≤ v ∧ v ≤ 99) : pkR a (gU g (7 + c) v) (j_up m (a + 1) c v) := by
  obtain ⟨w1, w2, w3, w4, w5, w6⟩ := w
  obtain ⟨a1, a2, a3, a4, a5, a6, a7⟩ := w1
  have w8 : m a 1 ≤ 8 := a4
  refine ⟨⟨?_, ?_, ?_, ?_, fun p hp => ?_, fun q hq => ?_, fun i hi => ?_⟩, ?_, ?_, fun p hp => ?_, fun q hq => ⟨?_, ?_⟩, fun q p hq hp => ?_⟩
  · rw [up_ne (by omega)]; exact a1
  · rw [up_ne (by omega)]; exact a2
  · rw [up_ne (by omega)]; exact a3
  · rw [up_ne (by omega)]; exact a4
  · rw [up_at]
    split
    · exact hv
    · exact a5 p hp
  · rw [up_ne (by omega), up_ne (by omega)]; exact a6 q hq
  · rw [up_ne (by omega)]; exact a7 i hi
  · rw [up_ne (by omega), gU_ne (by omega)]; exact w2
  · rw [up_ne (by omega), gU_ne (by omega)]; exact w3
  · rw [up_at]
    by_cases e : p = c
    · subst e; rw [if_pos rfl, gU_eq rfl]
    · rw [if_neg e, gU_ne (by omega)]; exact w4 p hp
  · rw [gU_ne (by omega)] at hq
    rw [up_ne (by omega), gU_ne (by omega)]
    exact (w5 q hq).1
  · rw [gU_ne (by omega)] at hq
    rw [up_ne (by omega), gU_ne (by omega)]
    exact (w5 q hq).2
  · rw [gU_ne (by omega)] at hq hp
    rw [up_ne (by omega), gU_ne (by omega)]
    exact w6 q p hq hp
theorem pkR_fac {a : Nat} {g : Nat → Int} {m : j_M0} (w : pkR a g m) {r c : Nat} {v : Int} (hr : (r : Int) < g 1) (hc : c < 5) (hv : -9 ≤ v ∧ v ≤ 9) : pkR a (gU g (14 + 7 * r + c) v) (j_up m (a + 4) (5 * r + c) v) := by
  obtain ⟨w1, w2, w3, w4, w5, w6⟩ := w
  obtain ⟨a1, a2, a3, a4, a5, a6, a7⟩ := w1
  have w8 : m a 1 ≤ 8 := a4
  have w9 : m a 0 ≤ 5 := a2
  refine ⟨⟨?_, ?_, ?_, ?_, fun p hp => ?_, fun q hq => ?_, fun i hi => ?_⟩, ?_, ?_, fun p hp => ?_, fun q hq => ⟨?_, ?_⟩, fun q p hq hp => ?_⟩
  · rw [up_ne (by omega)]; exact a1
  · rw [up_ne (by omega)]; exact a2
  · rw [up_ne (by omega)]; exact a3
  · rw [up_ne (by omega)]; exact a4
  · rw [up_ne (by omega)]; exact a5 p hp
  · rw [up_ne (by omega), up_ne (by omega)]; exact a6 q hq
  · rw [up_at]
    split
    · exact hv
    · exact a7 i hi
  · rw [up_ne (by omega), gU_ne (by omega)]; exact w2
  · rw [up_ne (by omega), gU_ne (by omega)]; exact w3
  · rw [up_ne (by omega), gU_ne (by omega)]; exact w4 p hp
  · rw [gU_ne (by omega)] at hq
    rw [up_ne (by omega), gU_ne (by omega)]
    exact (w5 q hq).1
  · rw [gU_ne (by omega)] at hq
    rw [up_ne (by omega), gU_ne (by omega)]
    exact (w5 q hq).2
  · rw [gU_ne (by omega)] at hq hp
    rw [up_at]
    by_cases e : q = r ∧ p = c
    · obtain ⟨e1, e2⟩ := e
      subst e1; subst e2; rw [if_pos rfl, gU_eq rfl]
    · rw [if_neg (by omega), gU_ne (by omega)]
      exact w6 q p hq hp
/-! ends -/
def chF (g : Nat → Int) (w k v : Int) : Nat → Int := if w = 1 then (if 0 ≤ k ∧ k < g 0 then gU g (7 + k.toNat) v else g) else if 0 ≤ k ∧ k < g 1 then (if w = 0 then gU g (13 + 7 * k.toNat) v else gU g (14 + 7 * k.toNat + 0) v) else g
theorem chF_R {g : Nat → Int} (h : gR g) {w k v : Int} (hp : plN w v = 1) : gR (chF g w k v) := by
  have h2 := h.2.1
  have h4 := h.2.2.2.1
  unfold plN at hp
  unfold chF
  by_cases e1 : w = 1
  · rw [if_pos e1]
    rw [if_neg (by omega), if_pos e1, bI_1] at hp
    split
    · exact gR_cost h (by omega) hp
    · exact h
  · rw [if_neg e1]
    by_cases e0 : w = 0
    · rw [if_pos e0, bI_1] at hp
      split
      · exact gR_bound h (by omega) hp
      · exact h
    · rw [if_neg e0, if_neg e1, bI_1] at hp
      split
      · exact gR_fac h (by omega) (by omega) hp
      · exact h
theorem chF_1 {g : Nat → Int} {w k v : Int} (h : w = 1) (hk : 0 ≤ k ∧ k < g 0) : chF g w k v = gU g (7 + k.toNat) v := by unfold chF; rw [if_pos h, if_pos hk]
theorem chF_1n {g : Nat → Int} {w k v : Int} (h : w = 1) (hk : ¬ (0 ≤ k ∧ k < g 0)) : chF g w k v = g := by unfold chF; rw [if_pos h, if_neg hk]
theorem chF_0 {g : Nat → Int} {w k v : Int} (h : w = 0) (hk : 0 ≤ k ∧ k < g 1) : chF g w k v = gU g (13 + 7 * k.toNat) v := by unfold chF; rw [if_neg (by omega), if_pos hk, if_pos h]
theorem chF_2 {g : Nat → Int} {w k v : Int} (h : ¬ w = 1) (h' : ¬ w = 0) (hk : 0 ≤ k ∧ k < g 1) : chF g w k v = gU g (14 + 7 * k.toNat + 0) v := by unfold chF; rw [if_neg h, if_pos hk, if_neg h']
theorem chF_n {g : Nat → Int} {w k v : Int} (h : ¬ w = 1) (hk : ¬ (0 ≤ k ∧ k < g 1)) : chF g w k v = g := by unfold chF; rw [if_neg h, if_neg hk]
theorem Q17 {d : Nat} {L : j_B} {g : Nat → Int} {m : j_M0} (h : gR g) (s : pkR 35 g m) {w k v : Int} (hp : plN w v = 1) (hk : 0 ≤ k) : ∃ m', c_call (d + 2) 17 [jR 35, jI w, jI k, jI v] (hH L m) = some (none, hH L m') ∧ kpt (fun b _ => 35 ≤ b ∧ b ≤ 39) m m' ∧ pkR 35 (chF g w k v) m' := by
  have h2 := h.2.1
  have h4 := h.2.2.2.1
  have s2 : m 35 0 = g 0 := s.2.1
  have s3 : m 35 1 = g 1 := s.2.2.1
  unfold plN at hp
  rw [E17, T17_0, s2, s3]
  by_cases e1 : w = 1
  · rw [if_pos e1]
    rw [if_neg (by omega), if_pos e1, bI_1] at hp
    by_cases e2 : k < g 0
    · rw [if_pos e2, if_neg (by omega), if_pos e1, if_pos (by omega), T17_78, chF_1 e1 ⟨hk, e2⟩]
      exact ⟨_, rfl, kpt_up (by omega), pkR_cost (a := 35) s (by omega) hp⟩
    · rw [if_neg e2, chF_1n e1 (fun h => e2 h.2)]
      exact ⟨m, rfl, kpt_rfl, s⟩
  · rw [if_neg e1]
    by_cases e2 : k < g 1
    · rw [if_pos e2]
      by_cases e0 : w = 0
      · rw [if_pos e0, bI_1] at hp
        rw [if_pos e0, if_pos (by omega), T17_78, chF_0 e0 ⟨hk, e2⟩]
        exact ⟨_, rfl, kpt_up (by omega), pkR_bound (a := 35) s (by omega) hp⟩
      · rw [if_neg e0, if_neg e1, bI_1] at hp
        rw [if_neg e0, if_neg e1, Q12_35 hk (by omega) (by decide) (by decide), chF_2 e1 e0 ⟨hk, e2⟩]
        simp only [Option.bind_some, Option.toList_some, List.cons_append, List.nil_append, Option.toList_none]
        rw [T17_78]
        exact ⟨_, rfl, kpt_up (by omega), pkR_fac (a := 35) s (by omega) (by decide) hp⟩
    · rw [if_neg e2, chF_n e1 (fun h => e2 h.2)]
      exact ⟨m, rfl, kpt_rfl, s⟩
/-- the plan's rows told, k of them -/
def plG (p g : Nat → Int) : Nat → Nat → Int
  | 0 => g
  | k + 1 => chF (plG p g k) (p (86 + 3 * k)) (p (87 + 3 * k)) (p (88 + 3 * k))
theorem plG_R {p g : Nat → Int} (h : gR g) (hp : ∀ k : Nat, (k : Int) < p 5 → plN (p (86 + 3 * k)) (p (88 + 3 * k)) = 1) : ∀ k : Nat, (k : Int) ≤ p 5 → gR (plG p g k) := by
  intro k
  induction k with
  | zero => intro _; exact h
  | succ k ih => intro hk; exact chF_R (ih (by omega)) (hp k (by omega))
theorem chF_far {g : Nat → Int} {w k v : Int} (hk : 0 ≤ k ∧ k < 8) {i : Nat} (hi : 150 ≤ i) : chF g w k v i = g i := by
  unfold chF
  split
  · split
    · exact gU_ne (by omega)
    · rfl
  · split
    · split
      · exact gU_ne (by omega)
      · exact gU_ne (by omega)
    · rfl
theorem L126 {d : Nat} {L : j_B} {p g : Nat → Int} (h : gR g) (hx : gX p) : ∀ j k : Nat, ((k + j : Nat) : Int) = p 5 → ∀ m : j_M0, pkR 35 (plG p g k) m → m 3 8 = p 5 → (∀ i : Nat, (i : Int) < p 5 → m 16 i = p (86 + 3 * i) ∧ m 17 i = p (87 + 3 * i) ∧ m 18 i = p (88 + 3 * i)) → ∃ m', j_fin (c_call (d + 6)) 126 16 [some (jR 2), some (jI k)] [] (hH L m) = some (some (jI (worF (pkG (plG p g (p 5).toNat)))), hH L m') ∧ kpt (fun b _ => 35 ≤ b ∧ b ≤ 39 ∨ 54 ≤ b ∧ b ≤ 67) m m' := by
  have hp := hx.2.2.2.2.2.2.1
  have h5 := hx.2.2.2.2.2.1
  intro j
  induction j with
  | zero =>
    intro k hk m s e8 hs
    have ek : (p 5).toNat = k := by omega
    obtain ⟨m1, s1, s2⟩ := Q30b (d := d) (L := L) (plG_R h (fun k hk => (hp k hk).2.2) k (by omega)) s
    rw [T126_16, if_neg (by omega), s1, ek]
    simp only [Option.bind_some, Option.toList_some, List.cons_append, List.nil_append]
    rw [T126_78]
    exact ⟨m1, rfl, kpt_w s2 (fun b z h => by omega)⟩
  | succ j ih =>
    intro k hk m s e8 hs
    have hsk := hs k (by omega)
    have hpk := hp k (by omega)
    obtain ⟨m1, s1, s2, s3⟩ := Q17 (d := d + 4) (L := L) (m := m) (plG_R h (fun k hk => (hp k hk).2.2) k (by omega)) s (w := p (86 + 3 * k)) (k := p (87 + 3 * k)) (v := p (88 + 3 * k)) hpk.2.2 hpk.2.1.1
    obtain ⟨m2, t1, t2⟩ := ih (k + 1) (by omega) m1 s3 ((kpt_at s2 (by omega)).trans e8) (fun i hi => ⟨(kpt_at s2 (by omega)).trans (hs i hi).1, (kpt_at s2 (by omega)).trans (hs i hi).2.1, (kpt_at s2 (by omega)).trans (hs i hi).2.2⟩)
    rw [T126_16, if_pos (by omega), if_pos (by omega), if_pos (by omega), if_pos (by omega), Int.toNat_natCast, hsk.1, hsk.2.1, hsk.2.2, s1]
    simp only [Option.bind_some, Option.toList_some, List.cons_append, List.nil_append, Option.toList_none]
    rw [T126_61, nat1 (by omega)]
    exact ⟨m2, t1, kpt_tr (kpt_w s2 (fun b z h => by omega)) t2⟩
