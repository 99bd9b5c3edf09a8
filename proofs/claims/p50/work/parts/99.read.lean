/-! read. -/
/-! rules come from clauses -/
theorem gX_k {g g' : Nat → Int} (hg : gR g) (hx : gX g) (kg : ∀ z : Nat, ¬ (z = 1 ∨ 12 ≤ z ∧ z < 68) → g' z = g z) : gX g' := by
  have h0 := hg.1
  have h5 := hg.2.1
  obtain ⟨x1, x2, x3, x4, x5, x6, x7, x8, x9, x10⟩ := hx
  refine ⟨?_, ?_, ?_, ?_, ?_, ?_, ?_, ?_, ?_, ?_⟩
  · exact fun r hr => by
      rw [kg _ (by omega)]
      exact x1 r hr
  · exact by
      rw [kg 2 (by omega)]
      exact x2
  · exact by
      rw [kg 3 (by omega)]
      exact x3
  · exact by
      rw [kg 4 (by omega)]
      exact x4
  · exact fun k hk => by
      rw [kg 4 (by omega)] at hk
      rw [kg (76 + 2 * k) (by omega), kg (77 + 2 * k) (by omega), kg 0 (by omega)]
      exact x5 k hk
  · exact by
      rw [kg 5 (by omega)]
      exact x6
  · exact fun k hk => by
      rw [kg 5 (by omega)] at hk
      rw [kg (86 + 3 * k) (by omega), kg (87 + 3 * k) (by omega), kg (88 + 3 * k) (by omega)]
      exact x7 k hk
  · exact by
      rw [kg 6 (by omega)]
      exact x8
  · exact fun k hk => by
      rw [kg 6 (by omega)] at hk
      rw [kg (110 + 2 * k) (by omega), kg (111 + 2 * k) (by omega), kg 0 (by omega)]
      exact x9 k hk
  · exact fun i j hij hj => by
      rw [kg 6 (by omega)] at hj
      rw [kg (110 + 2 * i) (by omega), kg (110 + 2 * j) (by omega)]
      exact x10 i j hij hj
theorem stR_pk {g g' : Nat → Int} {m m' : j_M0} (hg : gR g) (hx : gX g) (st : stR 3 g m) (kg : ∀ z : Nat, ¬ (z = 1 ∨ 12 ≤ z ∧ z < 68) → g' z = g z) (pk : pkR 4 g' m') (km : ∀ b z : Nat, b = 3 ∨ 9 ≤ b ∧ b ≤ 18 → m' b z = m b z) : stR 3 g' m' := by
  have h0 := hg.1
  have h5 := hg.2.1
  have h8 := hg.2.2.2.1
  have x4 := hx.2.2.2.1
  have x6 := hx.2.2.2.2.2.1
  have x8 := hx.2.2.2.2.2.2.2.1
  refine ⟨?_, ?_, ?_, ?_, ?_, ?_, ?_, ?_, ?_⟩
  · exact pk
  · exact ofR_g (ofR_k st.2.1 (fun b z h h' => km _ _ (by omega))) (by omega) (fun z hz => kg _ (by omega))
  · exact fun r hr => (km _ _ (by omega)).trans ((st.2.2.1 r hr).trans (kg _ (by omega)).symm)
  · exact (km _ _ (by omega)).trans (st.2.2.2.1.trans (kg _ (by omega)).symm)
  · exact (km _ _ (by omega)).trans (st.2.2.2.2.1.trans (kg _ (by omega)).symm)
  · exact (km _ _ (by omega)).trans (st.2.2.2.2.2.1.trans (kg _ (by omega)).symm)
  · exact fun k hk => by
      rw [kg 4 (by omega)] at hk
      exact ⟨(km _ _ (by omega)).trans ((st.2.2.2.2.2.2.1 k hk).1.trans (kg _ (by omega)).symm), (km _ _ (by omega)).trans ((st.2.2.2.2.2.2.1 k hk).2.trans (kg _ (by omega)).symm)⟩
  · exact (km _ _ (by omega)).trans (st.2.2.2.2.2.2.2.1.trans (kg _ (by omega)).symm)
  · exact fun k hk => by
      rw [kg 5 (by omega)] at hk
      exact ⟨(km _ _ (by omega)).trans ((st.2.2.2.2.2.2.2.2 k hk).1.trans (kg _ (by omega)).symm), (km _ _ (by omega)).trans ((st.2.2.2.2.2.2.2.2 k hk).2.1.trans (kg _ (by omega)).symm), (km _ _ (by omega)).trans ((st.2.2.2.2.2.2.2.2 k hk).2.2.trans (kg _ (by omega)).symm)⟩
/-- the first p factors of rule r come from clause c -/
def fcG (A S : Nat → Int) (r c p : Nat) : Nat → Int := fun i => if 14 + 7 * r ≤ i ∧ i < 14 + 7 * r + p then S (7 * c + 2 + (i - (14 + 7 * r))) else A i
theorem fcG_ne {A S : Nat → Int} {r c p i : Nat} (h : ¬ (14 + 7 * r ≤ i ∧ i < 14 + 7 * r + p)) : fcG A S r c p i = A i := if_neg h
theorem fcG_at {A S : Nat → Int} {r c p q : Nat} (h : q < p) : fcG A S r c p (14 + 7 * r + q) = S (7 * c + 2 + q) := by
  unfold fcG
  rw [if_pos (by omega), show 14 + 7 * r + q - (14 + 7 * r) = q by omega]
theorem fcG_0 {A S : Nat → Int} {r c : Nat} : fcG A S r c 0 = A := funext (fun i => if_neg (by omega))
theorem fcG_s {A S : Nat → Int} {r c p : Nat} : fcG A S r c (p + 1) = gU (fcG A S r c p) (14 + 7 * r + p) (S (7 * c + 2 + p)) := by
  funext i
  unfold gU
  by_cases e : i = 14 + 7 * r + p
  · rw [if_pos e, e, fcG_at (by omega)]
  · rw [if_neg e]
    by_cases e2 : 14 + 7 * r ≤ i ∧ i < 14 + 7 * r + p
    · rw [show i = 14 + 7 * r + (i - (14 + 7 * r)) by omega, fcG_at (by omega), fcG_at (by omega)]
    · rw [fcG_ne e2, fcG_ne (by omega)]
theorem fcG_R {A S : Nat → Int} {r c : Nat} (h : gR A) (hr : r < 8) (f : facR S c) : ∀ p : Nat, p ≤ 5 → gR (fcG A S r c p) := by
  intro p
  induction p with
  | zero => intro _; rw [fcG_0]; exact h
  | succ p ih =>
    intro hp
    rw [fcG_s]
    exact gR_fac (ih (by omega)) hr (by omega) (f p (by omega))
def rdG (g S : Nat → Int) : Nat → Nat → Int
  | 0 => g
  | c + 1 => fcG (addG (rdG g S c) (S (7 * c)) (S (7 * c + 1))) S (rdG g S c 1).toNat c 5
theorem rdG_1 {g S : Nat → Int} (h : 0 ≤ g 1) : ∀ c : Nat, rdG g S c 1 = g 1 + c := by
  intro c
  induction c with
  | zero =>
    show g 1 = _
    omega
  | succ c ih =>
    unfold rdG
    rw [fcG_ne (by omega), addG_1, ih]
    omega
theorem rdG_ne {g S : Nat → Int} (h : 0 ≤ g 1) {z : Nat} (hz : ¬ (z = 1 ∨ 12 ≤ z ∧ z < 68)) : ∀ c : Nat, g 1 + c ≤ 8 → rdG g S c z = g z := by
  intro c
  induction c with
  | zero => intro _; rfl
  | succ c ih =>
    intro hc
    have e := rdG_1 (S := S) h c
    unfold rdG
    rw [fcG_ne (by omega), addG_ne (by omega) (by omega)]
    exact ih (by omega)
theorem rdG_R {g S : Nat → Int} (h : gR g) : ∀ c : Nat, g 1 + c ≤ 8 → (∀ q : Nat, q < c → clR S q) → gR (rdG g S c) := by
  intro c
  induction c with
  | zero => intro _ _; exact h
  | succ c ih =>
    intro hc hS
    have h3 := h.2.2.1
    have e := rdG_1 (S := S) h3 c
    obtain ⟨s1, s2, s3⟩ := hS c (by omega)
    unfold rdG
    exact fcG_R (addG_R (ih (by omega) (fun q hq => hS q (by omega))) (by omega) s1 s2) (by omega) s3 5 (by omega)
theorem L66f {d n r c : Nat} {L : j_B} {A S : Nat → Int} {m0 : j_M0} (hn : A 0 = n) (h5 : n ≤ 5) (hr : A 1 = ((r + 1 : Nat) : Int)) (hr8 : r < 8) (hc : c < 4) (f : facR S c) (hf : ∀ p : Nat, p < 5 → m0 97 (5 * c + p) = S (7 * c + 2 + p)) : ∀ j p : Nat, p + j = n → ∀ m : j_M0, pkR 4 (fcG A S r c p) m → (∀ z : Nat, m 97 z = m0 97 z) → ∃ m', j_fin (c_call (d + 1)) 66 28 [some (jR 93), some (jR 4), some (jI c), some (jI p)] [] (hH L m) = j_fin (c_call (d + 1)) 66 2 [some (jR 93), some (jR 4), some (jI ((c + 1 : Nat) : Int)), some (jI n)] [] (hH L m') ∧ kpt (fun b z => b = 8) m m' ∧ pkR 4 (fcG A S r c n) m' := by
  intro j
  induction j with
  | zero =>
    intro p hp m w h97
    have ep : p = n := by omega
    subst ep
    have k0 : m 4 0 = fcG A S r c p 0 := w.2.1
    rw [fcG_ne (by omega)] at k0
    rw [T66_28, if_neg (by omega), nat1 (k := c) (by omega)]
    exact ⟨m, rfl, kpt_rfl, w⟩
  | succ j ih =>
    intro p hp m w h97
    have k0 : m 4 0 = fcG A S r c p 0 := w.2.1
    have k1 : m 4 1 = fcG A S r c p 1 := w.2.2.1
    rw [fcG_ne (by omega)] at k0 k1
    have w2 : True → w32 (w32 ((c : Int) * 5) + (p : Int)) = 5 * (c : Int) + p := fun _ => by rw [w32_id (x := (c : Int) * 5) (by omega) (by omega), w32_id (by omega) (by omega)]; omega
    have w3 : True → w32 (m 4 1 - 1) = (r : Int) := fun _ => by rw [k1, hr, w32_id (by omega) (by omega)]; omega
    rw [T66_28, if_pos (by omega), w2 trivial, if_pos (by omega), w3 trivial, show (5 * (c : Int) + (p : Int)).toNat = 5 * c + p by omega, h97, hf p (by omega), Q12_4 (by omega) (by omega) (by omega) (by omega), Int.toNat_natCast, Int.toNat_natCast]
    simp only [Option.bind_some, Option.toList_some, List.cons_append, List.nil_append, Option.toList_none]
    rw [T66_57, nat1 (k := p) (by omega)]
    obtain ⟨m', t1, t2, t3⟩ := ih (p + 1) (by omega) (j_up m 8 (5 * r + p) (S (7 * c + 2 + p))) (by
      rw [fcG_s]
      exact pkR_fac (a := 4) w (by rw [fcG_ne (by omega), hr]; omega) (by omega) (f p (by omega))) (fun z => by rw [up_ne (by omega)]; exact h97 z)
    exact ⟨m', t1, kpt_tr (kpt_up (by omega)) t2, t3⟩
theorem L66 {d cc : Nat} {L : j_B} {g S : Nat → Int} (hg : gR g) (h8 : g 1 + cc ≤ 8) (h4 : cc ≤ 4) (hS : ∀ q : Nat, q < cc → clR S q) : ∀ j c : Nat, c + j = cc → ∀ (m : j_M0) (o3 : Option j_V), pkR 4 (rdG g S c) m → m 93 1 = cc → cC cc S m → ∃ m', j_fin (c_call (d + 2)) 66 2 [some (jR 93), some (jR 4), some (jI c), o3] [] (hH L m) = some (none, hH L m') ∧ kpt (fun b z => 4 ≤ b ∧ b ≤ 8) m m' ∧ pkR 4 (rdG g S cc) m' := by
  have h3 := hg.2.2.1
  have h5 := hg.2.1
  have h1 := hg.1
  intro j
  induction j with
  | zero =>
    intro c hc m o3 w e1 hC
    rw [T66_2, if_neg (by omega), ← show c = cc by omega]
    exact ⟨m, rfl, kpt_rfl, w⟩
  | succ j ih =>
    intro c hc m o3 w e1 hC
    have e := rdG_1 (S := S) h3 c
    have e0 := rdG_ne (S := S) h3 (z := 0) (by omega) c (by omega)
    obtain ⟨s1, s2, s3⟩ := hS c (by omega)
    obtain ⟨q1, q2, q3⟩ := hC c (by omega)
    have hR := rdG_R (S := S) hg c (by omega) (fun q hq => hS q (by omega))
    obtain ⟨m1, t1, t2, t3⟩ := Q10_4 (d := d) (L := L) hR w (s := S (7 * c)) (b := S (7 * c + 1)) (by omega) s1 s2
    obtain ⟨r, hr⟩ : ∃ r : Nat, rdG g S c 1 = r := ⟨_, (Int.toNat_of_nonneg (by omega)).symm⟩
    obtain ⟨n, hn⟩ : ∃ n : Nat, g 0 = n := ⟨_, (Int.toNat_of_nonneg (by omega)).symm⟩
    obtain ⟨A, hA⟩ : ∃ A, A = addG (rdG g S c) (S (7 * c)) (S (7 * c + 1)) := ⟨_, rfl⟩
    have A0 : A 0 = n := by rw [hA, addG_ne (by omega) (by omega), e0, hn]
    have A1 : A 1 = ((r + 1 : Nat) : Int) := by rw [hA, addG_1, hr]; rfl
    rw [← hA] at t3
    obtain ⟨m2, u1, u2, u3⟩ := L66f (d := d + 1) (L := L) (m0 := m1) A0 (by omega) A1 (by omega) (show c < 4 by omega) s3 (fun p hp => (kpt_at t2 (by omega)).trans (q3 p hp)) n 0 (by omega) m1 (by rw [fcG_0]; exact t3) (fun z => rfl)
    have w2 : pkR 4 (rdG g S (c + 1)) m2 := by
      have er : rdG g S (c + 1) = fcG A S r c 5 := by
        show fcG (addG (rdG g S c) (S (7 * c)) (S (7 * c + 1))) S (rdG g S c 1).toNat c 5 = _
        rw [hr, Int.toNat_natCast, hA]
      rw [er]
      refine pkR_w u3 ?_ ?_ (fun p hp => ?_) (fun q hq => ⟨?_, ?_⟩) (fun q p hq hp => ?_)
      · rw [fcG_ne (by omega), fcG_ne (by omega)]
      · rw [fcG_ne (by omega), fcG_ne (by omega)]
      · rw [fcG_ne (by omega), fcG_ne (by omega)]
      · rw [fcG_ne (by omega), fcG_ne (by omega)]
      · rw [fcG_ne (by omega), fcG_ne (by omega)]
      · rw [fcG_ne (by omega), A0] at hp
        by_cases c2 : q = r
        · rw [c2, fcG_at (by omega), fcG_at (by omega)]
        · rw [fcG_ne (by omega), fcG_ne (by omega)]
    obtain ⟨m3, v1, v2, v3⟩ := ih (c + 1) (by omega) m2 (some (jI n)) w2 ((kpt_at u2 (by omega)).trans ((kpt_at t2 (by omega)).trans e1)) (fun q hq => by
      obtain ⟨y1, y2, y3⟩ := hC q hq
      exact ⟨(kpt_at u2 (by omega)).trans ((kpt_at t2 (by omega)).trans y1), (kpt_at u2 (by omega)).trans ((kpt_at t2 (by omega)).trans y2), fun p hp => (kpt_at u2 (by omega)).trans ((kpt_at t2 (by omega)).trans (y3 p hp))⟩)
    have u1' : j_fin (c_call (d + 2)) 66 28 [some (jR 93), some (jR 4), some (jI c), some (jI 0)] [] (hH L m1) = _ := u1
    refine ⟨m3, ?_, kpt_tr (kpt_w t2 (fun b z h => by omega)) (kpt_tr (kpt_w u2 (fun b z h => by omega)) v2), v3⟩
    rw [T66_2, if_pos (by omega), if_pos (by omega), if_pos (by omega), Int.toNat_natCast, q1, q2, t1]
    simp only [Option.bind_some, Option.toList_some, List.cons_append, List.nil_append, Option.toList_none]
    rw [T66_26, u1']
    exact v1
