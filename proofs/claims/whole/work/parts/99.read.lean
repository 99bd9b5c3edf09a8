/-! read. -/
/-! rules come from clauses -/
theorem gX_k {g g' : Nat → Int} (hg : gR g) (hx : gX g) (kg : ∀ z : Nat, ¬ (z = 1 ∨ 12 ≤ z ∧ z < 68) → g' z = g z) : gX g' := by
  have h0 := hg.1
  have h5 := hg.2.1
  obtain ⟨x1, x2, x3, x4, x5, x6, x7, x8, x9, x10⟩ := hx
  refine ⟨?_, ?_, ?_, ?_, ?_, ?_, ?_, ?_, ?_, ?_⟩
  · exact fun r hr => by
      rw [kg _ (by omega)]
      exact x1 r hr
  · exact by
      rw [kg 2 (by omega)]
      exact x2
  · exact by
      rw [kg 3 (by omega)]
      exact x3
  · exact by
      rw [kg 4 (by omega)]
      exact x4
  · exact fun k hk => by
      rw [kg 4 (by omega)] at hk
      rw [kg (76 + 2 * k) (by omega), kg (77 + 2 * k) (by omega), kg 0 (by omega)]
      exact x5 k hk
  · exact by
      rw [kg 5 (by omega)]
      exact x6
  · exact fun k hk => by
      rw [kg 5 (by omega)] at hk
      rw [kg (86 + 3 * k) (by omega), kg (87 + 3 * k) (by omega), kg (88 + 3 * k) (by omega)]
      exact x7 k hk
  · exact by
      rw [kg 6 (by omega)]
      exact x8
  · exact fun k hk => by
      rw [kg 6 (by omega)] at hk
      rw [kg (110 + 2 * k) (by omega), kg (111 + 2 * k) (by omega), kg 0 (by omega)]
      exact x9 k hk
  · exact fun i j hij hj => by
      rw [kg 6 (by omega)] at hj
      rw [kg (110 + 2 * i) (by omega), kg (110 + 2 * j) (by omega)]
      exact x10 i j hij hj
theorem stR_pk {g g' : Nat → Int} {m m' : j_M0} (hg : gR g) (hx : gX g) (st : stR 3 g m) (kg : ∀ z : Nat, ¬ (z = 1 ∨ 12 ≤ z ∧ z < 68) → g' z = g z) (pk : pkR 4 g' m') (km : ∀ b z : Nat, b = 3 ∨ 9 ≤ b ∧ b ≤ 18 → m' b z = m b z) : stR 3 g' m' := by
  have h0 := hg.1
  have h5 := hg.2.1
  have h8 := hg.2.2.2.1
  have x4 := hx.2.2.2.1
  have x6 := hx.2.2.2.2.2.1
  have x8 := hx.2.2.2.2.2.2.2.1
  refine ⟨?_, ?_, ?_, ?_, ?_, ?_, ?_, ?_, ?_⟩
  · exact pk
  · exact ofR_g (ofR_k st.2.1 (fun b z h h' => km _ _ (by omega))) (by omega) (fun z hz => kg _ (by omega))
  · exact fun r hr => (km _ _ (by omega)).trans ((st.2.2.1 r hr).trans (kg _ (by omega)).symm)
  · exact (km _ _ (by omega)).trans (st.2.2.2.1.trans (kg _ (by omega)).symm)
  · exact (km _ _ (by omega)).trans (st.2.2.2.2.1.trans (kg _ (by omega)).symm)
  · exact (km _ _ (by omega)).trans (st.2.2.2.2.2.1.trans (kg _ (by omega)).symm)
  · exact fun k hk => by
      rw [kg 4 (by omega)] at hk
      exact ⟨(km _ _ (by omega)).trans ((st.2.2.2.2.2.2.1 k hk).1.trans (kg _ (by omega)).symm), (km _ _ (by omega)).trans ((st.2.2.2.2.2.2.1 k hk).2.trans (kg _ (by omega)).symm)⟩
  · exact (km _ _ (by omega)).trans (st.2.2.2.2.2.2.2.1.trans (kg _ (by omega)).symm)
  · exact fun k hk => by
      rw [kg 5 (by omega)] at hk
      exact ⟨(km _ _ (by omega)).trans ((st.2.2.2.2.2.2.2.2 k hk).1.trans (kg _ (by omega)).symm), (km _ _ (by omega)).trans ((st.2.2.2.2.2.2.2.2 k hk).2.1.trans (kg _ (by omega)).symm), (km _ _ (by omega)).trans ((st.2.2.2.2.2.2.2.2 k hk).2.2.trans (kg _ (by omega)).symm)⟩
/-- the first p factors of rule r come from clause c -/
def fcG (A S : Nat → Int) (r c p : Nat) : Nat → Int := fun i => if 14 + 7 * r ≤ i ∧ i < 14 + 7 * r + p then S (7 * c + 2 + (i - (14 + 7 * r))) else A i
theorem fcG_ne {A S : Nat → Int} {r c p i : Nat} (h : ¬ (14 + 7 * r ≤ i ∧ i < 14 + 7 * r + p)) : fcG A S r c p i = A i := if_neg h
theorem fcG_at {A S : Nat → Int} {r c p q : Nat} (h : q < p) : fcG A S r c p (14 + 7 * r + q) = S (7 * c + 2 + q) := by
  unfold fcG
  rw [if_pos (by omega), show 14 + 7 * r + q - (14 + 7 * r) = q by omega]
theorem fcG_0 {A S : Nat → Int} {r c : Nat} : fcG A S r c 0 = A := funext (fun i => if_neg (by omega))
theorem fcG_s {A S : Nat → Int} {r c p : Nat} : fcG A S r c (p + 1) = gU (fcG A S r c p) (14 + 7 * r + p) (S (7 * c + 2 + p)) := by
  funext i
  unfold gU
  by_cases e : i = 14 + 7 * r + p
  · rw [if_pos e, e, fcG_at (by omega)]
  · rw [if_neg e]
    by_cases e2 : 14 + 7 * r ≤ i ∧ i < 14 + 7 * r + p
    · rw [show i = 14 + 7 * r + (i - (14 + 7 * r)) by omega, fcG_at (by omega), fcG_at (by omega)]
    · rw [fcG_ne e2, fcG_ne (by omega)]
theorem fcG_R {A S : Nat → Int} {r c : Nat} (h : gR A) (hr : r < 8) (f : facR S c) : ∀ p : Nat, p ≤ 5 → gR (fcG A S r c p) := by
  intro p
  induction p with
  | zero => intro _; rw [fcG_0]; exact h
  | succ p ih =>
    intro hp
    rw [fcG_s]
    exact gR_fac (ih (by omega)) hr (by omega) (f p (by omega))
def rdG (g S : Nat → Int) : Nat → Nat → Int
  | 0 => g
  | c + 1 => fcG (addG (rdG g S c) (S (7 * c)) (S (7 * c + 1))) S (rdG g S c 1).toNat c 5
theorem rdG_1 {g S : Nat → Int} (h : 0 ≤ g 1) : ∀ c : Nat, rdG g S c 1 = g 1 + c := by
  intro c
  induction c with
  | zero =>
    show g 1 = _
    omega
  | succ c ih =>
    unfold rdG
    rw [fcG_ne (by omega), addG_1, ih]
    omega
theorem rdG_ne {g S : Nat → Int} (h : 0 ≤ g 1) {z : Nat} (hz : ¬ (z = 1 ∨ 12 ≤ z ∧ z < 68)) : ∀ c : Nat, g 1 + c ≤ 8 → rdG g S c z = g z := by
  intro c
  induction c with
  | zero => intro _; rfl
  | succ c ih =>
    intro hc
    have e := rdG_1 (S := S) h c
    unfold rdG
    rw [fcG_ne (by omega), addG_ne (by omega) (by omega)]
    exact ih (by omega)
theorem rdG_R {g S : Nat → Int} (h : gR g) : ∀ c : Nat, g 1 + c ≤ 8 → (∀ q : Nat, q < c → clR S q) → gR (rdG g S c) := by
  intro c
  induction c with
  | zero => intro _ _; exact h
  | succ c ih =>
    intro hc hS
    have h3 := h.2.2.1
    have e := rdG_1 (S := S) h3 c
    obtain ⟨s1, s2, s3⟩ := hS c (by omega)
    unfold rdG
    exact fcG_R (addG_R (ih (by omega) (fun q hq => hS q (by omega))) (by omega) s1 s2) (by omega) s3 5 (by omega)
theorem L66f {d L n r c : Nat} {A S : Nat → Int} {m0 : j_M0} (hn : A 0 = n) (h5 : n ≤ 5) (hr : A 1 = ((r + 1 : Nat) : Int)) (hr8 : r < 8) (hc : c < 4) (f : facR S c) (hf : ∀ p : Nat, p < 5 → m0 97 (5 * c + p) = S (7 * c + 2 + p)) : ∀ j p : Nat, p + j = n → ∀ m : j_M0, pkR 4 (fcG A S r c p) m → (∀ z : Nat, m 97 z = m0 97 z) → ∃ m', j_fin (c_call (d + 1)) 66 28 [some (jR 93), some (jR 4), some (jI c), some (jI p)] [] (hH L m) = j_fin (c_call (d + 1)) 66 2 [some (jR 93), some (jR 4), some (jI ((c + 1 : Nat) : Int)), some (jI n)] [] (hH L m') ∧ kpt (fun b z => b = 8) m m' ∧ pkR 4 (fcG A S r c n) m' := by
  intro j
  induction j with
  | zero =>
    intro p hp m w h97
    have ep : p = n := by omega
    subst ep
    have k0 : m 4 0 = fcG A S r c p 0 := w.2.1
    rw [fcG_ne (by omega)] at k0
    rw [T66_28, if_neg (by omega), nat1 (k := c) (by omega)]
    exact ⟨m, rfl, kpt_rfl, w⟩
  | succ j ih =>
    intro p hp m w h97
    have k0 : m 4 0 = fcG A S r c p 0 := w.2.1
    have k1 : m 4 1 = fcG A S r c p 1 := w.2.2.1
    rw [fcG_ne (by omega)] at k0 k1
    have w2 : True → w32 (w32 ((c : Int) * 5) + (p : Int)) = 5 * (c : Int) + p := fun _ => by rw [w32_id (x := (c : Int) * 5) (by omega) (by omega), w32_id (by omega) (by omega)]; omega
    have w3 : True → w32 (m 4 1 - 1) = (r : Int) := fun _ => by rw [k1, hr, w32_id (by omega) (by omega)]; omega
    rw [T66_28, if_pos (by omega), w2 trivial, if_pos (by omega), w3 trivial, show (5 * (c : Int) + (p : Int)).toNat = 5 * c + p by omega, h97, hf p (by omega), Q12_4 (by omega) (by omega) (by omega) (by omega), Int.toNat_natCast, Int.toNat_natCast]
    simp only [Option.bind_some, Option.toList_some, List.cons_append, List.nil_append, Option.toList_none]
    rw [T66_57, nat1 (k := p) (by omega)]
    obtain ⟨m', t1, t2, t3⟩ := ih (p + 1) (by omega) (j_up m 8 (5 * r + p) (S (7 * c + 2 + p))) (by
      rw [fcG_s]
      exact pkR_fac (a := 4) w (by rw [fcG_ne (by omega), hr]; omega) (by omega) (f p (by omega))) (fun z => by rw [up_ne (by omega)]; exact h97 z)
    exact ⟨m', t1, kpt_tr (kpt_up (by omega)) t2, t3⟩
theorem L66 {d L cc : Nat} {g S : Nat → Int} (hg : gR g) (h8 : g 1 + cc ≤ 8) (h4 : cc ≤ 4) (hS : ∀ q : Nat, q < cc → clR S q) : ∀ j c : Nat, c + j = cc → ∀ (m : j_M0) (o3 : Option j_V), pkR 4 (rdG g S c) m → m 93 1 = cc → cC cc S m → ∃ m', j_fin (c_call (d + 2)) 66 2 [some (jR 93), some (jR 4), some (jI c), o3] [] (hH L m) = some (none, hH L m') ∧ kpt (fun b z => 4 ≤ b ∧ b ≤ 8) m m' ∧ pkR 4 (rdG g S cc) m' := by
  have h3 := hg.2.2.1
  have h5 := hg.2.1
  have h1 := hg.1
  intro j
  induction j with
  | zero =>
    intro c hc m o3 w e1 hC
    rw [T66_2, if_neg (by omega), ← show c = cc by omega]
    exact ⟨m, rfl, kpt_rfl, w⟩
  | succ j ih =>
    intro c hc m o3 w e1 hC
    have e := rdG_1 (S := S) h3 c
    have e0 := rdG_ne (S := S) h3 (z := 0) (by omega) c (by omega)
    obtain ⟨s1, s2, s3⟩ := hS c (by omega)
    obtain ⟨q1, q2, q3⟩ := hC c (by omega)
    have hR := rdG_R (S := S) hg c (by omega) (fun q hq => hS q (by omega))
    obtain ⟨m1, t1, t2, t3⟩ := Q10_4 (d := d) (L := L) hR w (s := S (7 * c)) (b := S (7 * c + 1)) (by omega) s1 s2
    obtain ⟨r, hr⟩ : ∃ r : Nat, rdG g S c 1 = r := ⟨_, (Int.toNat_of_nonneg (by omega)).symm⟩
    obtain ⟨n, hn⟩ : ∃ n : Nat, g 0 = n := ⟨_, (Int.toNat_of_nonneg (by omega)).symm⟩
    obtain ⟨A, hA⟩ : ∃ A, A = addG (rdG g S c) (S (7 * c)) (S (7 * c + 1)) := ⟨_, rfl⟩
    have A0 : A 0 = n := by rw [hA, addG_ne (by omega) (by omega), e0, hn]
    have A1 : A 1 = ((r + 1 : Nat) : Int) := by rw [hA, addG_1, hr]; rfl
    rw [← hA] at t3
    obtain ⟨m2, u1, u2, u3⟩ := L66f (d := d + 1) (L := L) (m0 := m1) A0 (by omega) A1 (by omega) (show c < 4 by omega) s3 (fun p hp => (kpt_at t2 (by omega)).trans (q3 p hp)) n 0 (by omega) m1 (by rw [fcG_0]; exact t3) (fun z => rfl)
    have w2 : pkR 4 (rdG g S (c + 1)) m2 := by
      have er : rdG g S (c + 1) = fcG A S r c 5 := by
        show fcG (addG (rdG g S c) (S (7 * c)) (S (7 * c + 1))) S (rdG g S c 1).toNat c 5 = _
        rw [hr, Int.toNat_natCast, hA]
      rw [er]
      refine pkR_w u3 ?_ ?_ (fun p hp => ?_) (fun q hq => ⟨?_, ?_⟩) (fun q p hq hp => ?_)
      · rw [fcG_ne (by omega), fcG_ne (by omega)]
      · rw [fcG_ne (by omega), fcG_ne (by omega)]
      · rw [fcG_ne (by omega), fcG_ne (by omega)]
      · rw [fcG_ne (by omega), fcG_ne (by omega)]
      · rw [fcG_ne (by omega), fcG_ne (by omega)]
      · rw [fcG_ne (by omega), A0] at hp
        by_cases c2 : q = r
        · rw [c2, fcG_at (by omega), fcG_at (by omega)]
        · rw [fcG_ne (by omega), fcG_ne (by omega)]
    obtain ⟨m3, v1, v2, v3⟩ := ih (c + 1) (by omega) m2 (some (jI n)) w2 ((kpt_at u2 (by omega)).trans ((kpt_at t2 (by omega)).trans e1)) (fun q hq => by
      obtain ⟨y1, y2, y3⟩ := hC q hq
      exact ⟨(kpt_at u2 (by omega)).trans ((kpt_at t2 (by omega)).trans y1), (kpt_at u2 (by omega)).trans ((kpt_at t2 (by omega)).trans y2), fun p hp => (kpt_at u2 (by omega)).trans ((kpt_at t2 (by omega)).trans (y3 p hp))⟩)
    have u1' : j_fin (c_call (d + 2)) 66 28 [some (jR 93), some (jR 4), some (jI c), some (jI 0)] [] (hH L m1) = _ := u1
    refine ⟨m3, ?_, kpt_tr (kpt_w t2 (fun b z h => by omega)) (kpt_tr (kpt_w u2 (fun b z h => by omega)) v2), v3⟩
    rw [T66_2, if_pos (by omega), if_pos (by omega), if_pos (by omega), Int.toNat_natCast, q1, q2, t1]
    simp only [Option.bind_some, Option.toList_some, List.cons_append, List.nil_append, Option.toList_none]
    rw [T66_26, u1']
    exact v1
theorem L176f {C : Nat → List j_V → j_H → Option j_Z} {L r c : Nat} {x1 : Int} {A S : Nat → Int} (hr : A 1 = ((r + 1 : Nat) : Int)) (hr8 : r < 8) (hc : c < 4) : ∀ j p : Nat, p + j = 5 → ∀ m : j_M0, m 110 = fcG A S r c p → sM' S m → ∃ m', j_fin C 176 71 [some (jR 109), some (jI x1), some (jI c), some (jI p)] [] (hH L m) = j_fin C 176 40 [some (jR 109), some (jI x1), some (jI ((c + 1 : Nat) : Int)), some (jI (5 : Nat))] [] (hH L m') ∧ kpt (fun b z => b = 110) m m' ∧ m' 110 = fcG A S r c 5 := by
  intro j
  induction j with
  | zero =>
    intro p hp m w fm
    have ep : p = 5 := by omega
    subst ep
    rw [T176_71, if_neg (by omega), nat1 (k := c) (by omega)]
    exact ⟨m, rfl, kpt_rfl, w⟩
  | succ j ih =>
    intro p hp m w fm
    have k1 : m 110 1 = ((r + 1 : Nat) : Int) := by rw [w, fcG_ne (by omega), hr]
    have w2 : True → w32 (w32 (w32 (7 * (c : Int)) + 2) + (p : Int)) = 7 * (c : Int) + 2 + p := fun _ => by rw [w32_id (x := 7 * (c : Int)) (by omega) (by omega), w32_id (x := 7 * (c : Int) + 2) (by omega) (by omega), w32_id (by omega) (by omega)]
    have w3 : True → w32 (w32 (w32 (12 + w32 (7 * w32 (m 110 1 - 1))) + 2) + (p : Int)) = 14 + 7 * (r : Int) + p := fun _ => by
      rw [k1, w32_id (x := ((r + 1 : Nat) : Int) - 1) (by omega) (by omega), w32_id (x := 7 * (((r + 1 : Nat) : Int) - 1)) (by omega) (by omega), w32_id (x := 12 + 7 * (((r + 1 : Nat) : Int) - 1)) (by omega) (by omega), w32_id (x := 12 + 7 * (((r + 1 : Nat) : Int) - 1) + 2) (by omega) (by omega), w32_id (by omega) (by omega)]
      omega
    rw [T176_71, if_pos (by omega), w2 trivial, w3 trivial, if_pos (by omega), if_pos (by omega), show (7 * (c : Int) + 2 + (p : Int)).toNat = 7 * c + 2 + p by omega, show (14 + 7 * (r : Int) + (p : Int)).toNat = 14 + 7 * r + p by omega, fm _ (by omega), nat1 (k := p) (by omega)]
    obtain ⟨m', t1, t2, t3⟩ := ih (p + 1) (by omega) (j_up m 110 (14 + 7 * r + p) (S (7 * c + 2 + p))) (by rw [up_g, w, fcG_s]) (fun i hi => (up_ne (by omega)).trans (fm i hi))
    exact ⟨m', t1, kpt_tr (kpt_up rfl) t2, t3⟩
theorem L176 {d L cc : Nat} {g S : Nat → Int} (hg : gR g) (h8 : g 1 + cc ≤ 8) (h4 : cc ≤ 4) (hS : ∀ q : Nat, q < cc → clR S q) : ∀ j c : Nat, c + j = cc → ∀ (m : j_M0) (o3 : Option j_V), m 110 = rdG g S c → sM' S m → (0 < c → m 115 18 = 0) → ∃ m', j_fin (c_call (d + 1)) 176 40 [some (jR 109), some (jI cc), some (jI c), o3] [] (hH L m) = some (some (jI cc), hH L m') ∧ kpt (fun b z => b = 110 ∨ b = 115 ∧ z = 18) m m' ∧ m' 110 = rdG g S cc ∧ (0 < cc → m' 115 18 = 0) := by
  have h3 := hg.2.2.1
  intro j
  induction j with
  | zero =>
    intro c hc m o3 w fm h0
    have e : c = cc := by omega
    subst e
    rw [T176_40, if_neg (by omega)]
    exact ⟨m, rfl, kpt_rfl, w, h0⟩
  | succ j ih =>
    intro c hc m o3 w fm h0
    have e := rdG_1 (S := S) h3 c
    have hR := rdG_R (S := S) hg c (by omega) (fun q hq => hS q (by omega))
    obtain ⟨m1, t1, t2, t3, t4⟩ := Q161 (d := d) (L := L) (m := m) (by rw [w]; exact hR) (s := S (7 * c)) (b := S (7 * c + 1)) (by rw [w]; omega)
    rw [w] at t3
    obtain ⟨r, hr⟩ : ∃ r : Nat, rdG g S c 1 = r := ⟨_, (Int.toNat_of_nonneg (by omega)).symm⟩
    have A1 : addG (rdG g S c) (S (7 * c)) (S (7 * c + 1)) 1 = ((r + 1 : Nat) : Int) := by rw [addG_1, hr]; rfl
    obtain ⟨m2, u1, u2, u3⟩ := L176f (C := c_call (d + 1)) (L := L) (x1 := (cc : Int)) (S := S) A1 (by omega) (show c < 4 by omega) 5 0 (by omega) m1 (by rw [fcG_0]; exact t3) (fun i hi => (kpt_at t2 (by omega)).trans (fm i hi))
    have er : m2 110 = rdG g S (c + 1) := by
      rw [u3]
      show _ = fcG _ S (rdG g S c 1).toNat c 5
      rw [hr, Int.toNat_natCast]
    obtain ⟨m3, v1, v2, v3, v4⟩ := ih (c + 1) (by omega) m2 (some (jI (5 : Nat))) er (fun i hi => (kpt_at u2 (by omega)).trans ((kpt_at t2 (by omega)).trans (fm i hi))) (fun _ => (kpt_at u2 (by omega)).trans t4)
    have u1' : j_fin (c_call (d + 1)) 176 71 [some (jR 109), some (jI cc), some (jI c), some (jI 0)] [] (hH L m1) = _ := u1
    have w1 : True → w32 (7 * (c : Int)) = 7 * (c : Int) := fun _ => w32_id (by omega) (by omega)
    have w2 : True → w32 (7 * (c : Int) + 1) = 7 * (c : Int) + 1 := fun _ => w32_id (by omega) (by omega)
    refine ⟨m3, ?_, kpt_tr t2 (kpt_tr (kpt_w u2 (fun b z h => Or.inl h)) v2), v3, v4⟩
    rw [T176_40, if_pos (by omega), w1 trivial, w2 trivial, if_pos (by omega), if_pos (by omega), show (7 * (c : Int)).toNat = 7 * c by omega, show (7 * (c : Int) + 1).toNat = 7 * c + 1 by omega, fm _ (by omega), fm _ (by omega), t1]
    simp only [Option.bind_some, Option.toList_some, List.cons_append, List.nil_append, Option.toList_none]
    rw [T176_69, u1']
    exact v1
theorem Rel_tx {xs : Nat → Int32} {m m' : j_M0} (w : Rel xs m) (k : kpt (fun b z => uPd b z ∨ b = 93 ∧ z = 0 ∨ b = 109 ∧ z = 6) m m') (g1 : gR (m' 110)) (g2 : gX (m' 110)) (st : stR 3 (m' 110) m') (t : (m' 2 11 = 0 ∧ m' 115 18 = 0) ∨ (m' 2 11 = m 2 11 ∧ m' 115 18 = m 115 18 ∧ m' 110 0 = m 110 0)) (e1 : m' 93 0 = 0) (e2 : m' 109 6 = 0) : Rel xs m' := by
  have q : ∀ b z, ¬ (uPd b z ∨ b = 93 ∧ z = 0 ∨ b = 109 ∧ z = 6) → m' b z = m b z := fun b z h => kpt_at k h
  unfold uPd sc at q
  obtain ⟨w1, w2, w3, w4, w5, w6, w7, w8⟩ := w
  refine ⟨baR_k w1 (fun b z h => q _ _ (by omega)), g1, g2, st, imR_k w5 (fun b z h => q _ _ (by omega)), ?_, ⟨by rw [e1, e2], by rw [e1]; omega, by rw [e1]; omega, fun i hi => by rw [e1] at hi; omega⟩, tpR_k w8 (fun b z h => q _ _ (by omega))⟩
  rcases t with t | ⟨t1, t2, t3⟩
  · exact Or.inl t
  · refine taR_k w6 w2.2.1 (fun b z h => ?_)
    by_cases e1 : b = 2 ∧ z = 11
    · rw [e1.1, e1.2]; exact t1
    · by_cases e2 : b = 115 ∧ z = 18
      · rw [e2.1, e2.2]; exact t2
      · by_cases e3 : b = 110 ∧ z = 0
        · rw [e3.1, e3.2]; exact t3
        · exact q _ _ (by omega)
theorem PA95 {L : Nat} {xs : Nat → Int32} {m : j_M0} (w : Rel xs m) : PA L xs 95 176 [] m := by
  have n := Rel_n w
  have te := w.2.2.2.2.2.2.1
  obtain ⟨N, hN⟩ : ∃ N : Nat, m 93 0 = N := ⟨_, (Int.toNat_of_nonneg te.2.1).symm⟩
  obtain ⟨nn, hnn⟩ : ∃ nn : Nat, m 110 0 = nn := ⟨_, (Int.toNat_of_nonneg (by omega)).symm⟩
  have o : txO (m 94) N := ⟨by have := te.2.2.1; omega, fun i hi => (te.2.2.2 i (by omega)).2⟩
  have hC : tC' (m 94) N m := ⟨hN, fun i hi => rfl⟩
  obtain ⟨m1, a1, a2, a3⟩ := Q65 (d := 4) (L := L) (n := nn) (S := m 114) o (by omega) hC
  obtain ⟨m2, hm2⟩ : ∃ m2, m2 = j_up m1 93 0 0 := ⟨_, rfl⟩
  have k2 : kpt (fun b z => uPd b z ∨ b = 93 ∧ z = 0 ∨ b = 109 ∧ z = 6) m m2 := by
    rw [hm2]
    exact kpt_tr (kpt_w a2 (fun b z h => by unfold uPd sc; omega)) (kpt_up (Or.inr (Or.inl ⟨rfl, rfl⟩)))
  have q2 : ∀ b z : Nat, ¬ (b = 93 ∨ b = 95 ∨ b = 96 ∨ b = 97) → m2 b z = m b z := fun b z h => by
    rw [hm2, up_ne (by omega)]
    exact kpt_at a2 (by omega)
  -- the model reads, from any memory that is so
  have mod : ∀ mc : j_M0, (∀ b z : Nat, b = 110 ∧ z = 0 ∨ b = 109 ∧ z = 6 ∨ b = 113 ∨ b = 114 → mc b z = m b z) → ∃ m', c_call 9 175 [jR 109] (hH L mc) = some (some (jI (if (alF (m 94) N nn 4 0 0 (m 114)).1 = true then (((alF (m 94) N nn 4 0 0 (m 114)).2.2.1 : Nat) : Int) else -1)), hH L m') ∧ kpt WT mc m' ∧ m' 109 7 = (alF (m 94) N nn 4 0 0 (m 114)).2.1 ∧ ((alF (m 94) N nn 4 0 0 (m 114)).1 = true → sM' (alF (m 94) N nn 4 0 0 (m 114)).2.2.2 m') := fun mc hmc => by
    have hM : tM (m 94) N (j_up mc 109 7 0) := tM_7 ⟨by rw [hmc _ _ (by omega), ← te.1, hN], fun i hi => by rw [hmc _ _ (by omega), (te.2.2.2 i (by omega)).1]⟩
    obtain ⟨m', t1, t2, t3, t4⟩ := L175 (d := 3) (L := L) (t := m 94) (N := N) (n := nn) o (by omega) (by omega) 3 0 0 (m 114) (j_up mc 109 7 0) (by omega) hM (by rw [up_ne (by omega), hmc _ _ (by omega), hnn]) (up_eq rfl) (Nat.zero_le N) (fun i hi => by rw [up_ne (by omega), hmc _ _ (by omega)])
    exact ⟨m', (E175 (d := 8)).trans (T175_0.trans t1), kpt_tr (kpt_up (Or.inl ⟨rfl, rfl⟩)) t2, t3, t4⟩
  obtain ⟨r1, r2⟩ := alF_p (t := m 94) (N := N) (n := nn) (by omega) 4 0 0 (m 114) (by omega) (Nat.zero_le N) (fun q hq => absurd hq (Nat.not_lt_zero q))
  have o1 := o.1
  have cls : c_call 10 95 [jR 2] (hH L m) = j_fin (c_call 9) 95 17 [some (jR 2), none] [jI (if (alF (m 94) N nn 4 0 0 (m 114)).1 = true then -1 else (((alF (m 94) N nn 4 0 0 (m 114)).2.1 : Nat) : Int))] (hH L m1) := by
    refine (E95 (d := 9)).trans ?_
    rw [T95_0, n.2.2.2.2.1, hnn, show c_call 9 65 _ (hH L m) = _ from a1]
    simp only [Option.bind_some, Option.toList_some, List.cons_append, List.nil_append]
  have f110 : m2 110 = m 110 := funext (fun z => q2 _ _ (by omega))
  generalize alF (m 94) N nn 4 0 0 (m 114) = R at a1 a3 mod r1 r2 cls
  by_cases e1 : R.1 = true
  · obtain ⟨b1, b2, b3⟩ := r2 e1
    obtain ⟨c1, c2⟩ := a3 e1
    have d1 : m2 93 1 = ((R.2.2.1 : Nat) : Int) := by rw [hm2, up_nj (by omega)]; exact c1
    have d4 : m2 4 1 = m 110 1 := (q2 _ _ (by omega)).trans n.2.2.2.2.2
    have w8 : w32 (m2 4 1 + m2 93 1) = m 110 1 + ((R.2.2.1 : Nat) : Int) := by rw [d1, d4, w32_id (by omega) (by omega)]
    rw [if_pos e1, T95_17, if_pos (by decide), ← hm2, w8] at cls
    by_cases e2 : 8 < m 110 1 + ((R.2.2.1 : Nat) : Int)
    · rw [if_pos e2] at cls
      obtain ⟨m3, s1, s2, s3, s4⟩ := mod m2 (fun b z h => q2 b z (by omega))
      have k3 : kpt (fun b z => uPd b z ∨ b = 93 ∧ z = 0 ∨ b = 109 ∧ z = 6) m (j_up m3 109 6 0) := kpt_tr k2 (kpt_tr (kpt_w s2 (fun b z h => by unfold WT at h; unfold uPd sc; omega)) (kpt_up (Or.inr (Or.inr ⟨rfl, rfl⟩))))
      have h110 : (j_up m3 109 6 0) 110 = m 110 := by
        rw [e110_up (by decide), ← f110]
        exact funext (fun z => kpt_at s2 (by unfold WT; omega))
      refine ⟨jI (-4), m2, j_up m3 109 6 0, cls, (E176 (d := 9)).trans ?_, Rel_tx w k3 (by rw [h110]; exact w.2.1) (by rw [h110]; exact w.2.2.1) ?_ (Or.inr ⟨?_, ?_, by rw [h110]⟩) ?_ (up_eq rfl)⟩
      · rw [T176_0, s1]
        simp only [Option.bind_some, Option.toList_some, List.cons_append, List.nil_append]
        rw [if_pos e1, T176_4, if_neg (by omega), h110, w32_id (by omega) (by omega), if_pos e2]
      · rw [h110]
        exact stR_k w.2.2.2.1 (fun b z h h' => by rw [up_ne (by omega), kpt_at s2 (by unfold WT; omega)]; exact q2 _ _ (by omega))
      · rw [up_ne (by omega), kpt_at s2 (by unfold WT; omega)]; exact q2 _ _ (by omega)
      · rw [up_ne (by omega), kpt_at s2 (by unfold WT; omega)]; exact q2 _ _ (by omega)
      · rw [up_ne (by omega), kpt_at s2 (by unfold WT; omega), hm2, up_eq rfl]
    · rw [if_neg e2] at cls
      have pk2 : pkR 4 (rdG (m 110) R.2.2.2 0) m2 := pkR_k w.2.2.2.1.1 (fun b z h h' => q2 _ _ (by omega))
      have cc2 : cC R.2.2.1 R.2.2.2 m2 := fun q hq => by
        obtain ⟨y1, y2, y3⟩ := c2 q hq
        have a : ∀ b z : Nat, b ≠ 93 → m2 b z = m1 b z := fun b z hb => by rw [hm2, up_ne hb]
        exact ⟨(a _ _ (by omega)).trans y1, (a _ _ (by omega)).trans y2, fun p hp => (a _ _ (by omega)).trans (y3 p hp)⟩
      obtain ⟨m3, u1, u2, u3⟩ := L66 (d := 6) (L := L) (g := m 110) (S := R.2.2.2) (cc := R.2.2.1) w.2.1 (by omega) b2 b3 R.2.2.1 0 (by omega) m2 none pk2 d1 cc2
      have q66 : c_call 9 66 [jR 93, jR 4] (hH L m2) = _ := (E66 (d := 8)).trans (T66_0.trans u1)
      rw [q66] at cls
      simp only [Option.bind_some, Option.toList_some, List.cons_append, List.nil_append, Option.toList_none] at cls
      obtain ⟨m4, hm4⟩ : ∃ m4, m4 = j_up m3 2 11 0 := ⟨_, rfl⟩
      have q4 : ∀ b z : Nat, ¬ (b = 2 ∨ 4 ≤ b ∧ b ≤ 8 ∨ b = 93 ∨ b = 95 ∨ b = 96 ∨ b = 97) → m4 b z = m b z := fun b z h => by
        rw [hm4, up_ne (by omega), kpt_at u2 (by omega)]
        exact q2 _ _ (by omega)
      have e931 : m4 93 1 = ((R.2.2.1 : Nat) : Int) := by rw [hm4, up_ne (by omega), kpt_at u2 (by omega)]; exact d1
      rw [T95_75, ← hm4, e931] at cls
      obtain ⟨m5, s1, s2, s3, s4⟩ := mod m4 (fun b z h => q4 b z (by omega))
      obtain ⟨m6, hm6⟩ : ∃ m6, m6 = j_up m5 109 6 0 := ⟨_, rfl⟩
      have h110 : m6 110 = m 110 := by
        rw [hm6, e110_up (by decide)]
        exact funext (fun z => (kpt_at s2 (by unfold WT; omega)).trans (q4 _ _ (by omega)))
      obtain ⟨m7, v1, v2, v3, v4⟩ := L176 (d := 8) (L := L) (g := m 110) (S := R.2.2.2) (cc := R.2.2.1) w.2.1 (by omega) b2 b3 R.2.2.1 0 (by omega) m6 none h110 (fun i hi => by rw [hm6, up_ne (by omega)]; exact s4 e1 i hi) (fun h => absurd h (Nat.lt_irrefl 0))
      have v1' : j_fin (c_call 9) 176 40 [some (jR 109), some (jI ((R.2.2.1 : Nat) : Int)), some (jI 0), none] [] (hH L m6) = _ := v1
      have k4 : kpt (fun b z => uPd b z ∨ b = 93 ∧ z = 0 ∨ b = 109 ∧ z = 6) m m4 := by
        rw [hm4]
        exact kpt_tr k2 (kpt_tr (kpt_w u2 (fun b z h => by unfold uPd; omega)) (kpt_up (by unfold uPd; omega)))
      have k6 : kpt (fun b z => uPd b z ∨ b = 93 ∧ z = 0 ∨ b = 109 ∧ z = 6) m m7 := kpt_tr k4 (kpt_tr (kpt_w s2 (fun b z h => by unfold WT at h; unfold uPd sc; omega)) (kpt_tr (by rw [hm6]; exact kpt_up (Or.inr (Or.inr ⟨rfl, rfl⟩))) (kpt_w v2 (fun b z h => by unfold uPd; omega))))
      have kg : ∀ z : Nat, ¬ (z = 1 ∨ 12 ≤ z ∧ z < 68) → rdG (m 110) R.2.2.2 R.2.2.1 z = m 110 z := fun z h => rdG_ne n.2.2.1 h R.2.2.1 (by omega)
      have f5 : ∀ b z : Nat, b ≠ 109 → b ≠ 114 → b ≠ 110 → b ≠ 115 → m7 b z = m4 b z := fun b z h h' h2 h3 => by
        rw [kpt_at v2 (by omega), hm6, up_ne h, kpt_at s2 (by unfold WT; omega)]
      refine ⟨jI ((R.2.2.1 : Nat) : Int), m4, m7, cls, (E176 (d := 9)).trans ?_, Rel_tx w k6 (by rw [v3]; exact rdG_R w.2.1 _ (by omega) b3) (by rw [v3]; exact gX_k w.2.1 w.2.2.1 kg) ?_ (Or.inl ⟨?_, v4 (by omega)⟩) ?_ ?_⟩
      · rw [T176_0, s1]
        simp only [Option.bind_some, Option.toList_some, List.cons_append, List.nil_append]
        rw [if_pos e1, T176_4, if_neg (by omega), ← hm6, h110, w32_id (by omega) (by omega), if_neg e2, v1']
      · rw [v3]
        refine stR_pk w.2.1 w.2.2.1 w.2.2.2.1 kg (pkR_k u3 (fun b z h h' => ?_)) (fun b z h => ?_)
        · rw [f5 _ _ (by omega) (by omega) (by omega) (by omega), hm4, up_ne (by omega)]
        · rw [f5 _ _ (by omega) (by omega) (by omega) (by omega)]
          exact q4 _ _ (by omega)
      · rw [f5 _ _ (by omega) (by omega) (by omega) (by omega), hm4, up_eq rfl]
      · rw [f5 _ _ (by omega) (by omega) (by omega) (by omega), hm4, up_ne (by omega), kpt_at u2 (by omega), hm2, up_eq rfl]
      · rw [kpt_at v2 (by omega), hm6, up_eq rfl]
  · rw [if_neg e1, T95_17, if_neg (by omega), ← hm2] at cls
    obtain ⟨m3, s1, s2, s3, s4⟩ := mod m2 (fun b z h => q2 b z (by omega))
    have k3 : kpt (fun b z => uPd b z ∨ b = 93 ∧ z = 0 ∨ b = 109 ∧ z = 6) m (j_up m3 109 6 0) := kpt_tr k2 (kpt_tr (kpt_w s2 (fun b z h => by unfold WT at h; unfold uPd sc; omega)) (kpt_up (Or.inr (Or.inr ⟨rfl, rfl⟩))))
    have h110 : (j_up m3 109 6 0) 110 = m 110 := by
      rw [e110_up (by decide), ← f110]
      exact funext (fun z => kpt_at s2 (by unfold WT; omega))
    refine ⟨_, m2, j_up m3 109 6 0, cls, (E176 (d := 9)).trans ?_, Rel_tx w k3 (by rw [h110]; exact w.2.1) (by rw [h110]; exact w.2.2.1) ?_ (Or.inr ⟨?_, ?_, by rw [h110]⟩) ?_ (up_eq rfl)⟩
    · rw [T176_0, s1]
      simp only [Option.bind_some, Option.toList_some, List.cons_append, List.nil_append]
      rw [if_neg e1, T176_4, if_pos (by decide), up_nj (by omega), s3]
    · rw [h110]
      exact stR_k w.2.2.2.1 (fun b z h h' => by rw [up_ne (by omega), kpt_at s2 (by unfold WT; omega)]; exact q2 _ _ (by omega))
    · rw [up_ne (by omega), kpt_at s2 (by unfold WT; omega)]; exact q2 _ _ (by omega)
    · rw [up_ne (by omega), kpt_at s2 (by unfold WT; omega)]; exact q2 _ _ (by omega)
    · rw [up_ne (by omega), kpt_at s2 (by unfold WT; omega), hm2, up_eq rfl]
