/-! drawn. -/
/-! drawn -/
def stF (s : Int) : Int := w32 (w32 (s * 1103515245) + 12345)
def stS (s : Int) : Nat → Int
  | 0 => s
  | k + 1 => stF (stS s k)
def drV (s k : Int) : Int := Int.tmod (j_ushr s 9) k
theorem ushr_r (x : Int) : 0 ≤ j_ushr x 9 := by
  unfold j_ushr
  rw [show (Int32.ofInt 9).toUInt32 &&& Int32.toUInt32 31 = 9 from by decide]
  generalize (Int32.ofInt x).toUInt32 = u
  have h : (u >>> 9).toNat < 2147483648 := by
    rw [UInt32.toNat_shiftRight, show ((9 : UInt32).toNat % 32) = 9 from rfl, Nat.shiftRight_eq_div_pow]
    have := u.toNat_lt
    omega
  show 0 ≤ (u >>> 9).toBitVec.toInt
  rw [BitVec.toInt_eq_toNat_of_lt (by
    show 2 * (u >>> 9).toNat < 2 ^ 32
    omega)]
  exact Int.natCast_nonneg _
theorem drV_r (s : Int) {k : Int} (hk : 0 < k) : 0 ≤ drV s k ∧ drV s k < k := by
  have h := ushr_r s
  unfold drV
  rw [Int.tmod_eq_emod_of_nonneg h]
  exact ⟨Int.emod_nonneg _ (by omega), Int.emod_lt_of_pos _ hk⟩
/-- the first p factors of rule r drawn -/
def drS (r : Nat) (s : Int) (g : Nat → Int) : Nat → Nat → Int
  | 0 => g
  | p + 1 => gU (drS r s g p) (14 + 7 * r + p) (drV (stS s (p + 1)) 10)
theorem drS_at {r : Nat} {s : Int} {g : Nat → Int} {q : Nat} : ∀ p : Nat, q < p → drS r s g p (14 + 7 * r + q) = drV (stS s (q + 1)) 10 := by
  intro p
  induction p with
  | zero => intro h; exact absurd h (Nat.not_lt_zero q)
  | succ p ih =>
    intro h
    unfold drS
    by_cases e : q = p
    · subst e; rw [gU_eq rfl]
    · rw [gU_ne (by omega)]; exact ih (by omega)
theorem drS_ne {r : Nat} {s : Int} {g : Nat → Int} {z : Nat} : ∀ p : Nat, ¬ (14 + 7 * r ≤ z ∧ z < 14 + 7 * r + p) → drS r s g p z = g z := by
  intro p
  induction p with
  | zero => intro _; rfl
  | succ p ih =>
    intro h
    unfold drS
    rw [gU_ne (by omega)]
    exact ih (by omega)
def sdR (x : Int) (n : Nat) : Nat → Int
  | 0 => x
  | r + 1 => stS (sdR x n r) (n + 1)
/-- the first r rules drawn -/
def drR (x : Int) (n : Nat) (g : Nat → Int) : Nat → Nat → Int
  | 0 => g
  | r + 1 => gU (drS r (sdR x n r) (gU (drR x n g r) (12 + 7 * r) 0) n) (13 + 7 * r) (drV (stS (sdR x n r) (n + 1)) 60)
theorem drR_ne {x : Int} {n : Nat} {g : Nat → Int} (hn : n ≤ 5) {z : Nat} : ∀ r : Nat, ¬ (12 ≤ z ∧ z < 12 + 7 * r) → drR x n g r z = g z := by
  intro r
  induction r with
  | zero => intro _; rfl
  | succ r ih =>
    intro h
    unfold drR
    rw [gU_ne (by omega), drS_ne n (by omega), gU_ne (by omega)]
    exact ih (by omega)
theorem drS_R {r : Nat} {s : Int} {g : Nat → Int} (h : gR g) (hr : r < 8) : ∀ p : Nat, p ≤ 5 → gR (drS r s g p) := by
  intro p
  induction p with
  | zero => intro _; exact h
  | succ p ih =>
    intro hp
    have v := drV_r (stS s (p + 1)) (k := 10) (by decide)
    exact gR_fac (ih (by omega)) hr (by omega) (by omega)
theorem drR_R {x : Int} {n : Nat} {g : Nat → Int} (h : gR g) (hn : n ≤ 5) : ∀ r : Nat, r ≤ 8 → gR (drR x n g r) := by
  intro r
  induction r with
  | zero => intro _; exact h
  | succ r ih =>
    intro hr
    have v := drV_r (stS (sdR x n r) (n + 1)) (k := 60) (by decide)
    exact gR_bound (drS_R (gR_sort (ih (by omega)) (by omega) (Or.inl rfl)) (by omega) n hn) (by omega) (by omega)
/-- packs told by another row that says the same -/
theorem pkR_w {a : Nat} {g g' : Nat → Int} {m : j_M0} (w : pkR a g m) (k0 : g' 0 = g 0) (k1 : g' 1 = g 1) (kc : ∀ p : Nat, p < 5 → g' (7 + p) = g (7 + p)) (ks : ∀ r : Nat, (r : Int) < g 1 → g' (12 + 7 * r) = g (12 + 7 * r) ∧ g' (13 + 7 * r) = g (13 + 7 * r)) (kf : ∀ r p : Nat, (r : Int) < g 1 → (p : Int) < g 0 → g' (14 + 7 * r + p) = g (14 + 7 * r + p)) : pkR a g' m := by
  obtain ⟨w1, w2, w3, w4, w5, w6⟩ := w
  refine ⟨w1, w2.trans k0.symm, w3.trans k1.symm, fun p hp => (w4 p hp).trans (kc p hp).symm, fun r hr => ?_, fun r p hr hp => ?_⟩
  · rw [k1] at hr
    rw [(ks r hr).1, (ks r hr).2]
    exact w5 r hr
  · rw [k1] at hr
    rw [k0] at hp
    rw [kf r p hr hp]
    exact w6 r p hr hp
theorem L18p {d L : Nat} {x M s : Int} {n r : Nat} {A : Nat → Int} (hn : A 0 = n) (h5 : n ≤ 5) (hr : (r : Int) < A 1) (hr8 : r < 8) : ∀ j p : Nat, p + j = n → ∀ m : j_M0, pkR 35 (drS r s A p) m → ∃ m', j_fin (c_call (d + 1)) 18 25 [some (jR 35), some (jI x), some (jI M), some (jI (stS s p)), some (jI r), some (jI p)] [] (hH L m) = j_fin (c_call (d + 1)) 18 10 [some (jR 35), some (jI x), some (jI M), some (jI (stS s (n + 1))), some (jI ((r + 1 : Nat) : Int)), some (jI n)] [] (hH L m') ∧ kpt (fun c _ => 35 ≤ c ∧ c ≤ 39) m m' ∧ pkR 35 (gU (drS r s A n) (13 + 7 * r) (drV (stS s (n + 1)) 60)) m' := by
  intro j
  induction j with
  | zero =>
    intro p hp m w
    have ep : p = n := by omega
    subst ep
    have k0 : m 35 0 = drS r s A p 0 := w.2.1
    rw [drS_ne p (by omega)] at k0
    have v := drV_r (stS s (p + 1)) (k := 60) (by decide)
    rw [T18_25, if_neg (by omega), E19, T19_0]
    simp only [Option.bind_some, Option.toList_some, List.cons_append, List.nil_append]
    rw [T18_64, if_pos (by omega), Int.toNat_natCast, nat1 (by omega)]
    exact ⟨_, rfl, kpt_up (by omega), pkR_bound (a := 35) w (by rw [drS_ne p (by omega)]; exact hr) (by
      show -99 ≤ drV (stS s (p + 1)) 60 ∧ drV (stS s (p + 1)) 60 ≤ 999
      omega)⟩
  | succ j ih =>
    intro p hp m w
    have k0 : m 35 0 = drS r s A p 0 := w.2.1
    rw [drS_ne p (by omega)] at k0
    have v := drV_r (stS s (p + 1)) (k := 10) (by decide)
    rw [T18_25, if_pos (by omega), E19, T19_0]
    simp only [Option.bind_some, Option.toList_some, List.cons_append, List.nil_append]
    rw [T18_38, Q12_35 (by omega) (by omega) (by omega) (by omega), Int.toNat_natCast, Int.toNat_natCast]
    simp only [Option.bind_some, Option.toList_some, List.cons_append, List.nil_append, Option.toList_none]
    rw [T18_54, nat1 (by omega)]
    obtain ⟨m', t1, t2, t3⟩ := ih (p + 1) (by omega) (j_up m 39 (5 * r + p) (drV (stS s (p + 1)) 10)) (pkR_fac (a := 35) w (by rw [drS_ne p (by omega)]; exact hr) (by omega) (by omega))
    exact ⟨m', t1, kpt_tr (kpt_up (by omega)) t2, t3⟩
theorem L18 {d L : Nat} {x : Int} {n M : Nat} {g : Nat → Int} (hg : gR g) (hn : g 0 = n) (h5 : n ≤ 5) (hM : M ≤ 4) : ∀ j r : Nat, r + j = M → ∀ (m : j_M0) (o5 : Option j_V), pkR 35 (gU (drR x n g r) 1 (r : Int)) m → ∃ m', j_fin (c_call (d + 2)) 18 10 [some (jR 35), some (jI x), some (jI M), some (jI (sdR x n r)), some (jI r), o5] [] (hH L m) = some (none, hH L m') ∧ kpt (fun c _ => 35 ≤ c ∧ c ≤ 39) m m' ∧ pkR 35 (gU (drR x n g M) 1 (M : Int)) m' := by
  intro j
  induction j with
  | zero =>
    intro r hr m o5 w
    rw [T18_10, if_neg (by omega), ← show r = M by omega]
    exact ⟨m, rfl, kpt_rfl, w⟩
  | succ j ih =>
    intro r hr m o5 w
    have hR := drR_R (x := x) hg h5 r (by omega)
    have hG : gR (gU (drR x n g r) 1 (r : Int)) := gR_many hR (by omega)
    have e1 : gU (drR x n g r) 1 (r : Int) 1 = r := gU_eq rfl
    have e0 : gU (drR x n g r) 1 (r : Int) 0 = n := by rw [gU_ne (by omega), drR_ne h5 r (by omega), hn]
    obtain ⟨m1, t1, t2, t3⟩ := Q10_35 (d := d) (L := L) hG w (s := 0) (b := 0) (by rw [e1]; omega) (Or.inl rfl) (by omega)
    obtain ⟨A, hA⟩ : ∃ A, A = addG (gU (drR x n g r) 1 (r : Int)) 0 0 := ⟨_, rfl⟩
    have A1 : A 1 = ((r + 1 : Nat) : Int) := by rw [hA, addG_1, e1]; rfl
    have A0 : A 0 = n := by rw [hA, addG_ne (by omega) (by omega), e0]
    rw [← hA] at t3
    obtain ⟨m2, s1, s2, s3⟩ := L18p (d := d + 1) (L := L) (x := x) (M := M) (s := sdR x n r) (n := n) (r := r) (A := A) A0 h5 (by omega) (by omega) n 0 (by omega) m1 t3
    have er : (gU (drR x n g r) 1 (r : Int) 1).toNat = r := by rw [e1]; exact Int.toNat_natCast r
    have w2 : pkR 35 (gU (drR x n g (r + 1)) 1 ((r + 1 : Nat) : Int)) m2 := by
      refine pkR_w s3 ?_ ?_ (fun p hp => ?_) (fun q hq => ?_) (fun q p hq hp => ?_)
      · rw [gU_ne (by omega), drR_ne h5 (r + 1) (by omega), gU_ne (by omega), drS_ne n (by omega), A0, hn]
      · rw [gU_eq rfl, gU_ne (by omega), drS_ne n (by omega), A1]
      · rw [gU_ne (by omega), drR_ne h5 (r + 1) (by omega), gU_ne (by omega), drS_ne n (by omega), hA, addG_ne (by omega) (by omega), gU_ne (by omega), drR_ne h5 r (by omega)]
      · rw [gU_ne (by omega), drS_ne n (by omega), A1] at hq
        rw [gU_ne (show 12 + 7 * q ≠ 1 by omega), gU_ne (show 13 + 7 * q ≠ 1 by omega)]
        unfold drR
        by_cases e : q = r
        · subst e
          refine ⟨?_, by rw [gU_eq rfl, gU_eq rfl]⟩
          rw [gU_ne (by omega), drS_ne n (by omega), gU_eq rfl, gU_ne (by omega), drS_ne n (by omega), hA, addG_s (by omega)]
        · refine ⟨?_, ?_⟩
          · rw [gU_ne (by omega), drS_ne n (by omega), gU_ne (by omega), gU_ne (by omega), drS_ne n (by omega), hA, addG_ne (by omega) (by omega), gU_ne (by omega)]
          · rw [gU_ne (by omega), drS_ne n (by omega), gU_ne (by omega), gU_ne (by omega), drS_ne n (by omega), hA, addG_ne (by omega) (by omega), gU_ne (by omega)]
      · rw [gU_ne (by omega), drS_ne n (by omega), A1] at hq
        rw [gU_ne (by omega), drS_ne n (by omega), A0] at hp
        rw [gU_ne (show 14 + 7 * q + p ≠ 1 by omega)]
        unfold drR
        by_cases e : q = r
        · subst e
          rw [gU_ne (by omega), drS_at n (by omega), gU_ne (by omega), drS_at n (by omega)]
        · rw [gU_ne (by omega), drS_ne n (by omega), gU_ne (by omega), gU_ne (by omega), drS_ne n (by omega), hA, addG_ne (by omega) (by omega), gU_ne (by omega)]
    obtain ⟨m3, u1, u2, u3⟩ := ih (r + 1) (by omega) m2 (some (jI n)) w2
    have s1' : j_fin (c_call (d + 2)) 18 25 [some (jR 35), some (jI x), some (jI M), some (jI (sdR x n r)), some (jI r), some (jI 0)] [] (hH L m1) = _ := s1
    refine ⟨m3, ?_, kpt_tr (kpt_w t2 (fun c z h => by omega)) (kpt_tr s2 u2), u3⟩
    rw [T18_10, if_pos (by omega), t1]
    simp only [Option.bind_some, Option.toList_some, List.cons_append, List.nil_append, Option.toList_none]
    rw [T18_22, s1']
    exact u1
theorem Q239 {d L : Nat} {m : j_M0} {k : Int} (hk : 0 < k) : c_call (d + 1) 239 [jR 109, jI k] (hH L m) = some (some (jI (drV (stF (m 109 24)) k)), hH L (j_up m 109 24 (stF (m 109 24)))) := by
  rw [E239, T239_0, if_neg (by omega), up_eq rfl]
  rfl
theorem L240p {d L : Nat} {x M s : Int} {n r : Nat} {G : Nat → Int} (hn : G 0 = n) (h5 : n ≤ 5) (hr8 : r < 8) : ∀ j p : Nat, p + j = n → ∀ m : j_M0, m 110 = drS r s G p → m 109 24 = stS s p → ∃ m', j_fin (c_call (d + 1)) 240 54 [some (jR 109), some (jI x), some (jI M), some (jI r), some (jI p)] [] (hH L m) = j_fin (c_call (d + 1)) 240 33 [some (jR 109), some (jI x), some (jI M), some (jI ((r + 1 : Nat) : Int)), some (jI n)] [] (hH L m') ∧ kpt (fun c z => c = 110 ∨ c = 109 ∧ z = 24) m m' ∧ m' 110 = gU (drS r s G n) (13 + 7 * r) (drV (stS s (n + 1)) 60) ∧ m' 109 24 = stS s (n + 1) := by
  have i0 : w32 (12 + w32 (7 * (r : Int))) = 12 + 7 * (r : Int) := by rw [w32_id (x := 7 * (r : Int)) (by omega) (by omega), w32_id (by omega) (by omega)]
  intro j
  induction j with
  | zero =>
    intro p hp m w w2
    have ep : p = n := by omega
    subst ep
    have i1 : w32 (12 + 7 * (r : Int) + 1) = 13 + 7 * (r : Int) := by rw [w32_id (by omega) (by omega)]; omega
    have k0 : m 110 0 = p := by rw [w, drS_ne p (by omega), hn]
    rw [T240_54, Q151]
    simp only [Option.bind_some, Option.toList_some, List.cons_append, List.nil_append]
    rw [T240_60, if_neg (by omega), Q239 (by decide), w2]
    simp only [Option.bind_some, Option.toList_some, List.cons_append, List.nil_append]
    rw [T240_111, i0, i1, if_pos (by omega), show (13 + 7 * (r : Int)).toNat = 13 + 7 * r by omega, nat1 (by omega)]
    refine ⟨_, rfl, kpt_tr (kpt_up (by omega)) (kpt_up (by omega)), ?_, ?_⟩
    · rw [up_g, e110_up (by decide), w]
      rfl
    · rw [up_ne (by omega), up_eq rfl]
      rfl
  | succ j ih =>
    intro p hp m w w2
    have i1 : w32 (w32 (12 + 7 * (r : Int) + 2) + (p : Int)) = 14 + 7 * (r : Int) + (p : Int) := by rw [w32_id (x := 12 + 7 * (r : Int) + 2) (by omega) (by omega), w32_id (by omega) (by omega)]; omega
    have k0 : m 110 0 = n := by rw [w, drS_ne p (by omega), hn]
    rw [T240_54, Q151]
    simp only [Option.bind_some, Option.toList_some, List.cons_append, List.nil_append]
    rw [T240_60, if_pos (by omega), Q239 (by decide), w2]
    simp only [Option.bind_some, Option.toList_some, List.cons_append, List.nil_append]
    rw [T240_85, i0, i1, if_pos (by omega), show (14 + 7 * (r : Int) + (p : Int)).toNat = 14 + 7 * r + p by omega, nat1 (by omega)]
    obtain ⟨m', t1, t2, t3⟩ := ih (p + 1) (by omega) (j_up (j_up m 109 24 (stF (stS s p))) 110 (14 + 7 * r + p) (drV (stF (stS s p)) 10)) (by
      rw [up_g, e110_up (by decide), w]
      rfl) (by
      rw [up_ne (by omega), up_eq rfl]
      rfl)
    exact ⟨m', t1, kpt_tr (kpt_tr (kpt_up (by omega)) (kpt_up (by omega))) t2, t3⟩
theorem L240 {d L : Nat} {x : Int} {n M : Nat} {g : Nat → Int} (hn : g 0 = n) (h5 : n ≤ 5) (hM : M ≤ 4) : ∀ j r : Nat, r + j = M → ∀ (m : j_M0) (o4 : Option j_V), m 110 = drR x n g r → m 109 24 = sdR x n r → ∃ m' o4', j_fin (c_call (d + 1)) 240 33 [some (jR 109), some (jI x), some (jI M), some (jI r), o4] [] (hH L m) = ((c_call (d + 1) 192 [jR 109] (hH L m')).bind fun z => j_fin (c_call (d + 1)) 240 122 [some (jR 109), some (jI x), some (jI M), some (jI M), o4'] (z.1.toList ++ []) z.2) ∧ kpt (fun c z => c = 110 ∨ c = 109 ∧ z = 24) m m' ∧ m' 110 = drR x n g M := by
  intro j
  induction j with
  | zero =>
    intro r hr m o4 w w2
    have e : r = M := by omega
    subst e
    rw [T240_33, if_neg (by omega)]
    exact ⟨m, o4, rfl, kpt_rfl, w⟩
  | succ j ih =>
    intro r hr m o4 w w2
    have i0 : w32 (12 + w32 (7 * (r : Int))) = 12 + 7 * (r : Int) := by rw [w32_id (x := 7 * (r : Int)) (by omega) (by omega), w32_id (by omega) (by omega)]
    obtain ⟨m1, t1, t2, t3, t4⟩ := L240p (d := d) (L := L) (x := x) (M := M) (s := sdR x n r) (n := n) (r := r) (G := gU (drR x n g r) (12 + 7 * r) 0) (by rw [gU_ne (by omega), drR_ne h5 r (by omega), hn]) h5 (by omega) n 0 (by omega) (j_up m 110 (12 + 7 * r) 0) (by rw [up_g, w]; rfl) (by rw [up_ne (by omega), w2]; rfl)
    obtain ⟨m2, o4', s1, s2, s3⟩ := ih (r + 1) (by omega) m1 (some (jI n)) t3 t4
    have t1' : j_fin (c_call (d + 1)) 240 54 [some (jR 109), some (jI x), some (jI M), some (jI r), some (jI 0)] [] (hH L (j_up m 110 (12 + 7 * r) 0)) = _ := t1
    refine ⟨m2, o4', ?_, kpt_tr (kpt_up (by omega)) (kpt_tr t2 s2), s3⟩
    rw [T240_33, if_pos (by omega), i0, if_pos (by omega), show (12 + 7 * (r : Int)).toNat = 12 + 7 * r by omega, t1']
    exact s1
theorem PA120 {L : Nat} {xs : Nat → Int32} {m : j_M0} (w : Rel xs m) (x v : Int) : PA L xs 120 240 [jI x, jI v] m := by
  have n := Rel_n w
  by_cases g1 : 1 ≤ v ∧ v ≤ 4
  · obtain ⟨M, rfl⟩ : ∃ r : Nat, v = r := ⟨_, (Int.toNat_of_nonneg (by omega)).symm⟩
    obtain ⟨N, hN⟩ : ∃ N : Nat, m 110 0 = N := ⟨_, (Int.toNat_of_nonneg (by omega)).symm⟩
    have hg : gR (gU (m 110) 1 (M : Int)) := gR_many w.2.1 (by omega)
    have hg0 : gU (m 110) 1 (M : Int) 0 = N := by rw [gU_ne (by omega)]; exact hN
    have hR := drR_R (x := x) (n := N) hg (by omega) M (by omega)
    have wr : worF (pkG (gU (drR x N (gU (m 110) 1 (M : Int)) M) 1 (M : Int))) = worF (pkG (drR x N (gU (m 110) 1 (M : Int)) M)) := by
      have e : drR x N (gU (m 110) 1 (M : Int)) M 1 = (M : Int) := by rw [drR_ne (by omega) M (by omega), gU_eq rfl]
      rw [show gU (drR x N (gU (m 110) 1 (M : Int)) M) 1 (M : Int) = drR x N (gU (m 110) 1 (M : Int)) M from funext (fun z => by
        unfold gU
        by_cases c : z = 1
        · rw [if_pos c, c]; exact e.symm
        · rw [if_neg c])]
    obtain ⟨m1, p1, p2, p3⟩ := Q8_35 (d := 8) (L := L) w.2.2.2.1.1
    have pk0 : pkR 35 (gU (drR x N (gU (m 110) 1 (M : Int)) 0) 1 ((0 : Nat) : Int)) (j_up m1 35 1 0) := by
      have a := pkR_many (a := 35) p3 (v := 0) (by omega)
      refine pkR_w a ?_ ?_ (fun p hp => ?_) (fun q hq => ?_) (fun q p hq hp => ?_)
      · show gU (gU (m 110) 1 (M : Int)) 1 ((0 : Nat) : Int) 0 = _
        rw [gU_ne (by omega), gU_ne (by omega), gU_ne (by omega)]
      · show gU (gU (m 110) 1 (M : Int)) 1 ((0 : Nat) : Int) 1 = _
        rw [gU_eq rfl, gU_eq rfl]
        rfl
      · show gU (gU (m 110) 1 (M : Int)) 1 ((0 : Nat) : Int) (7 + p) = _
        rw [gU_ne (by omega), gU_ne (by omega), gU_ne (by omega)]
      · rw [gU_eq rfl] at hq
        omega
      · rw [gU_eq rfl] at hq
        omega
    obtain ⟨m2, s1, s2, s3⟩ := L18 (d := 6) (L := L) (x := x) (n := N) (M := M) hg hg0 (by omega) (by omega) M 0 (by omega) (j_up m1 35 1 0) none pk0
    have q18 : c_call 9 18 [jR 35, jI x, jI (M : Int)] (hH L m1) = some (none, hH L m2) := (E18 (d := 8)).trans (T18_0.trans s1)
    have hR2 : gR (gU (drR x N (gU (m 110) 1 (M : Int)) M) 1 (M : Int)) := gR_many hR (by omega)
    obtain ⟨m3, r1, r2⟩ := Q30b (d := 3) (L := L) hR2 s3
    rw [wr] at r1
    have k1 : kpt sc m m3 := kpt_tr (kpt_w p2 (fun c z h => by unfold sc; omega)) (kpt_tr (kpt_up (by unfold sc; omega)) (kpt_tr (kpt_w s2 (fun c z h => by unfold sc; omega)) (kpt_w r2 (fun c z h => by unfold sc; omega))))
    have w3 : Rel xs m3 := Rel_k w k1
    have e110 := kpt_110 k1
    obtain ⟨m4, u1, u2, u3⟩ := Q237 (d := 8) (L := L) (m := m3)
    have e4 : m4 110 = m 110 := by rw [← e110]; exact funext (fun z => kpt_at u2 (by omega))
    obtain ⟨m5, o4, v1, v2, v3⟩ := L240 (d := 8) (L := L) (x := x) (n := N) (M := M) (g := gU (m 110) 1 (M : Int)) hg0 (by omega) (by omega) M 0 (by omega) (j_up (j_up m4 109 24 x) 110 1 (M : Int)) none (by rw [up_g, e110_up (by decide), e4]; rfl) (by rw [up_ne (by omega), up_eq rfl]; rfl)
    have wG : vG (pkG (drR x N (gU (m 110) 1 (M : Int)) M)) m5 := by
      rw [← v3]
      exact vG_of (by rw [v3]; exact hR)
    obtain ⟨m6, x1, x2, -, -⟩ := Q192 (d := 2) (L := L) wG (pkG_ok hR)
    obtain ⟨m7, y1, y2, y3⟩ := Q238 (d := 8) (L := L) (g := m 110) (m := m6) (fun i hi => by
      rw [kpt_at x2 (by omega), kpt_at v2 (by omega), up_ne (by omega), up_ne (by omega), u3 i hi, e110]) (fun i hi => by
      rw [kpt_at x2 (by omega), v3, drR_ne (by omega) M (by omega), gU_ne (by omega)])
    refine ⟨jI (worF (pkG (drR x N (gU (m 110) 1 (M : Int)) M))), m3, m7, (E120 (d := 9)).trans ?_, (E240 (d := 9)).trans ?_, Rel_b110 w3 (fun b z h h' => ?_) (by rw [y3, e110])⟩
    · rw [T120_0, if_neg (by omega), if_neg (by omega), p1]
      simp only [Option.bind_some, Option.toList_some, List.cons_append, List.nil_append, Option.toList_none]
      rw [T120_27, q18]
      simp only [Option.bind_some, Option.toList_some, List.cons_append, List.nil_append, Option.toList_none]
      rw [T120_36, r1]
      simp only [Option.bind_some, Option.toList_some, List.cons_append, List.nil_append]
      rw [T120_47]
    · have v1' : j_fin (c_call 9) 240 33 [some (jR 109), some (jI x), some (jI (M : Int)), some (jI 0), none] [] (hH L (j_up (j_up m4 109 24 x) 110 1 (M : Int))) = _ := v1
      rw [T240_0, Q150]
      simp only [Option.bind_some, Option.toList_some, List.cons_append, List.nil_append]
      rw [bI_t g1, T240_9, if_neg (by decide), u1]
      simp only [Option.bind_some, Option.toList_some, List.cons_append, List.nil_append, Option.toList_none]
      rw [T240_19, v1', x1]
      simp only [Option.bind_some, Option.toList_some, List.cons_append, List.nil_append]
      rw [T240_122, y1]
      simp only [Option.bind_some, Option.toList_some, List.cons_append, List.nil_append, Option.toList_none]
      rw [T240_127]
    · unfold sc at h
      rw [kpt_at y2 (by omega), kpt_at x2 (by omega), kpt_at v2 (by omega), up_ne (by omega)]
      by_cases e : b = 109
      · rw [e, up_nj (by omega)]
        exact kpt_at u2 (by omega)
      · rw [up_ne e]
        exact kpt_at u2 (by omega)
  · refine PA_r w (v := jI (-2)) ((E120 (d := 9)).trans ?_) ((E240 (d := 9)).trans ?_)
    · rw [T120_0]
      by_cases a : v < 1
      · rw [if_pos a]
      · rw [if_neg a, if_pos (by omega)]
    · rw [T240_0, Q150]
      simp only [Option.bind_some, Option.toList_some, List.cons_append, List.nil_append]
      rw [bI_f g1, T240_9, if_pos rfl]
