/-! drawn. -/
/-! drawn -/
def stF (s : Int) : Int := w32 (w32 (s * 1103515245) + 12345)
def stS (s : Int) : Nat → Int
  | 0 => s
  | k + 1 => stF (stS s k)
def drV (s k : Int) : Int := Int.tmod (j_ushr s 9) k
theorem ushr_r (x : Int) : 0 ≤ j_ushr x 9 := by
  unfold j_ushr
  rw [show (Int32.ofInt 9).toUInt32 &&& Int32.toUInt32 31 = 9 from by decide]
  generalize (Int32.ofInt x).toUInt32 = u
  have h : (u >>> 9).toNat < 2147483648 := by
    rw [UInt32.toNat_shiftRight, show ((9 : UInt32).toNat % 32) = 9 from rfl, Nat.shiftRight_eq_div_pow]
    have := u.toNat_lt
    omega
  show 0 ≤ (u >>> 9).toBitVec.toInt
  rw [BitVec.toInt_eq_toNat_of_lt (by
    show 2 * (u >>> 9).toNat < 2 ^ 32
    omega)]
  exact Int.natCast_nonneg _
theorem drV_r (s : Int) {k : Int} (hk : 0 < k) : 0 ≤ drV s k ∧ drV s k < k := by
  have h := ushr_r s
  unfold drV
  rw [Int.tmod_eq_emod_of_nonneg h]
  exact ⟨Int.emod_nonneg _ (by omega), Int.emod_lt_of_pos _ hk⟩
/-- the first p factors of rule r drawn -/
def drS (r : Nat) (s : Int) (g : Nat → Int) : Nat → Nat → Int
  | 0 => g
  | p + 1 => gU (drS r s g p) (14 + 7 * r + p) (drV (stS s (p + 1)) 10)
theorem drS_at {r : Nat} {s : Int} {g : Nat → Int} {q : Nat} : ∀ p : Nat, q < p → drS r s g p (14 + 7 * r + q) = drV (stS s (q + 1)) 10 := by
  intro p
  induction p with
  | zero => intro h; exact absurd h (Nat.not_lt_zero q)
  | succ p ih =>
    intro h
    unfold drS
    by_cases e : q = p
    · subst e; rw [gU_eq rfl]
    · rw [gU_ne (by omega)]; exact ih (by omega)
theorem drS_ne {r : Nat} {s : Int} {g : Nat → Int} {z : Nat} : ∀ p : Nat, ¬ (14 + 7 * r ≤ z ∧ z < 14 + 7 * r + p) → drS r s g p z = g z := by
  intro p
  induction p with
  | zero => intro _; rfl
  | succ p ih =>
    intro h
    unfold drS
    rw [gU_ne (by omega)]
    exact ih (by omega)
def sdR (x : Int) (n : Nat) : Nat → Int
  | 0 => x
  | r + 1 => stS (sdR x n r) (n + 1)
/-- the first r rules drawn -/
def drR (x : Int) (n : Nat) (g : Nat → Int) : Nat → Nat → Int
  | 0 => g
  | r + 1 => gU (drS r (sdR x n r) (gU (drR x n g r) (12 + 7 * r) 0) n) (13 + 7 * r) (drV (stS (sdR x n r) (n + 1)) 60)
theorem drR_ne {x : Int} {n : Nat} {g : Nat → Int} (hn : n ≤ 5) {z : Nat} : ∀ r : Nat, ¬ (12 ≤ z ∧ z < 12 + 7 * r) → drR x n g r z = g z := by
  intro r
  induction r with
  | zero => intro _; rfl
  | succ r ih =>
    intro h
    unfold drR
    rw [gU_ne (by omega), drS_ne n (by omega), gU_ne (by omega)]
    exact ih (by omega)
theorem drS_R {r : Nat} {s : Int} {g : Nat → Int} (h : gR g) (hr : r < 8) : ∀ p : Nat, p ≤ 5 → gR (drS r s g p) := by
  intro p
  induction p with
  | zero => intro _; exact h
  | succ p ih =>
    intro hp
    have v := drV_r (stS s (p + 1)) (k := 10) (by decide)
    exact gR_fac (ih (by omega)) hr (by omega) (by omega)
theorem drR_R {x : Int} {n : Nat} {g : Nat → Int} (h : gR g) (hn : n ≤ 5) : ∀ r : Nat, r ≤ 8 → gR (drR x n g r) := by
  intro r
  induction r with
  | zero => intro _; exact h
  | succ r ih =>
    intro hr
    have v := drV_r (stS (sdR x n r) (n + 1)) (k := 60) (by decide)
    exact gR_bound (drS_R (gR_sort (ih (by omega)) (by omega) (Or.inl rfl)) (by omega) n hn) (by omega) (by omega)
/-- packs told by another row that says the same -/
theorem pkR_w {a : Nat} {g g' : Nat → Int} {m : j_M0} (w : pkR a g m) (k0 : g' 0 = g 0) (k1 : g' 1 = g 1) (kc : ∀ p : Nat, p < 5 → g' (7 + p) = g (7 + p)) (ks : ∀ r : Nat, (r : Int) < g 1 → g' (12 + 7 * r) = g (12 + 7 * r) ∧ g' (13 + 7 * r) = g (13 + 7 * r)) (kf : ∀ r p : Nat, (r : Int) < g 1 → (p : Int) < g 0 → g' (14 + 7 * r + p) = g (14 + 7 * r + p)) : pkR a g' m := by
  obtain ⟨w1, w2, w3, w4, w5, w6⟩ := w
  refine ⟨w1, w2.trans k0.symm, w3.trans k1.symm, fun p hp => (w4 p hp).trans (kc p hp).symm, fun r hr => ?_, fun r p hr hp => ?_⟩
  · rw [k1] at hr
    rw [(ks r hr).1, (ks r hr).2]
    exact w5 r hr
  · rw [k1] at hr
    rw [k0] at hp
    rw [kf r p hr hp]
    exact w6 r p hr hp
theorem L18p {d : Nat} {L : j_B} {x M s : Int} {n r : Nat} {A : Nat → Int} (hn : A 0 = n) (h5 : n ≤ 5) (hr : (r : Int) < A 1) (hr8 : r < 8) : ∀ j p : Nat, p + j = n → ∀ m : j_M0, pkR 35 (drS r s A p) m → ∃ m', j_fin (c_call (d + 1)) 18 25 [some (jR 35), some (jI x), some (jI M), some (jI (stS s p)), some (jI r), some (jI p)] [] (hH L m) = j_fin (c_call (d + 1)) 18 10 [some (jR 35), some (jI x), some (jI M), some (jI (stS s (n + 1))), some (jI ((r + 1 : Nat) : Int)), some (jI n)] [] (hH L m') ∧ kpt (fun c _ => 35 ≤ c ∧ c ≤ 39) m m' ∧ pkR 35 (gU (drS r s A n) (13 + 7 * r) (drV (stS s (n + 1)) 60)) m' := by
  intro j
  induction j with
  | zero =>
    intro p hp m w
    have ep : p = n := by omega
    subst ep
    have k0 : m 35 0 = drS r s A p 0 := w.2.1
    rw [drS_ne p (by omega)] at k0
    have v := drV_r (stS s (p + 1)) (k := 60) (by decide)
    rw [T18_25, if_neg (by omega), E19, T19_0]
    simp only [Option.bind_some, Option.toList_some, List.cons_append, List.nil_append]
    rw [T18_64, if_pos (by omega), Int.toNat_natCast, nat1 (by omega)]
    exact ⟨_, rfl, kpt_up (by omega), pkR_bound (a := 35) w (by rw [drS_ne p (by omega)]; exact hr) (by
      show -99 ≤ drV (stS s (p + 1)) 60 ∧ drV (stS s (p + 1)) 60 ≤ 999
      omega)⟩
  | succ j ih =>
    intro p hp m w
    have k0 : m 35 0 = drS r s A p 0 := w.2.1
    rw [drS_ne p (by omega)] at k0
    have v := drV_r (stS s (p + 1)) (k := 10) (by decide)
    rw [T18_25, if_pos (by omega), E19, T19_0]
    simp only [Option.bind_some, Option.toList_some, List.cons_append, List.nil_append]
    rw [T18_38, Q12_35 (by omega) (by omega) (by omega) (by omega), Int.toNat_natCast, Int.toNat_natCast]
    simp only [Option.bind_some, Option.toList_some, List.cons_append, List.nil_append, Option.toList_none]
    rw [T18_54, nat1 (by omega)]
    obtain ⟨m', t1, t2, t3⟩ := ih (p + 1) (by omega) (j_up m 39 (5 * r + p) (drV (stS s (p + 1)) 10)) (pkR_fac (a := 35) w (by rw [drS_ne p (by omega)]; exact hr) (by omega) (by omega))
    exact ⟨m', t1, kpt_tr (kpt_up (by omega)) t2, t3⟩
theorem L18 {d : Nat} {L : j_B} {x : Int} {n M : Nat} {g : Nat → Int} (hg : gR g) (hn : g 0 = n) (h5 : n ≤ 5) (hM : M ≤ 4) : ∀ j r : Nat, r + j = M → ∀ (m : j_M0) (o5 : Option j_V), pkR 35 (gU (drR x n g r) 1 (r : Int)) m → ∃ m', j_fin (c_call (d + 2)) 18 10 [some (jR 35), some (jI x), some (jI M), some (jI (sdR x n r)), some (jI r), o5] [] (hH L m) = some (none, hH L m') ∧ kpt (fun c _ => 35 ≤ c ∧ c ≤ 39) m m' ∧ pkR 35 (gU (drR x n g M) 1 (M : Int)) m' := by
  intro j
  induction j with
  | zero =>
    intro r hr m o5 w
    rw [T18_10, if_neg (by omega), ← show r = M by omega]
    exact ⟨m, rfl, kpt_rfl, w⟩
  | succ j ih =>
    intro r hr m o5 w
    have hR := drR_R (x := x) hg h5 r (by omega)
    have hG : gR (gU (drR x n g r) 1 (r : Int)) := gR_many hR (by omega)
    have e1 : gU (drR x n g r) 1 (r : Int) 1 = r := gU_eq rfl
    have e0 : gU (drR x n g r) 1 (r : Int) 0 = n := by rw [gU_ne (by omega), drR_ne h5 r (by omega), hn]
    obtain ⟨m1, t1, t2, t3⟩ := Q10_35 (d := d) (L := L) hG w (s := 0) (b := 0) (by rw [e1]; omega) (Or.inl rfl) (by omega)
    obtain ⟨A, hA⟩ : ∃ A, A = addG (gU (drR x n g r) 1 (r : Int)) 0 0 := ⟨_, rfl⟩
    have A1 : A 1 = ((r + 1 : Nat) : Int) := by rw [hA, addG_1, e1]; rfl
    have A0 : A 0 = n := by rw [hA, addG_ne (by omega) (by omega), e0]
    rw [← hA] at t3
    obtain ⟨m2, s1, s2, s3⟩ := L18p (d := d + 1) (L := L) (x := x) (M := M) (s := sdR x n r) (n := n) (r := r) (A := A) A0 h5 (by omega) (by omega) n 0 (by omega) m1 t3
    have er : (gU (drR x n g r) 1 (r : Int) 1).toNat = r := by rw [e1]; exact Int.toNat_natCast r
    have w2 : pkR 35 (gU (drR x n g (r + 1)) 1 ((r + 1 : Nat) : Int)) m2 := by
      refine pkR_w s3 ?_ ?_ (fun p hp => ?_) (fun q hq => ?_) (fun q p hq hp => ?_)
      · rw [gU_ne (by omega), drR_ne h5 (r + 1) (by omega), gU_ne (by omega), drS_ne n (by omega), A0, hn]
      · rw [gU_eq rfl, gU_ne (by omega), drS_ne n (by omega), A1]
      · rw [gU_ne (by omega), drR_ne h5 (r + 1) (by omega), gU_ne (by omega), drS_ne n (by omega), hA, addG_ne (by omega) (by omega), gU_ne (by omega), drR_ne h5 r (by omega)]
      · rw [gU_ne (by omega), drS_ne n (by omega), A1] at hq
        rw [gU_ne (show 12 + 7 * q ≠ 1 by omega), gU_ne (show 13 + 7 * q ≠ 1 by omega)]
        unfold drR
        by_cases e : q = r
        · subst e
          refine ⟨?_, by rw [gU_eq rfl, gU_eq rfl]⟩
          rw [gU_ne (by omega), drS_ne n (by omega), gU_eq rfl, gU_ne (by omega), drS_ne n (by omega), hA, addG_s (by omega)]
        · refine ⟨?_, ?_⟩
          · rw [gU_ne (by omega), drS_ne n (by omega), gU_ne (by omega), gU_ne (by omega), drS_ne n (by omega), hA, addG_ne (by omega) (by omega), gU_ne (by omega)]
          · rw [gU_ne (by omega), drS_ne n (by omega), gU_ne (by omega), gU_ne (by omega), drS_ne n (by omega), hA, addG_ne (by omega) (by omega), gU_ne (by omega)]
      · rw [gU_ne (by omega), drS_ne n (by omega), A1] at hq
        rw [gU_ne (by omega), drS_ne n (by omega), A0] at hp
        rw [gU_ne (show 14 + 7 * q + p ≠ 1 by omega)]
        unfold drR
        by_cases e : q = r
        · subst e
          rw [gU_ne (by omega), drS_at n (by omega), gU_ne (by omega), drS_at n (by omega)]
        · rw [gU_ne (by omega), drS_ne n (by omega), gU_ne (by omega), gU_ne (by omega), drS_ne n (by omega), hA, addG_ne (by omega) (by omega), gU_ne (by omega)]
    obtain ⟨m3, u1, u2, u3⟩ := ih (r + 1) (by omega) m2 (some (jI n)) w2
    have s1' : j_fin (c_call (d + 2)) 18 25 [some (jR 35), some (jI x), some (jI M), some (jI (sdR x n r)), some (jI r), some (jI 0)] [] (hH L m1) = _ := s1
    refine ⟨m3, ?_, kpt_tr (kpt_w t2 (fun c z h => by omega)) (kpt_tr s2 u2), u3⟩
    rw [T18_10, if_pos (by omega), t1]
    simp only [Option.bind_some, Option.toList_some, List.cons_append, List.nil_append, Option.toList_none]
    rw [T18_22, s1']
    exact u1
