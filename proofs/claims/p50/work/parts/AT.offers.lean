/-! The law's walk: offers (pc 812 to 998). -/
/-- what a code costs -/
def cvF (co : Nat → Int) (n x : Nat) : Int := co (n - 1) * ((x % 10 : Nat) : Int) + co (n - 2) * ((x / 10 : Nat) : Int)
def lD (n : Nat) (f : Nat → Int) (r : Nat) (g : Nat → Int) : Prop := g 0 = n ∧ g 1 = r ∧ g 4 = 0 ∧ g 5 = 0 ∧ ∀ p : Nat, p < n → g (7 + p) = f p
theorem mul_b {a b : Int} (ha : 0 ≤ a ∧ a ≤ 15) (hb : 0 ≤ b ∧ b ≤ 9) : 0 ≤ a * b ∧ a * b ≤ 135 := ⟨Int.mul_nonneg ha.1 hb.1, Int.le_trans (Int.mul_le_mul_of_nonneg_right ha.2 hb.1) (by omega)⟩
theorem cos_cv {n x : Nat} {co g : Nat → Int} (hn : 2 ≤ n ∧ n ≤ 4) (h0 : g 0 = n) (hc : ∀ p : Nat, p < n → g (7 + p) = co p) (hx : x < 100) : cosF g (x : Int) = cvF co n x := by
  have d0 : (x : Int) / 1 % 10 = ((x % 10 : Nat) : Int) := by omega
  have d1 : (x : Int) / 10 % 10 = ((x / 10 : Nat) : Int) := by omega
  have d2 : (x : Int) / 100 % 10 = 0 := by omega
  have d3 : (x : Int) / 1000 % 10 = 0 := by omega
  unfold cosF
  rw [show (g 0).toNat = n by omega]
  have hn' : n = 2 ∨ n = 3 ∨ n = 4 := by omega
  rcases hn' with rfl | rfl | rfl
  · show 0 + (x : Int) / 10 % 10 * g (7 + 0) + (x : Int) / 1 % 10 * g (7 + 1) = co 1 * ((x % 10 : Nat) : Int) + co 0 * ((x / 10 : Nat) : Int)
    rw [d0, d1, hc 0 (by omega), hc 1 (by omega), Int.mul_comm, Int.mul_comm ((x % 10 : Nat) : Int)]
    omega
  · show 0 + (x : Int) / 100 % 10 * g (7 + 0) + (x : Int) / 10 % 10 * g (7 + 1) + (x : Int) / 1 % 10 * g (7 + 2) = co 2 * ((x % 10 : Nat) : Int) + co 1 * ((x / 10 : Nat) : Int)
    rw [d0, d1, d2, hc 1 (by omega), hc 2 (by omega), Int.mul_comm ((x / 10 : Nat) : Int), Int.mul_comm ((x % 10 : Nat) : Int), Int.zero_mul]
    omega
  · show 0 + (x : Int) / 1000 % 10 * g (7 + 0) + (x : Int) / 100 % 10 * g (7 + 1) + (x : Int) / 10 % 10 * g (7 + 2) + (x : Int) / 1 % 10 * g (7 + 3) = co 3 * ((x % 10 : Nat) : Int) + co 2 * ((x / 10 : Nat) : Int)
    rw [d0, d1, d2, d3, hc 2 (by omega), hc 3 (by omega), Int.mul_comm ((x / 10 : Nat) : Int), Int.mul_comm ((x % 10 : Nat) : Int), Int.zero_mul, Int.zero_mul]
    omega
theorem cv_r {n x : Nat} {co : Nat → Int} (hN : lNk n co) (hx : x < 100) : 0 ≤ cvF co n x ∧ cvF co n x ≤ 270 := by
  have a := mul_b (hN.2.1 (n - 1) (by have := hN.1; omega)) (show 0 ≤ ((x % 10 : Nat) : Int) ∧ ((x % 10 : Nat) : Int) ≤ 9 by omega)
  have b := mul_b (hN.2.1 (n - 2) (by have := hN.1; omega)) (show 0 ≤ ((x / 10 : Nat) : Int) ∧ ((x / 10 : Nat) : Int) ≤ 9 by omega)
  unfold cvF
  omega
/-- offers: what was asked (a), what it costs (c), by code -/
def oI (n : Nat) (co g : Nat → Int) (N : Nat) (a c : Nat → Int) : Prop := g 6 = N ∧ (∀ i : Nat, i < N → ∃ x : Nat, x < 100 ∧ oC g i = x ∧ a x = oA g i ∧ 0 ≤ oA g i ∧ c x = cvF co n x) ∧ ∀ x : Nat, x < 100 → a x = -5 ∨ (0 ≤ a x ∧ a x ≤ 127 ∧ ∃ i : Nat, i < N ∧ oC g i = x)
theorem oI_new {n N x : Nat} {co g a c : Nat → Int} {y : Int} (h : oI n co g N a c) (hx : x < 100) (hy : 0 ≤ y ∧ y ≤ 127) (ha : a x = -5) : oI n co (offG g N x y) (N + 1) (fun i => if i = x then y else a i) (fun i => if i = x then cvF co n x else c i) := by
  obtain ⟨h1, h2, h3⟩ := h
  have hc : ∀ i, i < N → oC (offG g N x y) i = oC g i := fun i hi => offG_ne (by omega) (by omega) (by omega)
  have hA : ∀ i, i < N → oA (offG g N x y) i = oA g i := fun i hi => offG_ne (by omega) (by omega) (by omega)
  refine ⟨offG_6, fun i hi => ?_, fun z hz => ?_⟩
  · by_cases e : i = N
    · rw [e]
      refine ⟨x, hx, offG_c, ?_, ?_, if_pos rfl⟩
      · show (if x = x then y else _) = offG g N x y (111 + 2 * N)
        rw [if_pos rfl, offG_a]
      · show 0 ≤ offG g N x y (111 + 2 * N)
        rw [offG_a]
        exact hy.1
    · obtain ⟨z, z1, z2, z3, z4, z5⟩ := h2 i (by omega)
      have zx : z ≠ x := fun e => by
        rw [e, ha] at z3
        omega
      exact ⟨z, z1, (hc i (by omega)).trans z2, (if_neg zx).trans (z3.trans (hA i (by omega)).symm), by rw [hA i (by omega)]; exact z4, (if_neg zx).trans z5⟩
  · by_cases e : z = x
    · refine Or.inr ?_
      show 0 ≤ (if z = x then y else a z) ∧ (if z = x then y else a z) ≤ 127 ∧ _
      rw [if_pos e]
      exact ⟨hy.1, hy.2, N, by omega, by rw [e]; exact offG_c⟩
    · show (if z = x then y else a z) = -5 ∨ (0 ≤ (if z = x then y else a z) ∧ (if z = x then y else a z) ≤ 127 ∧ _)
      rw [if_neg e]
      rcases h3 z hz with h | ⟨h, h', i, i1, i2⟩
      · exact Or.inl h
      · exact Or.inr ⟨h, h', i, by omega, (hc i i1).trans i2⟩
theorem oI_old {n N x k : Nat} {co g a c : Nat → Int} {y : Int} (h : oI n co g N a c) (hx : x < 100) (hy : 0 ≤ y ∧ y ≤ 127) (hk : k < N) (hkx : oC g k = x) (hd : ∀ i j : Nat, i < j → j < N → oC g i ≠ oC g j) : oI n co (gU g (111 + 2 * k) y) N (fun i => if i = x then y else a i) (fun i => if i = x then cvF co n x else c i) := by
  obtain ⟨h1, h2, h3⟩ := h
  have hc : ∀ i, oC (gU g (111 + 2 * k) y) i = oC g i := fun i => gU_ne (by omega)
  refine ⟨(gU_ne (by omega)).trans h1, fun i hi => ?_, fun z hz => ?_⟩
  · by_cases e : i = k
    · rw [e]
      refine ⟨x, hx, (hc k).trans hkx, ?_, ?_, if_pos rfl⟩
      · show (if x = x then y else _) = gU g (111 + 2 * k) y (111 + 2 * k)
        rw [if_pos rfl, gU_eq rfl]
      · show 0 ≤ gU g (111 + 2 * k) y (111 + 2 * k)
        rw [gU_eq rfl]
        exact hy.1
    · obtain ⟨z, z1, z2, z3, z4, z5⟩ := h2 i hi
      have zx : z ≠ x := fun e2 => by
        rw [e2] at z2
        rcases Nat.lt_or_gt_of_ne e with l | l
        · exact hd i k l hk (z2.trans hkx.symm)
        · exact hd k i l hi (hkx.trans z2.symm)
      have hA : oA (gU g (111 + 2 * k) y) i = oA g i := gU_ne (by omega)
      exact ⟨z, z1, (hc i).trans z2, (if_neg zx).trans (z3.trans hA.symm), by rw [hA]; exact z4, (if_neg zx).trans z5⟩
  · by_cases e : z = x
    · refine Or.inr ?_
      show 0 ≤ (if z = x then y else a z) ∧ (if z = x then y else a z) ≤ 127 ∧ _
      rw [if_pos e]
      exact ⟨hy.1, hy.2, k, hk, by rw [e]; exact (hc k).trans hkx⟩
    · show (if z = x then y else a z) = -5 ∨ (0 ≤ (if z = x then y else a z) ∧ (if z = x then y else a z) ≤ 127 ∧ _)
      rw [if_neg e]
      rcases h3 z hz with h | ⟨h, h', i, i1, i2⟩
      · exact Or.inl h
      · exact Or.inr ⟨h, h', i, i1, (hc i).trans i2⟩
/-- something is offered that costs no more -/
theorem up_nn {xs : Nat → Int32} {g : Nat → Int} {q : Option (Nat → Int)} {t : Nat → Int} {M N i : Nat} {m : j_M0} {v : Int} (r : Rel xs g q t M m) (hN : g 6 = N) (hi : i < N) (hv : cosF g (oC g i) ≤ v) : 0 ≤ upC (m 11) (m 10) v N := by
  obtain ⟨n', ox, of, -, e6⟩ := RQ_of r
  obtain ⟨-, -, f3, f4, f5⟩ := of
  simp only [Nat.reduceAdd] at f3 f4 f5
  rcases upC_p (m 11) (m 10) v N with ⟨-, h⟩ | ⟨p, p1, p2, -, -⟩
  · obtain ⟨j, j1, j2, -⟩ := f5 i (by omega)
    have h1 := h j (by omega)
    rw [f3 j (by omega), j2] at h1
    have h2 : cosF g (g (110 + 2 * i)) ≤ v := hv
    omega
  · rw [p2]
    obtain ⟨k, k1, k2, -⟩ := f4 p (by omega)
    rw [← k2]
    exact (ox.2.2.2.1 k (by omega)).1.1
set_option maxHeartbeats 1000000 in
theorem L_853 {Ls : Nat} {xs : Nat → Int32} {A n Ka Kc bu : Nat} {Q : Int} {co t : Nat → Int} {B : j_B} (hN : lNk n co) (hA : 114 ≤ A ∧ A < 200000) (hKa : 114 ≤ Ka ∧ Ka < 200000) (hKc : 114 ≤ Kc ∧ Kc < 200000) (n1 : A ≠ Ka) (n2 : A ≠ Kc) (n3 : Ka ≠ Kc) (K : (∀ (m : j_M0) (g a c : Nat → Int) (N : Nat) (d11 d12 d13 d14 d15 : Option j_V), nL d11 → nL d12 → nL d13 → nL d14 → nL d15 → 0 < N → N ≤ 8 → lJ bu B m → Rel xs g none t 0 m → lD n co 3 g → aI (hH B m) A 4 co → aI (hH B m) Ka 100 a → aI (hH B m) Kc 100 c → oI n co g N a c → lG Ls (j_fin (c_call 10) 271 998 [some (jR 0), some (jR 2), some (jI Q), some (jI (n : Int)), some (jI 1), some (jR A), some (jI 3), some (jR Ka), some (jI (N : Int)), some (jR Kc), some (jI 8), d11, d12, d13, d14, d15, none, none, none, none, none, none] [] (hH B m)))) : ∀ (j u : Nat), u + j = 8 → ∀ (m : j_M0) (g a c : Nat → Int) (N : Nat) (d11 d12 d13 d14 d15 : Option j_V), nL d11 → nL d12 → nL d13 → nL d14 → nL d15 → (0 < u → 0 < N) → N ≤ u → lJ bu B m → Rel xs g none t 0 m → lD n co 3 g → aI (hH B m) A 4 co → aI (hH B m) Ka 100 a → aI (hH B m) Kc 100 c → oI n co g N a c → lG Ls (j_fin (c_call 10) 271 853 [some (jR 0), some (jR 2), some (jI Q), some (jI (n : Int)), some (jI 1), some (jR A), some (jI 3), some (jR Ka), some (jI (N : Int)), some (jR Kc), some (jI (u : Int)), d11, d12, d13, d14, d15, none, none, none, none, none, none] [] (hH B m)) := by
  intro j
  induction j with
  | zero =>
    intro u hu m g a c N d11 d12 d13 d14 d15 n11 n12 n13 n14 n15 hu1 hu2 w r hD cA cK cC ho
    obtain rfl : u = 8 := by omega
    have K1 := K m g a c N d11 d12 d13 d14 d15 n11 n12 n13 n14 n15 (hu1 (by omega)) hu2 w r hD cA cK cC ho
    show lG Ls (j_fin (c_call 10) 271 853 [some (jR 0), some (jR 2), some (jI Q), some (jI (n : Int)), some (jI 1), some (jR A), some (jI 3), some (jR Ka), some (jI (N : Int)), some (jR Kc), some (jI 8), d11, d12, d13, d14, d15, none, none, none, none, none, none] [] (hH B m))
    refine gS (S_iload rfl at_271_853) ?_
    refine gS (S_bipush at_271_855) ?_
    refine gS (S_icmp_ge at_271_857) ?_
    refine gS (if_neg (by decide)) ?_
    exact K1
  | succ j ih =>
    intro u hu m g a c N d11 d12 d13 d14 d15 n11 n12 n13 n14 n15 hu1 hu2 w r hD cA cK cC ho
    obtain ⟨e, he⟩ : ∃ e, c_call 10 308 [jR 0, jI (w32 (10 + (u : Int)))] (hH B m) = some (some (jI e), hH B m) := ⟨_, R308 (d := 9) (by rw [w32_id (by omega) (by omega)]; omega)⟩
    have a127 := and_r e 127 (by decide)
    have t100 := tmod_r a127.1 (show (0 : Int) < 100 by decide)
    obtain ⟨x, hx, hx100⟩ : ∃ x : Nat, Int.tmod (j_and e 127) 100 = (x : Int) ∧ x < 100 := ⟨(Int.tmod (j_and e 127) 100).toNat, by omega, by omega⟩
    obtain ⟨y, hy, hy2⟩ : ∃ y, j_and (j_shr e 7) 127 = y ∧ 0 ≤ y ∧ y ≤ 127 := ⟨_, rfl, and_r _ 127 (by decide)⟩
    have hnn := hN.1
    have hn1 : True → w32 ((n : Int) - 1) = ((n - 1 : Nat) : Int) := fun _ => by
      rw [w32_id (by omega) (by omega)]
      omega
    have hn2 : True → w32 ((n : Int) - 2) = ((n - 2 : Nat) : Int) := fun _ => by
      rw [w32_id (by omega) (by omega)]
      omega
    have hx1 : True → Int.tmod (x : Int) 10 = ((x % 10 : Nat) : Int) := fun _ => by
      rw [Int.tmod_eq_emod_of_nonneg (by omega)]
      omega
    have hx2 : True → w32 (Int.tdiv (x : Int) 10) = ((x / 10 : Nat) : Int) := fun _ => by
      rw [Int.tdiv_eq_ediv_of_nonneg (by omega), w32_id (by omega) (by omega)]
      omega
    have b1 := mul_b (hN.2.1 (n - 1) (by omega)) (show 0 ≤ ((x % 10 : Nat) : Int) ∧ ((x % 10 : Nat) : Int) ≤ 9 by omega)
    have b2 := mul_b (hN.2.1 (n - 2) (by omega)) (show 0 ≤ ((x / 10 : Nat) : Int) ∧ ((x / 10 : Nat) : Int) ≤ 9 by omega)
    have ten : 100 ≤ tenF (g 0).toNat := by
      rw [hD.1, Int.toNat_natCast]
      have hn' : n = 2 ∨ n = 3 ∨ n = 4 := by omega
      rcases hn' with rfl | rfl | rfl <;> decide
    have h1 := ho.1
    have h2 := ho.2.1
    rcases ho.2.2 x hx100 with hneg | hpos
    · skip
      obtain ⟨m1, e1, r1, q1⟩ := PB121 (L := B) (x := (x : Int)) (v := y) r h1 (by omega) ⟨by omega, by omega⟩ (by omega) (fun i hi hE => by
        obtain ⟨z, z1, z2, z3, z4, -⟩ := h2 i hi
        have zx : z = x := by omega
        rw [zx] at z3
        omega)
      rw [← hneg] at e1
      have oI1 := oI_new ho hx100 hy2 hneg
      have D1 : lD n co 3 (offG g N x y) := ⟨(offG_ne (by omega) (by omega) (by omega)).trans hD.1, (offG_ne (by omega) (by omega) (by omega)).trans hD.2.1, (offG_ne (by omega) (by omega) (by omega)).trans hD.2.2.1, (offG_ne (by omega) (by omega) (by omega)).trans hD.2.2.2.1, fun p hp => (offG_ne (by omega) (by omega) (by omega)).trans (hD.2.2.2.2 p hp)⟩
      have hup := up_nn (i := N) (v := cvF co n x) r1 offG_6 (by omega) (by
        show cosF (offG g N x y) (offG g N x y (110 + 2 * N)) ≤ _
        rw [offG_c, cos_cv hN.1 D1.1 D1.2.2.2.2 hx100]
        exact Int.le_refl _)
      have e2 := PB123 (L := B) r1 offG_6 (cvF co n x)
      have cK1 := aI_k (m' := m1) cK (fun z => q1 _ z (by omega))
      have cC1 := aI_k (m' := m1) cC (fun z => q1 _ z (by omega))
      have cA1 := aI_k (m' := m1) cA (fun z => q1 _ z (by omega))
      have up : ∀ b z, b < 114 → j_up (j_up m1 Ka x y) Kc x (cvF co n x) b z = m1 b z := fun b z h => by rw [up_ne (by omega), up_ne (by omega)]
      have K1 := ih (u + 1) (by omega) _ _ _ _ (N + 1) (some (jI e)) (some (jI (x : Int))) (some (jI (x : Int))) (some (jI (cvF co n x))) (some (jI y)) (nL_i _) (nL_i _) (nL_i _) (nL_i _) (nL_i _) (fun _ => by omega) (by omega) (lJ_u (lJ_u (lJ_k w q1) (by omega)) (by omega)) (RQ_low r1 up) D1 (aI_k cA1 (fun z => by rw [up_ne (by omega), up_ne (by omega)])) (aI_k (aI_up cK1) (fun z => up_ne (by omega))) (aI_up (aI_k cC1 (fun z => up_ne (by omega)))) oI1
      generalize upC (m1 11) (m1 10) (cvF co n x) (N + 1) = up at e2 hup
      refine gS (S_iload rfl at_271_853) ?_
      refine gS (S_bipush at_271_855) ?_
      refine gS (S_icmp_ge at_271_857) ?_
      refine gS (if_pos (by omega)) ?_
      refine gS (S_aload_n rfl at_271_860) ?_
      refine gS (S_bipush at_271_861) ?_
      refine gS (S_iload rfl at_271_863) ?_
      refine gS (S_iadd at_271_865) ?_
      refine gS (S_invs (by decide) (Nat.le_of_ble_eq_true rfl) (Nat.le_of_ble_eq_true rfl) at_271_866) ?_
      show lG Ls (((c_call 10) 308 [jR 0, jI (w32 (10 + (u : Int)))] (hH B m)).bind _)
      rw [he]
      show lG Ls (j_fin (c_call 10) 271 869 [some (jR 0), some (jR 2), some (jI Q), some (jI (n : Int)), some (jI 1), some (jR A), some (jI 3), some (jR Ka), some (jI (N : Int)), some (jR Kc), some (jI (u : Int)), d11, d12, d13, d14, d15, none, none, none, none, none, none] [jI e] (hH B m))
      refine gS (S_istore (l1 := [some (jR 0), some (jR 2), some (jI Q), some (jI (n : Int)), some (jI 1), some (jR A), some (jI 3), some (jR Ka), some (jI (N : Int)), some (jR Kc), some (jI (u : Int)), some (jI e), d12, d13, d14, d15, none, none, none, none, none, none]) rfl at_271_869) ?_
      refine gS (S_iload rfl at_271_871) ?_
      refine gS (S_bipush at_271_873) ?_
      refine gS (S_iand at_271_875) ?_
      refine gS (S_bipush at_271_876) ?_
      refine gS (S_irem at_271_878) ?_
      refine gS (if_neg (by decide)) ?_
      rw [show Int.tmod (j_and e 127) 100 = (x : Int) from hx]
      refine gS (S_istore (l1 := [some (jR 0), some (jR 2), some (jI Q), some (jI (n : Int)), some (jI 1), some (jR A), some (jI 3), some (jR Ka), some (jI (N : Int)), some (jR Kc), some (jI (u : Int)), some (jI e), some (jI (x : Int)), d13, d14, d15, none, none, none, none, none, none]) rfl at_271_879) ?_
      refine gS (S_iload rfl at_271_881) ?_
      refine gS (S_istore (l1 := [some (jR 0), some (jR 2), some (jI Q), some (jI (n : Int)), some (jI 1), some (jR A), some (jI 3), some (jR Ka), some (jI (N : Int)), some (jR Kc), some (jI (u : Int)), some (jI e), some (jI (x : Int)), some (jI (x : Int)), d14, d15, none, none, none, none, none, none]) rfl at_271_883) ?_
      refine gS (S_iconst at_271_885) ?_
      refine gS (S_istore (l1 := [some (jR 0), some (jR 2), some (jI Q), some (jI (n : Int)), some (jI 1), some (jR A), some (jI 3), some (jR Ka), some (jI (N : Int)), some (jR Kc), some (jI (u : Int)), some (jI e), some (jI (x : Int)), some (jI (x : Int)), some (jI 0), d15, none, none, none, none, none, none]) rfl at_271_886) ?_
      refine gS (S_aload rfl at_271_888) ?_
      refine gS (S_iload_n rfl at_271_890) ?_
      refine gS (S_iconst at_271_891) ?_
      refine gS (S_isub at_271_892) ?_
      rw [show w32 ((n : Int) - 1) = ((n - 1 : Nat) : Int) from hn1 trivial]
      refine gS (S_iaload (aI_1 cA) at_271_893) ?_
      refine gS (if_pos ⟨by omega, by omega⟩) ?_
      rw [show (hH B m).2.2 A (((n - 1 : Nat) : Int)).toNat = co (n - 1) from cA.2 _ (by omega)]
      refine gS (S_iload rfl at_271_894) ?_
      refine gS (S_bipush at_271_896) ?_
      refine gS (S_irem at_271_898) ?_
      refine gS (if_neg (by decide)) ?_
      rw [show Int.tmod (x : Int) 10 = ((x % 10 : Nat) : Int) from hx1 trivial]
      refine gS (S_imul at_271_899) ?_
      rw [show w32 (((co (n - 1))) * (((x % 10 : Nat) : Int))) = co (n - 1) * ((x % 10 : Nat) : Int) from w32_id (by omega) (by omega)]
      refine gS (S_aload rfl at_271_900) ?_
      refine gS (S_iload_n rfl at_271_902) ?_
      refine gS (S_iconst at_271_903) ?_
      refine gS (S_isub at_271_904) ?_
      rw [show w32 ((n : Int) - 2) = ((n - 2 : Nat) : Int) from hn2 trivial]
      refine gS (S_iaload (aI_1 cA) at_271_905) ?_
      refine gS (if_pos ⟨by omega, by omega⟩) ?_
      rw [show (hH B m).2.2 A (((n - 2 : Nat) : Int)).toNat = co (n - 2) from cA.2 _ (by omega)]
      refine gS (S_iload rfl at_271_906) ?_
      refine gS (S_bipush at_271_908) ?_
      refine gS (S_idiv at_271_910) ?_
      refine gS (if_neg (by decide)) ?_
      rw [show w32 (Int.tdiv (x : Int) 10) = ((x / 10 : Nat) : Int) from hx2 trivial]
      refine gS (S_imul at_271_911) ?_
      rw [show w32 (((co (n - 2))) * (((x / 10 : Nat) : Int))) = co (n - 2) * ((x / 10 : Nat) : Int) from w32_id (by omega) (by omega)]
      refine gS (S_iadd at_271_912) ?_
      rw [show w32 (((co (n - 1) * ((x % 10 : Nat) : Int))) + ((co (n - 2) * ((x / 10 : Nat) : Int)))) = cvF co n x from w32_id (by omega) (by omega)]
      refine gS (S_istore (l1 := [some (jR 0), some (jR 2), some (jI Q), some (jI (n : Int)), some (jI 1), some (jR A), some (jI 3), some (jR Ka), some (jI (N : Int)), some (jR Kc), some (jI (u : Int)), some (jI e), some (jI (x : Int)), some (jI (x : Int)), some (jI (cvF co n x)), d15, none, none, none, none, none, none]) rfl at_271_913) ?_
      refine gS (S_iload rfl at_271_915) ?_
      refine gS (S_bipush at_271_917) ?_
      refine gS (S_ishr at_271_919) ?_
      refine gS (S_bipush at_271_920) ?_
      refine gS (S_iand at_271_922) ?_
      rw [show j_and (j_shr e 7) 127 = y from hy]
      refine gS (S_istore (l1 := [some (jR 0), some (jR 2), some (jI Q), some (jI (n : Int)), some (jI 1), some (jR A), some (jI 3), some (jR Ka), some (jI (N : Int)), some (jR Kc), some (jI (u : Int)), some (jI e), some (jI (x : Int)), some (jI (x : Int)), some (jI (cvF co n x)), some (jI y), none, none, none, none, none, none]) rfl at_271_923) ?_
      refine gS (S_iload rfl at_271_925) ?_
      refine gS (S_aload_n rfl at_271_927) ?_
      refine gS (S_iload rfl at_271_928) ?_
      refine gS (S_iload rfl at_271_930) ?_
      refine gS (S_invv (b := 2) (by decide) kn_121 rfl (kd_2 B m) (Nat.le_of_ble_eq_true rfl) at_271_932) ?_
      show lG Ls (((c_call 10) 121 [jR 2, jI (x : Int), jI y] (hH B m)).bind _)
      rw [e1]
      show lG Ls (j_fin (c_call 10) 271 935 [some (jR 0), some (jR 2), some (jI Q), some (jI (n : Int)), some (jI 1), some (jR A), some (jI 3), some (jR Ka), some (jI (N : Int)), some (jR Kc), some (jI (u : Int)), some (jI e), some (jI (x : Int)), some (jI (x : Int)), some (jI (cvF co n x)), some (jI y), none, none, none, none, none, none] [jI (a x), jI 1] (hH B m1))
      refine gS (S_aload rfl at_271_935) ?_
      refine gS (S_iload rfl at_271_937) ?_
      refine gS (S_iaload (aI_1 cK1) at_271_939) ?_
      refine gS (if_pos ⟨by omega, by omega⟩) ?_
      rw [show (hH B m1).2.2 Ka (x : Int).toNat = a x from cK1.2 x hx100]
      refine gS (S_icmp_ne at_271_940) ?_
      refine gS (if_pos rfl) ?_
      refine gS (S_aload_n rfl at_271_943) ?_
      refine gS (S_iload rfl at_271_944) ?_
      refine gS (S_invv (b := 1) (by decide) kn_123 rfl (kd_2 B m1) (Nat.le_of_ble_eq_true rfl) at_271_946) ?_
      show lG Ls (((c_call 10) 123 [jR 2, jI (cvF co n x)] (hH B m1)).bind _)
      rw [e2]
      show lG Ls (j_fin (c_call 10) 271 949 [some (jR 0), some (jR 2), some (jI Q), some (jI (n : Int)), some (jI 1), some (jR A), some (jI 3), some (jR Ka), some (jI (N : Int)), some (jR Kc), some (jI (u : Int)), some (jI e), some (jI (x : Int)), some (jI (x : Int)), some (jI (cvF co n x)), some (jI y), none, none, none, none, none, none] [jI up, jI 1] (hH B m1))
      refine gS (S_if_lt at_271_949) ?_
      refine gS (if_neg (by omega)) ?_
      refine gS (S_iconst at_271_952) ?_
      refine gS (S_goto at_271_953) ?_
      refine gS (S_iand at_271_957) ?_
      rw [j_and11]
      refine gS (S_istore (l1 := [some (jR 0), some (jR 2), some (jI Q), some (jI (n : Int)), some (jI 1), some (jR A), some (jI 3), some (jR Ka), some (jI (N : Int)), some (jR Kc), some (jI (u : Int)), some (jI e), some (jI (x : Int)), some (jI (x : Int)), some (jI (cvF co n x)), some (jI y), none, none, none, none, none, none]) rfl at_271_958) ?_
      refine gS (S_iload rfl at_271_960) ?_
      refine gS (S_aload rfl at_271_962) ?_
      refine gS (S_iload rfl at_271_964) ?_
      refine gS (S_iaload (aI_1 cK1) at_271_966) ?_
      refine gS (if_pos ⟨by omega, by omega⟩) ?_
      rw [show (hH B m1).2.2 Ka (x : Int).toNat = a x from cK1.2 x hx100]
      refine gS (S_if_ge at_271_967) ?_
      refine gS (if_pos (by omega)) ?_
      refine gS (S_iconst at_271_970) ?_
      refine gS (S_goto at_271_971) ?_
      refine gS (S_iadd at_271_975) ?_
      rw [show w32 ((N : Int) + 1) = ((N + 1 : Nat) : Int) from nat1 (by omega)]
      refine gS (S_istore (l1 := [some (jR 0), some (jR 2), some (jI Q), some (jI (n : Int)), some (jI 1), some (jR A), some (jI 3), some (jR Ka), some (jI (((N + 1 : Nat) : Int))), some (jR Kc), some (jI (u : Int)), some (jI e), some (jI (x : Int)), some (jI (x : Int)), some (jI (cvF co n x)), some (jI y), none, none, none, none, none, none]) rfl at_271_976) ?_
      refine gS (S_aload rfl at_271_978) ?_
      refine gS (S_iload rfl at_271_980) ?_
      refine gS (S_iload rfl at_271_982) ?_
      refine gS (S_iastore (by omega) (aI_1 cK1) at_271_984) ?_
      refine gS (if_pos ⟨by omega, by omega⟩) ?_
      show lG Ls (j_fin (c_call 10) 271 985 [some (jR 0), some (jR 2), some (jI Q), some (jI (n : Int)), some (jI 1), some (jR A), some (jI 3), some (jR Ka), some (jI (((N + 1 : Nat) : Int))), some (jR Kc), some (jI (u : Int)), some (jI e), some (jI (x : Int)), some (jI (x : Int)), some (jI (cvF co n x)), some (jI y), none, none, none, none, none, none] [] ((hH B (j_up m1 Ka x y))))
      refine gS (S_aload rfl at_271_985) ?_
      refine gS (S_iload rfl at_271_987) ?_
      refine gS (S_iload rfl at_271_989) ?_
      refine gS (S_iastore (by omega) (aI_1 cC1) at_271_991) ?_
      refine gS (if_pos ⟨by omega, by omega⟩) ?_
      show lG Ls (j_fin (c_call 10) 271 992 [some (jR 0), some (jR 2), some (jI Q), some (jI (n : Int)), some (jI 1), some (jR A), some (jI 3), some (jR Ka), some (jI (((N + 1 : Nat) : Int))), some (jR Kc), some (jI (u : Int)), some (jI e), some (jI (x : Int)), some (jI (x : Int)), some (jI (cvF co n x)), some (jI y), none, none, none, none, none, none] [] ((hH B (j_up (j_up m1 Ka x y) Kc x (cvF co n x)))))
      refine gS (S_iinc (l1 := [some (jR 0), some (jR 2), some (jI Q), some (jI (n : Int)), some (jI 1), some (jR A), some (jI 3), some (jR Ka), some (jI (((N + 1 : Nat) : Int))), some (jR Kc), some (jI (w32 ((u : Int) + 1))), some (jI e), some (jI (x : Int)), some (jI (x : Int)), some (jI (cvF co n x)), some (jI y), none, none, none, none, none, none]) rfl rfl at_271_992) ?_
      rw [show w32 ((u : Int) + 1) = ((u + 1 : Nat) : Int) from nat1 (by omega)]
      refine gS (S_goto at_271_995) ?_
      exact K1
    · skip
      obtain ⟨k, hk, hkx⟩ := hpos.2.2
      have ox := (RQ_of r)
      obtain ⟨n', ox, -, -, e6⟩ := ox
      have en : n' = N := by omega
      rw [en] at ox
      obtain ⟨m1, e1, r1, q1⟩ := PB121a (L := B) (v := y) r h1 hk (by omega)
      have oI1 := oI_old ho hx100 hy2 hk hkx ox.2.2.2.2
      rw [hkx, show oA g k = a x from by
        obtain ⟨z, z1, z2, z3, z4, -⟩ := h2 k hk
        have zx : z = x := by omega
        rw [zx] at z3
        exact z3.symm] at e1
      have D1 : lD n co 3 (gU g (111 + 2 * k) y) := ⟨(gU_ne (by omega)).trans hD.1, (gU_ne (by omega)).trans hD.2.1, (gU_ne (by omega)).trans hD.2.2.1, (gU_ne (by omega)).trans hD.2.2.2.1, fun p hp => (gU_ne (by omega)).trans (hD.2.2.2.2 p hp)⟩
      have g6 : gU g (111 + 2 * k) y 6 = N := (gU_ne (by omega)).trans h1
      have hup := up_nn (i := k) (v := cvF co n x) r1 g6 hk (by
        show cosF (gU g (111 + 2 * k) y) (gU g (111 + 2 * k) y (110 + 2 * k)) ≤ _
        rw [gU_ne (by omega), show g (110 + 2 * k) = (x : Int) from hkx, cos_cv hN.1 D1.1 D1.2.2.2.2 hx100]
        exact Int.le_refl _)
      have e2 := PB123 (L := B) r1 g6 (cvF co n x)
      have cK1 := aI_k (m' := m1) cK (fun z => q1 _ z (by omega))
      have cC1 := aI_k (m' := m1) cC (fun z => q1 _ z (by omega))
      have cA1 := aI_k (m' := m1) cA (fun z => q1 _ z (by omega))
      have up : ∀ b z, b < 114 → j_up (j_up m1 Ka x y) Kc x (cvF co n x) b z = m1 b z := fun b z h => by rw [up_ne (by omega), up_ne (by omega)]
      have K1 := ih (u + 1) (by omega) _ _ _ _ N (some (jI e)) (some (jI (x : Int))) (some (jI (x : Int))) (some (jI (cvF co n x))) (some (jI y)) (nL_i _) (nL_i _) (nL_i _) (nL_i _) (nL_i _) (fun _ => by omega) (by omega) (lJ_u (lJ_u (lJ_k w q1) (by omega)) (by omega)) (RQ_low r1 up) D1 (aI_k cA1 (fun z => by rw [up_ne (by omega), up_ne (by omega)])) (aI_k (aI_up cK1) (fun z => up_ne (by omega))) (aI_up (aI_k cC1 (fun z => up_ne (by omega)))) oI1
      generalize upC (m1 11) (m1 10) (cvF co n x) N = up at e2 hup
      refine gS (S_iload rfl at_271_853) ?_
      refine gS (S_bipush at_271_855) ?_
      refine gS (S_icmp_ge at_271_857) ?_
      refine gS (if_pos (by omega)) ?_
      refine gS (S_aload_n rfl at_271_860) ?_
      refine gS (S_bipush at_271_861) ?_
      refine gS (S_iload rfl at_271_863) ?_
      refine gS (S_iadd at_271_865) ?_
      refine gS (S_invs (by decide) (Nat.le_of_ble_eq_true rfl) (Nat.le_of_ble_eq_true rfl) at_271_866) ?_
      show lG Ls (((c_call 10) 308 [jR 0, jI (w32 (10 + (u : Int)))] (hH B m)).bind _)
      rw [he]
      show lG Ls (j_fin (c_call 10) 271 869 [some (jR 0), some (jR 2), some (jI Q), some (jI (n : Int)), some (jI 1), some (jR A), some (jI 3), some (jR Ka), some (jI (N : Int)), some (jR Kc), some (jI (u : Int)), d11, d12, d13, d14, d15, none, none, none, none, none, none] [jI e] (hH B m))
      refine gS (S_istore (l1 := [some (jR 0), some (jR 2), some (jI Q), some (jI (n : Int)), some (jI 1), some (jR A), some (jI 3), some (jR Ka), some (jI (N : Int)), some (jR Kc), some (jI (u : Int)), some (jI e), d12, d13, d14, d15, none, none, none, none, none, none]) rfl at_271_869) ?_
      refine gS (S_iload rfl at_271_871) ?_
      refine gS (S_bipush at_271_873) ?_
      refine gS (S_iand at_271_875) ?_
      refine gS (S_bipush at_271_876) ?_
      refine gS (S_irem at_271_878) ?_
      refine gS (if_neg (by decide)) ?_
      rw [show Int.tmod (j_and e 127) 100 = (x : Int) from hx]
      refine gS (S_istore (l1 := [some (jR 0), some (jR 2), some (jI Q), some (jI (n : Int)), some (jI 1), some (jR A), some (jI 3), some (jR Ka), some (jI (N : Int)), some (jR Kc), some (jI (u : Int)), some (jI e), some (jI (x : Int)), d13, d14, d15, none, none, none, none, none, none]) rfl at_271_879) ?_
      refine gS (S_iload rfl at_271_881) ?_
      refine gS (S_istore (l1 := [some (jR 0), some (jR 2), some (jI Q), some (jI (n : Int)), some (jI 1), some (jR A), some (jI 3), some (jR Ka), some (jI (N : Int)), some (jR Kc), some (jI (u : Int)), some (jI e), some (jI (x : Int)), some (jI (x : Int)), d14, d15, none, none, none, none, none, none]) rfl at_271_883) ?_
      refine gS (S_iconst at_271_885) ?_
      refine gS (S_istore (l1 := [some (jR 0), some (jR 2), some (jI Q), some (jI (n : Int)), some (jI 1), some (jR A), some (jI 3), some (jR Ka), some (jI (N : Int)), some (jR Kc), some (jI (u : Int)), some (jI e), some (jI (x : Int)), some (jI (x : Int)), some (jI 0), d15, none, none, none, none, none, none]) rfl at_271_886) ?_
      refine gS (S_aload rfl at_271_888) ?_
      refine gS (S_iload_n rfl at_271_890) ?_
      refine gS (S_iconst at_271_891) ?_
      refine gS (S_isub at_271_892) ?_
      rw [show w32 ((n : Int) - 1) = ((n - 1 : Nat) : Int) from hn1 trivial]
      refine gS (S_iaload (aI_1 cA) at_271_893) ?_
      refine gS (if_pos ⟨by omega, by omega⟩) ?_
      rw [show (hH B m).2.2 A (((n - 1 : Nat) : Int)).toNat = co (n - 1) from cA.2 _ (by omega)]
      refine gS (S_iload rfl at_271_894) ?_
      refine gS (S_bipush at_271_896) ?_
      refine gS (S_irem at_271_898) ?_
      refine gS (if_neg (by decide)) ?_
      rw [show Int.tmod (x : Int) 10 = ((x % 10 : Nat) : Int) from hx1 trivial]
      refine gS (S_imul at_271_899) ?_
      rw [show w32 (((co (n - 1))) * (((x % 10 : Nat) : Int))) = co (n - 1) * ((x % 10 : Nat) : Int) from w32_id (by omega) (by omega)]
      refine gS (S_aload rfl at_271_900) ?_
      refine gS (S_iload_n rfl at_271_902) ?_
      refine gS (S_iconst at_271_903) ?_
      refine gS (S_isub at_271_904) ?_
      rw [show w32 ((n : Int) - 2) = ((n - 2 : Nat) : Int) from hn2 trivial]
      refine gS (S_iaload (aI_1 cA) at_271_905) ?_
      refine gS (if_pos ⟨by omega, by omega⟩) ?_
      rw [show (hH B m).2.2 A (((n - 2 : Nat) : Int)).toNat = co (n - 2) from cA.2 _ (by omega)]
      refine gS (S_iload rfl at_271_906) ?_
      refine gS (S_bipush at_271_908) ?_
      refine gS (S_idiv at_271_910) ?_
      refine gS (if_neg (by decide)) ?_
      rw [show w32 (Int.tdiv (x : Int) 10) = ((x / 10 : Nat) : Int) from hx2 trivial]
      refine gS (S_imul at_271_911) ?_
      rw [show w32 (((co (n - 2))) * (((x / 10 : Nat) : Int))) = co (n - 2) * ((x / 10 : Nat) : Int) from w32_id (by omega) (by omega)]
      refine gS (S_iadd at_271_912) ?_
      rw [show w32 (((co (n - 1) * ((x % 10 : Nat) : Int))) + ((co (n - 2) * ((x / 10 : Nat) : Int)))) = cvF co n x from w32_id (by omega) (by omega)]
      refine gS (S_istore (l1 := [some (jR 0), some (jR 2), some (jI Q), some (jI (n : Int)), some (jI 1), some (jR A), some (jI 3), some (jR Ka), some (jI (N : Int)), some (jR Kc), some (jI (u : Int)), some (jI e), some (jI (x : Int)), some (jI (x : Int)), some (jI (cvF co n x)), d15, none, none, none, none, none, none]) rfl at_271_913) ?_
      refine gS (S_iload rfl at_271_915) ?_
      refine gS (S_bipush at_271_917) ?_
      refine gS (S_ishr at_271_919) ?_
      refine gS (S_bipush at_271_920) ?_
      refine gS (S_iand at_271_922) ?_
      rw [show j_and (j_shr e 7) 127 = y from hy]
      refine gS (S_istore (l1 := [some (jR 0), some (jR 2), some (jI Q), some (jI (n : Int)), some (jI 1), some (jR A), some (jI 3), some (jR Ka), some (jI (N : Int)), some (jR Kc), some (jI (u : Int)), some (jI e), some (jI (x : Int)), some (jI (x : Int)), some (jI (cvF co n x)), some (jI y), none, none, none, none, none, none]) rfl at_271_923) ?_
      refine gS (S_iload rfl at_271_925) ?_
      refine gS (S_aload_n rfl at_271_927) ?_
      refine gS (S_iload rfl at_271_928) ?_
      refine gS (S_iload rfl at_271_930) ?_
      refine gS (S_invv (b := 2) (by decide) kn_121 rfl (kd_2 B m) (Nat.le_of_ble_eq_true rfl) at_271_932) ?_
      show lG Ls (((c_call 10) 121 [jR 2, jI (x : Int), jI y] (hH B m)).bind _)
      rw [e1]
      show lG Ls (j_fin (c_call 10) 271 935 [some (jR 0), some (jR 2), some (jI Q), some (jI (n : Int)), some (jI 1), some (jR A), some (jI 3), some (jR Ka), some (jI (N : Int)), some (jR Kc), some (jI (u : Int)), some (jI e), some (jI (x : Int)), some (jI (x : Int)), some (jI (cvF co n x)), some (jI y), none, none, none, none, none, none] [jI (a x), jI 1] (hH B m1))
      refine gS (S_aload rfl at_271_935) ?_
      refine gS (S_iload rfl at_271_937) ?_
      refine gS (S_iaload (aI_1 cK1) at_271_939) ?_
      refine gS (if_pos ⟨by omega, by omega⟩) ?_
      rw [show (hH B m1).2.2 Ka (x : Int).toNat = a x from cK1.2 x hx100]
      refine gS (S_icmp_ne at_271_940) ?_
      refine gS (if_pos rfl) ?_
      refine gS (S_aload_n rfl at_271_943) ?_
      refine gS (S_iload rfl at_271_944) ?_
      refine gS (S_invv (b := 1) (by decide) kn_123 rfl (kd_2 B m1) (Nat.le_of_ble_eq_true rfl) at_271_946) ?_
      show lG Ls (((c_call 10) 123 [jR 2, jI (cvF co n x)] (hH B m1)).bind _)
      rw [e2]
      show lG Ls (j_fin (c_call 10) 271 949 [some (jR 0), some (jR 2), some (jI Q), some (jI (n : Int)), some (jI 1), some (jR A), some (jI 3), some (jR Ka), some (jI (N : Int)), some (jR Kc), some (jI (u : Int)), some (jI e), some (jI (x : Int)), some (jI (x : Int)), some (jI (cvF co n x)), some (jI y), none, none, none, none, none, none] [jI up, jI 1] (hH B m1))
      refine gS (S_if_lt at_271_949) ?_
      refine gS (if_neg (by omega)) ?_
      refine gS (S_iconst at_271_952) ?_
      refine gS (S_goto at_271_953) ?_
      refine gS (S_iand at_271_957) ?_
      rw [j_and11]
      refine gS (S_istore (l1 := [some (jR 0), some (jR 2), some (jI Q), some (jI (n : Int)), some (jI 1), some (jR A), some (jI 3), some (jR Ka), some (jI (N : Int)), some (jR Kc), some (jI (u : Int)), some (jI e), some (jI (x : Int)), some (jI (x : Int)), some (jI (cvF co n x)), some (jI y), none, none, none, none, none, none]) rfl at_271_958) ?_
      refine gS (S_iload rfl at_271_960) ?_
      refine gS (S_aload rfl at_271_962) ?_
      refine gS (S_iload rfl at_271_964) ?_
      refine gS (S_iaload (aI_1 cK1) at_271_966) ?_
      refine gS (if_pos ⟨by omega, by omega⟩) ?_
      rw [show (hH B m1).2.2 Ka (x : Int).toNat = a x from cK1.2 x hx100]
      refine gS (S_if_ge at_271_967) ?_
      refine gS (if_neg (by omega)) ?_
      refine gS (S_iconst at_271_974) ?_
      refine gS (S_iadd at_271_975) ?_
      rw [show w32 ((N : Int) + 0) = (N : Int) from (w32_id (by omega) (by omega)).trans (Int.add_zero _)]
      refine gS (S_istore (l1 := [some (jR 0), some (jR 2), some (jI Q), some (jI (n : Int)), some (jI 1), some (jR A), some (jI 3), some (jR Ka), some (jI (N : Int)), some (jR Kc), some (jI (u : Int)), some (jI e), some (jI (x : Int)), some (jI (x : Int)), some (jI (cvF co n x)), some (jI y), none, none, none, none, none, none]) rfl at_271_976) ?_
      refine gS (S_aload rfl at_271_978) ?_
      refine gS (S_iload rfl at_271_980) ?_
      refine gS (S_iload rfl at_271_982) ?_
      refine gS (S_iastore (by omega) (aI_1 cK1) at_271_984) ?_
      refine gS (if_pos ⟨by omega, by omega⟩) ?_
      show lG Ls (j_fin (c_call 10) 271 985 [some (jR 0), some (jR 2), some (jI Q), some (jI (n : Int)), some (jI 1), some (jR A), some (jI 3), some (jR Ka), some (jI (N : Int)), some (jR Kc), some (jI (u : Int)), some (jI e), some (jI (x : Int)), some (jI (x : Int)), some (jI (cvF co n x)), some (jI y), none, none, none, none, none, none] [] ((hH B (j_up m1 Ka x y))))
      refine gS (S_aload rfl at_271_985) ?_
      refine gS (S_iload rfl at_271_987) ?_
      refine gS (S_iload rfl at_271_989) ?_
      refine gS (S_iastore (by omega) (aI_1 cC1) at_271_991) ?_
      refine gS (if_pos ⟨by omega, by omega⟩) ?_
      show lG Ls (j_fin (c_call 10) 271 992 [some (jR 0), some (jR 2), some (jI Q), some (jI (n : Int)), some (jI 1), some (jR A), some (jI 3), some (jR Ka), some (jI (N : Int)), some (jR Kc), some (jI (u : Int)), some (jI e), some (jI (x : Int)), some (jI (x : Int)), some (jI (cvF co n x)), some (jI y), none, none, none, none, none, none] [] ((hH B (j_up (j_up m1 Ka x y) Kc x (cvF co n x)))))
      refine gS (S_iinc (l1 := [some (jR 0), some (jR 2), some (jI Q), some (jI (n : Int)), some (jI 1), some (jR A), some (jI 3), some (jR Ka), some (jI (N : Int)), some (jR Kc), some (jI (w32 ((u : Int) + 1))), some (jI e), some (jI (x : Int)), some (jI (x : Int)), some (jI (cvF co n x)), some (jI y), none, none, none, none, none, none]) rfl rfl at_271_992) ?_
      rw [show w32 ((u : Int) + 1) = ((u + 1 : Nat) : Int) from nat1 (by omega)]
      refine gS (S_goto at_271_995) ?_
      exact K1
theorem L_824 {Ls : Nat} {A n Ka : Nat} {Q : Int} {B : j_B} {d10 d11 d12 d13 d14 d15 : Option j_V} (hKa : 114 ≤ Ka ∧ Ka < 200000) : ∀ (j k : Nat), k + j = 100 → ∀ (m : j_M0) (f : Nat → Int), aI (hH B m) Ka 100 f → (∀ i : Nat, i < k → f i = -5) → (∀ mn : j_M0, (∀ b z, b ≠ Ka → mn b z = m b z) → aI (hH B mn) Ka 100 (fun _ => -5) → lG Ls (j_fin (c_call 10) 271 844 [some (jR 0), some (jR 2), some (jI Q), some (jI (n : Int)), some (jI 1), some (jR A), some (jI 3), some (jR Ka), some (jI 0), some (jI 100), d10, d11, d12, d13, d14, d15, none, none, none, none, none, none] [] (hH B mn))) → lG Ls (j_fin (c_call 10) 271 824 [some (jR 0), some (jR 2), some (jI Q), some (jI (n : Int)), some (jI 1), some (jR A), some (jI 3), some (jR Ka), some (jI 0), some (jI (k : Int)), d10, d11, d12, d13, d14, d15, none, none, none, none, none, none] [] (hH B m)) := by
  intro j
  induction j with
  | zero =>
    intro k hk m f cK hf K
    obtain rfl : k = 100 := by omega
    have K1 := K m (fun _ _ _ => rfl) (aI_f cK hf)
    show lG Ls (j_fin (c_call 10) 271 824 [some (jR 0), some (jR 2), some (jI Q), some (jI (n : Int)), some (jI 1), some (jR A), some (jI 3), some (jR Ka), some (jI 0), some (jI 100), d10, d11, d12, d13, d14, d15, none, none, none, none, none, none] [] (hH B m))
    refine gS (S_iload rfl at_271_824) ?_
    refine gS (S_bipush at_271_826) ?_
    refine gS (S_icmp_ge at_271_828) ?_
    refine gS (if_neg (by decide)) ?_
    exact K1
  | succ j ih =>
    intro k hk m f cK hf K
    have K1 := ih (k + 1) (by omega) (j_up m Ka k (-5)) _ (aI_up cK) (fun i hi => by
      by_cases e : i = k
      · exact if_pos e
      · exact (if_neg e).trans (hf i (by omega))) (fun mn h1 h2 => K mn (fun b z hb => (h1 b z hb).trans (up_ne hb)) h2)
    refine gS (S_iload rfl at_271_824) ?_
    refine gS (S_bipush at_271_826) ?_
    refine gS (S_icmp_ge at_271_828) ?_
    refine gS (if_pos (by omega)) ?_
    refine gS (S_aload rfl at_271_831) ?_
    refine gS (S_iload rfl at_271_833) ?_
    refine gS (S_bipush at_271_835) ?_
    refine gS (S_iastore (by omega) (aI_1 cK) at_271_837) ?_
    refine gS (if_pos ⟨by omega, by omega⟩) ?_
    show lG Ls (j_fin (c_call 10) 271 838 [some (jR 0), some (jR 2), some (jI Q), some (jI (n : Int)), some (jI 1), some (jR A), some (jI 3), some (jR Ka), some (jI 0), some (jI (k : Int)), d10, d11, d12, d13, d14, d15, none, none, none, none, none, none] [] ((hH B (j_up m Ka k (-5)))))
    refine gS (S_iinc (l1 := [some (jR 0), some (jR 2), some (jI Q), some (jI (n : Int)), some (jI 1), some (jR A), some (jI 3), some (jR Ka), some (jI 0), some (jI (w32 ((k : Int) + 1))), d10, d11, d12, d13, d14, d15, none, none, none, none, none, none]) rfl rfl at_271_838) ?_
    rw [show w32 ((k : Int) + 1) = ((k + 1 : Nat) : Int) from nat1 (by omega)]
    refine gS (S_goto at_271_841) ?_
    exact K1
set_option maxHeartbeats 1000000 in
theorem T_812 {Ls : Nat} {xs : Nat → Int32} {A n bu : Nat} {Q : Int} {co g t : Nat → Int} {B0 : j_B} {m : j_M0} {d8 d9 d10 d11 d12 d13 d14 d15 : Option j_V} (n8 : nL d8) (n9 : nL d9) (n10 : nL d10) (n11 : nL d11) (n12 : nL d12) (n13 : nL d13) (n14 : nL d14) (n15 : nL d15) (hN : lNk n co) (hA : 114 ≤ A ∧ A < 200000) (w : lJ bu B0 m) (hbu : bu ≤ 5000) (r : Rel xs g none t 0 m) (hC : lC n co 3 g) (cA : aI (hH B0 m) A 4 co) (K : (∀ (B : j_B) (m : j_M0) (Ka Kc : Nat) (g a c : Nat → Int) (N : Nat) (d11 d12 d13 d14 d15 : Option j_V), nL d11 → nL d12 → nL d13 → nL d14 → nL d15 → B.1 = B0.1 → (114 ≤ Ka ∧ Ka < 200000) → (114 ≤ Kc ∧ Kc < 200000) → Ka ≠ Kc → 0 < N → N ≤ 8 → lJ (bu + 2) B m → Rel xs g none t 0 m → lD n co 3 g → aI (hH B m) A 4 co → aI (hH B m) Ka 100 a → aI (hH B m) Kc 100 c → oI n co g N a c → lG Ls (j_fin (c_call 10) 271 998 [some (jR 0), some (jR 2), some (jI Q), some (jI (n : Int)), some (jI 1), some (jR A), some (jI 3), some (jR Ka), some (jI (N : Int)), some (jR Kc), some (jI 8), d11, d12, d13, d14, d15, none, none, none, none, none, none] [] (hH B m)))) : lG Ls (j_fin (c_call 10) 271 812 [some (jR 0), some (jR 2), some (jI Q), some (jI (n : Int)), some (jI 1), some (jR A), some (jI 3), some (jI 3), d8, d9, d10, d11, d12, d13, d14, d15, none, none, none, none, none, none] [] (hH B0 m)) := by
  obtain ⟨B1, m1, Ka, l1, hKa, hKa2, e1, b1, w1, q1, x1, cK⟩ := arr_new (n := 100) w (by omega) (by omega)
  have lA := aI_lt cA
  have cA1 := aI_x x1 cA (fun h => h)
  have K2 := L_824 (Ls := Ls) (Q := Q) (A := A) (n := n) (B := B1) (d10 := d10) (d11 := d11) (d12 := d12) (d13 := d13) (d14 := d14) (d15 := d15) ⟨hKa, hKa2⟩ 100 0 (by omega) m1 _ cK (fun i hi => absurd hi (Nat.not_lt_zero i)) (fun m2 q2 cK2 => by
    have w2 : lJ (bu + 1) B1 m2 := lJ_m w1 (fun b z h => q2 b z (by omega))
    have lK := aI_lt cK2
    have cA2 : aI (hH B1 m2) A 4 co := aI_k cA1 (fun z => q2 _ z (by omega))
    obtain ⟨B2, m3, Kc, l2, hKc, hKc2, e2, b2, w3, q3, x3, cC⟩ := arr_new (n := 100) w2 (by omega) (by omega)
    have r3 : Rel xs g none t 0 m3 := RQ_low (RQ_low (RQ_low r q1) (fun b z h => q2 b z (by omega))) q3
    have lA2 := aI_lt cA2
    have K3 := L_853 (Ls := Ls) (Q := Q) (A := A) (n := n) (B := B2) (bu := bu + 2) (co := co) (t := t) (Ka := Ka) (Kc := Kc) hN hA ⟨hKa, hKa2⟩ ⟨hKc, hKc2⟩ (by omega) (by omega) (by omega) (fun m4 g4 a4 c4 N4 => K B2 m4 Ka Kc g4 a4 c4 N4 |> fun f e11 e12 e13 e14 e15 k11 k12 k13 k14 k15 p1 p2 p3 p4 p5 p6 p7 p8 p9 => f e11 e12 e13 e14 e15 k11 k12 k13 k14 k15 (b2.trans b1) ⟨hKa, hKa2⟩ ⟨hKc, hKc2⟩ (by omega) p1 p2 p3 p4 p5 p6 p7 p8 p9) 8 0 (by omega) m3 g (fun _ => -5) (fun _ => 0) 0 d11 d12 d13 d14 d15 n11 n12 n13 n14 n15 (fun h => absurd h (Nat.lt_irrefl 0)) (Nat.le_refl 0) w3 r3 ⟨hC.1, hC.2.1, hC.2.2.1, hC.2.2.2.1, hC.2.2.2.2.2⟩ (aI_x x3 cA2 (fun h => h)) (aI_x x3 cK2 (fun h => h)) cC ⟨hC.2.2.2.2.1, fun i hi => absurd hi (Nat.not_lt_zero i), fun x hx => Or.inl rfl⟩
    refine gS (S_bipush at_271_844) ?_
    refine gS (S_newarr (arr_ok w2 (by decide) (by omega)) at_271_846) ?_
    show lG Ls (j_fin (c_call 10) 271 848 [some (jR 0), some (jR 2), some (jI Q), some (jI (n : Int)), some (jI 1), some (jR A), some (jI 3), some (jR Ka), some (jI 0), some (jI 100), d10, d11, d12, d13, d14, d15, none, none, none, none, none, none] [jR ((hH B1 m2).1.length)] ((j_new (hH B1 m2) 32 100)))
    rw [e2, l2]
    refine gS (S_astore (l1 := [some (jR 0), some (jR 2), some (jI Q), some (jI (n : Int)), some (jI 1), some (jR A), some (jI 3), some (jR Ka), some (jI 0), some (jR Kc), d10, d11, d12, d13, d14, d15, none, none, none, none, none, none]) rfl at_271_848) ?_
    refine gS (S_iconst at_271_850) ?_
    refine gS (S_istore (l1 := [some (jR 0), some (jR 2), some (jI Q), some (jI (n : Int)), some (jI 1), some (jR A), some (jI 3), some (jR Ka), some (jI 0), some (jR Kc), some (jI 0), d11, d12, d13, d14, d15, none, none, none, none, none, none]) rfl at_271_851) ?_
    exact K3)
  refine gS (S_bipush at_271_812) ?_
  refine gS (S_newarr (arr_ok w (by decide) (by omega)) at_271_814) ?_
  show lG Ls (j_fin (c_call 10) 271 816 [some (jR 0), some (jR 2), some (jI Q), some (jI (n : Int)), some (jI 1), some (jR A), some (jI 3), some (jI 3), d8, d9, d10, d11, d12, d13, d14, d15, none, none, none, none, none, none] [jR ((hH B0 m).1.length)] ((j_new (hH B0 m) 32 100)))
  rw [e1, l1]
  refine gS (S_astore (l1 := [some (jR 0), some (jR 2), some (jI Q), some (jI (n : Int)), some (jI 1), some (jR A), some (jI 3), some (jR Ka), d8, d9, d10, d11, d12, d13, d14, d15, none, none, none, none, none, none]) rfl at_271_816) ?_
  refine gS (S_iconst at_271_818) ?_
  refine gS (S_istore (l1 := [some (jR 0), some (jR 2), some (jI Q), some (jI (n : Int)), some (jI 1), some (jR A), some (jI 3), some (jR Ka), some (jI 0), d9, d10, d11, d12, d13, d14, d15, none, none, none, none, none, none]) rfl at_271_819) ?_
  refine gS (S_iconst at_271_821) ?_
  refine gS (S_istore (l1 := [some (jR 0), some (jR 2), some (jI Q), some (jI (n : Int)), some (jI 1), some (jR A), some (jI 3), some (jR Ka), some (jI 0), some (jI 0), d10, d11, d12, d13, d14, d15, none, none, none, none, none, none]) rfl at_271_822) ?_
  exact K2
