/-! cut, weight. -/
/-- no cuts without a table -/
theorem Q137n {d L : Nat} {m : j_M0} {x : Int} (h : m 2 11 = 0) : c_call (d + 1) 137 [jR 2, jI x] (hH L m) = some (some (jI 0), hH L m) := by
  rw [Q137, show bI (m 2 11 ≠ 0 ∧ 0 ≤ x ∧ x < m 50 0) = 0 from if_neg (fun g => g.1 h)]
theorem Q201n {d L : Nat} {m : j_M0} {x : Int} (h : m 115 18 = 0) : c_call (d + 2) 201 [jR 109, jI x] (hH L m) = some (some (jI 0), hH L m) := by
  rw [Q201 (fun g => absurd h g), show bI (m 115 18 ≠ 0 ∧ 0 ≤ x ∧ x < m 115 16) = 0 from if_neg (fun g => g.1 h)]
theorem Q137t {d L : Nat} {m : j_M0} {U : CU} {n : Nat} {x : Int} (h : m 2 11 ≠ 0) (v : uC 50 n U m) : c_call (d + 1) 137 [jR 2, jI x] (hH L m) = some (some (jI (bI (0 ≤ x ∧ x < (cN U : Int)))), hH L m) := by
  rw [Q137, v.1, bI_c (show (m 2 11 ≠ 0 ∧ 0 ≤ x ∧ x < (cN U : Int)) ↔ (0 ≤ x ∧ x < (cN U : Int)) from ⟨fun g => g.2, fun g => ⟨h, g⟩⟩)]
theorem Q201t {d L : Nat} {m : j_M0} {U : CU} {n : Nat} {x : Int} (h : m 115 18 ≠ 0) (v : uM 115 n U m) (hN : cN U ≤ 12) : c_call (d + 2) 201 [jR 109, jI x] (hH L m) = some (some (jI (bI (0 ≤ x ∧ x < (cN U : Int)))), hH L m) := by
  have v1 := v.1
  rw [Q201 (fun _ => by omega), v1, bI_c (show (m 115 18 ≠ 0 ∧ 0 ≤ x ∧ x < (cN U : Int)) ↔ (0 ≤ x ∧ x < (cN U : Int)) from ⟨fun g => g.2, fun g => ⟨h, g⟩⟩)]
theorem bI_t {p : Prop} [Decidable p] (h : p) : bI p = 1 := if_pos h
theorem bI_f {p : Prop} [Decidable p] (h : ¬ p) : bI p = 0 := if_neg h
theorem Q202 {d L : Nat} {m : j_M0} {U : CU} {n : Nat} {x y : Int} (hT : m 115 18 ≠ 0) (u : uM 115 n U m) (hN : cN U ≤ 12) (hn : n ≤ 5) (n0 : m 110 0 = n) : c_call (d + 3) 202 [jR 109, jI x, jI y] (hH L m) = some (some (jL (if (0 ≤ x ∧ x < (cN U : Int)) ∧ 0 ≤ y ∧ y ≤ n then cF U x.toNat y.toNat else -9223372036854775808)), hH L m) := by
  rw [E202, T202_0, Q201t hT u hN]
  simp only [Option.bind_some, Option.toList_some, List.cons_append, List.nil_append]
  clear hT
  by_cases g1 : 0 ≤ x ∧ x < (cN U : Int)
  · rw [bI_t g1, T202_5, if_neg (by decide), Q151]
    simp only [Option.bind_some, Option.toList_some, List.cons_append, List.nil_append]
    rw [T202_15, n0, Q150]
    simp only [Option.bind_some, Option.toList_some, List.cons_append, List.nil_append]
    by_cases g2 : 0 ≤ y ∧ y ≤ (n : Int)
    · rw [bI_t g2, T202_19, if_neg (by decide), Q151]
      simp only [Option.bind_some, Option.toList_some, List.cons_append, List.nil_append]
      have g4 : (0 ≤ x ∧ x < (cN U : Int)) ∧ 0 ≤ y ∧ y ≤ (n : Int) := ⟨g1, g2⟩
      rw [T202_33, n0, if_pos g4]
      by_cases g3 : y = (n : Int)
      · have h := u.2.2.2.1 x.toNat (by omega)
        simp only [Nat.reduceAdd] at h
        rw [if_pos g3, if_pos (by omega), h, show y.toNat = n by omega]
      · have h := u.2.2.1 x.toNat y.toNat (by omega) (by omega)
        simp only [Nat.reduceAdd] at h
        rw [if_neg g3, w32_id (x := 5 * x) (by omega) (by omega), w32_id (x := 5 * x + y) (by omega) (by omega), if_pos (by omega), show (5 * x + y).toNat = 5 * x.toNat + y.toNat by omega, h]
    · rw [bI_f g2, T202_19, if_pos rfl, if_neg (fun g => g2 g.2)]
  · rw [bI_f g1, T202_5, if_pos rfl, if_neg (fun g => g1 g.1)]
theorem Q102 {d L : Nat} {m : j_M0} {U : CU} {n : Nat} {x y : Int} (hT : m 2 11 ≠ 0) (v : uC 50 n U m) (hN : cN U ≤ 12) (hn : n ≤ 5) (n4 : m 4 0 = n) : c_call (d + 3) 102 [jR 2, jI x, jI y] (hH L m) = some (some (jL (if (0 ≤ x ∧ x < (cN U : Int)) ∧ 0 ≤ y ∧ y ≤ n then cF U x.toNat y.toNat else -9223372036854775808)), hH L m) := by
  rw [E102, T102_0, Q137t hT v]
  simp only [Option.bind_some, Option.toList_some, List.cons_append, List.nil_append]
  clear hT
  by_cases g1 : 0 ≤ x ∧ x < (cN U : Int)
  · rw [bI_t g1, T102_5, if_neg (by decide), n4]
    by_cases g2 : 0 ≤ y ∧ y ≤ (n : Int)
    · have h := Q2_50 (d := d + 1) (L := L) v hn hN (k := x.toNat) (p := y.toNat) (by omega) (by omega)
      rw [show ((x.toNat : Nat) : Int) = x by omega, show ((y.toNat : Nat) : Int) = y by omega] at h
      rw [if_neg (by omega), if_neg (by omega), show c_call (d + 2) 2 _ _ = _ from h, if_pos ⟨g1, g2⟩]
      simp only [Option.bind_some, Option.toList_some, List.cons_append, List.nil_append]
      rw [T102_42]
    · have g4 : ¬ ((0 ≤ x ∧ x < (cN U : Int)) ∧ 0 ≤ y ∧ y ≤ (n : Int)) := fun g => g2 g.2
      rw [if_neg g4]
      by_cases g3 : y < 0
      · rw [if_pos g3]
      · rw [if_neg g3, if_pos (by omega)]
  · rw [bI_f g1, T102_5, if_pos rfl, if_neg (fun g => g1 g.1)]
theorem PA102 {L : Nat} {xs : Nat → Int32} {m : j_M0} (w : Rel xs m) (x y : Int) : PA L xs 102 202 [jI x, jI y] m := by
  have n := Rel_n w
  rcases w.2.2.2.2.2.1 with ⟨t1, t2⟩ | ⟨t1, t2, s, T, U, t3⟩
  · exact PA_r w (v := jL (-9223372036854775808)) ((E102 (d := 9)).trans (by rw [T102_0, Q137n t1]; simp only [Option.bind_some, Option.toList_some, List.cons_append, List.nil_append]; rw [T102_5, if_pos rfl])) ((E202 (d := 9)).trans (by rw [T202_0, Q201n t2]; simp only [Option.bind_some, Option.toList_some, List.cons_append, List.nil_append]; rw [T202_5, if_pos rfl]))
  · have hN := t3.1.2.2.1.1
    exact PA_r w (Q102 (d := 7) (by omega) t3.2.2.2.1 hN (by omega) (by omega)) (Q202 (d := 7) (by omega) t3.2.2.2.2.1 hN (by omega) (by omega))
/-- a weight, by its left -/
def weiF (R : Int) (U : CU) (x l : Int) : Int := if 10 ≤ l ∧ l < 10 + R then cW U x.toNat (l - 10).toNat else cW U x.toNat (8 + (l - 20).toNat)
theorem weiF_r {n : Nat} {R : Int} {U : CU} (ou : cOK n U) {x l : Int} (hx : 0 ≤ x ∧ x < (cN U : Int)) (hR : R ≤ 8) (hl : (10 ≤ l ∧ l < 10 + R) ∨ (20 ≤ l ∧ l < 20 + x)) : 0 ≤ weiF R U x l ∧ weiF R U x l ≤ 1000000000 := by
  have hN := ou.1
  unfold weiF
  split
  · exact ou.2.2.2 _ _ (by omega) (by omega)
  · exact ou.2.2.2 _ _ (by omega) (by omega)
theorem Q3 {d L : Nat} {m : j_M0} {U : CU} {n : Nat} {R x l : Int} (v : uC 50 n U m) (hN : cN U ≤ 12) (hx : 0 ≤ x ∧ x < (cN U : Int)) (hR : R ≤ 8) (hl : (10 ≤ l ∧ l < 10 + R) ∨ (20 ≤ l ∧ l < 20 + x)) : c_call (d + 1) 3 [jR 50, jI x, jI l] (hH L m) = some (some (jL (weiF R U x l)), hH L m) := by
  rw [E3, T3_0, w32_id (x := x * 22) (by omega) (by omega), w32_id (x := x * 22 + l) (by omega) (by omega), w32_id (by omega) (by omega), if_pos (by omega)]
  unfold weiF
  by_cases g : 10 ≤ l ∧ l < 10 + R
  · have h := v.2.2.2.1 x.toNat (l - 10).toNat (by omega) (by omega)
    simp only [Nat.reduceAdd] at h
    rw [if_pos g, show (x * 22 + l - 10).toNat = 22 * x.toNat + (l - 10).toNat by omega, h]
  · have h := v.2.2.2.2 x.toNat (l - 20).toNat (by omega) (by omega)
    simp only [Nat.reduceAdd] at h
    rw [if_neg g, show (x * 22 + l - 10).toNat = 22 * x.toNat + 10 + (l - 20).toNat by omega, h]
theorem Q103 {d L : Nat} {m : j_M0} {U : CU} {n : Nat} {R x l p : Int} (hT : m 2 11 ≠ 0) (v : uC 50 n U m) (ou : cOK n U) (hx : 0 ≤ x ∧ x < (cN U : Int)) (hp : p = 0 ∨ p = 1) (hR : 0 ≤ R ∧ R ≤ 8) (k1 : m 4 1 = R) : c_call (d + 3) 103 [jR 2, jI x, jI l, jI p] (hH L m) = some (some (jL (if (10 ≤ l ∧ l < 10 + R) ∨ (20 ≤ l ∧ l < 20 + x) then lwF (weiF R U x l) (cD U x.toNat) p else -9223372036854775808)), hH L m) := by
  have hN := ou.1
  have kd := v.2.1 x.toNat (by omega)
  simp only [Nat.reduceAdd] at kd
  have rd := ou.2.1 x.toNat (by omega)
  rw [E103, T103_0, Q137t hT v]
  simp only [Option.bind_some, Option.toList_some, List.cons_append, List.nil_append]
  rw [bI_t hx, T103_5, if_neg (by decide), Q141]
  simp only [Option.bind_some, Option.toList_some, List.cons_append, List.nil_append]
  rw [bI_t hp, T103_12, if_neg (by decide), k1, w32_id (x := 20 + x) (by omega) (by omega), w32_id (x := 10 + R) (by omega) (by omega)]
  clear hT k1
  by_cases g : (10 ≤ l ∧ l < 10 + R) ∨ (20 ≤ l ∧ l < 20 + x)
  · have wr := weiF_r ou hx hR.2 g
    have fin : ∀ a b : Int, ((c_call (d + 2) 3 [jR 50, jI x, jI l] (hH L m)).bind fun z => j_fin (c_call (d + 2)) 103 96 [some (jR 2), some (jI x), some (jI l), some (jI p), some (jI a), some (jI b)] (z.1.toList ++ []) z.2) = some (some (jL (lwF (weiF R U x l) (cD U x.toNat) p)), hH L m) := by
      intro a b
      rw [show c_call (d + 2) 3 _ (hH L m) = _ from Q3 (d := d + 1) (R := R) v hN hx hR.2 g]
      simp only [Option.bind_some, Option.toList_some, List.cons_append, List.nil_append]
      rw [T103_96, if_pos (by omega), kd, Q146 (by omega) (by omega) (by omega) (by omega)]
      simp only [Option.bind_some, Option.toList_some, List.cons_append, List.nil_append]
      rw [T103_112]
    rw [if_pos g]
    by_cases g1 : l < 10
    · omega
    · rw [if_neg g1]
      by_cases g2 : l < 10 + R
      · rw [if_pos g2, if_pos (by omega)]
        exact fin _ _
      · rw [if_neg g2, if_neg (by omega), if_pos (by omega)]
        exact fin _ _
  · rw [if_neg g]
    by_cases g1 : l < 10
    · rw [if_pos g1, if_pos (by omega)]
    · rw [if_neg g1, if_neg (by omega)]
      by_cases g3 : l < 20
      · rw [if_pos g3]
      · rw [if_neg g3, if_neg (by omega)]
theorem Q203 {d L : Nat} {m : j_M0} {U : CU} {n : Nat} {R x l p : Int} (hT : m 115 18 ≠ 0) (u : uM 115 n U m) (ou : cOK n U) (hx : 0 ≤ x ∧ x < (cN U : Int)) (hp : p = 0 ∨ p = 1) (hR : 0 ≤ R ∧ R ≤ 8) (k1 : m 110 1 = R) (hl : iR l) : c_call (d + 3) 203 [jR 109, jI x, jI l, jI p] (hH L m) = some (some (jL (if (10 ≤ l ∧ l < 10 + R) ∨ (20 ≤ l ∧ l < 20 + x) then lwF (weiF R U x l) (cD U x.toNat) p else -9223372036854775808)), hH L m) := by
  have hN := ou.1
  have kd := u.2.1 x.toNat (by omega)
  simp only [Nat.reduceAdd] at kd
  have rd := ou.2.1 x.toNat (by omega)
  unfold iR at hl
  rw [E203, T203_0, Q201t hT u hN]
  simp only [Option.bind_some, Option.toList_some, List.cons_append, List.nil_append]
  rw [bI_t hx, T203_5, if_neg (by decide), Q196]
  simp only [Option.bind_some, Option.toList_some, List.cons_append, List.nil_append]
  rw [bI_t hp, T203_12, if_neg (by decide), Q153 (by omega), k1]
  simp only [Option.bind_some, Option.toList_some, List.cons_append, List.nil_append]
  clear hT
  have fin : ((10 ≤ l ∧ l < 10 + R) ∨ (20 ≤ l ∧ l < 20 + x)) → ((c_call (d + 2) 190 [jI l] (hH L m)).bind fun z => j_fin (c_call (d + 2)) 203 61 [some (jR 109), some (jI x), some (jI l), some (jI p)] (z.1.toList ++ [jI (w32 (20 * x)), jR 126]) z.2) = some (some (jL (lwF (weiF R U x l) (cD U x.toNat) p)), hH L m) := by
    intro g
    have wr := weiF_r ou hx hR.2 g
    have hw : m 126 (20 * x.toNat + (slotF l).toNat) = weiF R U x l := by
      have h := u.2.2.2.2 x.toNat (slotF l).toNat (by omega) (by unfold slotF; split <;> omega)
      simp only [Nat.reduceAdd] at h
      rw [h]
      unfold weiF slotF
      by_cases g1 : 10 ≤ l ∧ l < 10 + R
      · rw [if_pos g1, if_pos (by omega)]
      · rw [if_neg g1, if_neg (by omega), show (l - 12).toNat = 8 + (l - 20).toNat by omega]
    have hs : 0 ≤ slotF l ∧ slotF l < 20 := by unfold slotF; split <;> omega
    have q : c_call (d + 2) 190 [jI l] (hH L m) = some (some (jI (slotF l)), hH L m) := by
      rw [E190, T190_0]
      unfold slotF
      by_cases g1 : l < 20
      · rw [if_pos g1, if_pos g1, w32_id (by omega) (by omega)]
      · rw [if_neg g1, if_neg g1, w32_id (x := 8 + l) (by omega) (by omega), w32_id (by omega) (by omega), show 8 + l - 20 = l - 12 by omega]
    rw [q]
    simp only [Option.bind_some, Option.toList_some, List.cons_append, List.nil_append]
    rw [T203_61, w32_id (x := 20 * x) (by omega) (by omega), w32_id (by omega) (by omega), if_pos (by omega), if_pos (by omega), kd, show (20 * x + slotF l).toNat = 20 * x.toNat + (slotF l).toNat by omega, hw, Q195 (by omega) (by omega) (by omega) (by omega)]
    simp only [Option.bind_some, Option.toList_some, List.cons_append, List.nil_append]
    rw [T203_76]
  by_cases g1 : 10 ≤ l ∧ l < 10 + R
  · rw [w32_id (by omega) (by omega), bI_t (show 0 ≤ l - 10 ∧ l - 10 < R by omega), T203_23, if_neg (by decide), if_pos (Or.inl g1)]
    exact fin (Or.inl g1)
  · have g2 : ¬ (0 ≤ w32 (l - 10) ∧ w32 (l - 10) < R) := by
      by_cases g3 : -2147483648 ≤ l - 10
      · rw [w32_id (by omega) (by omega)]
        omega
      · unfold w32 Int.bmod
        simp only
        omega
    rw [bI_f g2, T203_23, if_pos rfl, w32_id (x := 19 + x) (by omega) (by omega), Q150]
    simp only [Option.bind_some, Option.toList_some, List.cons_append, List.nil_append]
    rw [T203_39]
    by_cases g3 : 20 ≤ l ∧ l ≤ 19 + x
    · rw [bI_t g3, if_neg (by decide), if_pos (by omega)]
      exact fin (by omega)
    · rw [bI_f g3, if_pos rfl, if_neg (by omega)]
theorem PA103 {L : Nat} {xs : Nat → Int32} {m : j_M0} (w : Rel xs m) (x l p : Int) (hl : iR l) : PA L xs 103 203 [jI x, jI l, jI p] m := by
  have n := Rel_n w
  rcases w.2.2.2.2.2.1 with ⟨t1, t2⟩ | ⟨t1, t2, s, T, U, t3⟩
  · exact PA_r w (v := jL (-9223372036854775808)) ((E103 (d := 9)).trans (by rw [T103_0, Q137n t1]; simp only [Option.bind_some, Option.toList_some, List.cons_append, List.nil_append]; rw [T103_5, if_pos rfl])) ((E203 (d := 9)).trans (by rw [T203_0, Q201n t2]; simp only [Option.bind_some, Option.toList_some, List.cons_append, List.nil_append]; rw [T203_5, if_pos rfl]))
  · have ou := t3.1.2.2.1
    by_cases g1 : 0 ≤ x ∧ x < (cN U : Int)
    · by_cases g2 : p = 0 ∨ p = 1
      · exact PA_r w (Q103 (d := 7) (R := m 110 1) (by omega) t3.2.2.2.1 ou g1 g2 (by omega) (by omega)) (Q203 (d := 7) (R := m 110 1) (by omega) t3.2.2.2.2.1 ou g1 g2 (by omega) rfl hl)
      · refine PA_r w (v := jL (-9223372036854775808)) ((E103 (d := 9)).trans ?_) ((E203 (d := 9)).trans ?_)
        · rw [T103_0, show c_call 9 137 _ (hH L m) = _ from Q137t (d := 8) (by omega) t3.2.2.2.1]
          simp only [Option.bind_some, Option.toList_some, List.cons_append, List.nil_append]
          rw [bI_t g1, T103_5, if_neg (by decide), Q141]
          simp only [Option.bind_some, Option.toList_some, List.cons_append, List.nil_append]
          rw [bI_f g2, T103_12, if_pos rfl]
        · rw [T203_0, show c_call 9 201 _ (hH L m) = _ from Q201t (d := 7) (by omega) t3.2.2.2.2.1 ou.1]
          simp only [Option.bind_some, Option.toList_some, List.cons_append, List.nil_append]
          rw [bI_t g1, T203_5, if_neg (by decide), Q196]
          simp only [Option.bind_some, Option.toList_some, List.cons_append, List.nil_append]
          rw [bI_f g2, T203_12, if_pos rfl]
    · refine PA_r w (v := jL (-9223372036854775808)) ((E103 (d := 9)).trans ?_) ((E203 (d := 9)).trans ?_)
      · rw [T103_0, show c_call 9 137 _ (hH L m) = _ from Q137t (d := 8) (by omega) t3.2.2.2.1]
        simp only [Option.bind_some, Option.toList_some, List.cons_append, List.nil_append]
        rw [bI_f g1, T103_5, if_pos rfl]
      · rw [T203_0, show c_call 9 201 _ (hH L m) = _ from Q201t (d := 7) (by omega) t3.2.2.2.2.1 ou.1]
        simp only [Option.bind_some, Option.toList_some, List.cons_append, List.nil_append]
        rw [bI_f g1, T203_5, if_pos rfl]
