/-! proved. -/
/-- one place of a rule, by the model -/
theorem QpF {d L : Nat} {K : PK} {m : j_M0} (w : vG K m) {r p : Nat} (hr : r < pR K) (hp : p < pN K) : c_call (d + 2) 157 [jR 109, jI r, jI p] (hH L m) = some (some (jL (pF K r p)), hH L m) := by
  have n := vG_n w
  rw [Q157 w.1 (by omega) (by omega), w.2.2.2.2.1 r p hr hp]
  unfold pF
  rw [if_neg (by omega)]
theorem QlF {d L : Nat} {K : PK} {m : j_M0} (w : vG K m) {r : Nat} (hr : r < pR K) : c_call (d + 2) 158 [jR 109, jI r] (hH L m) = some (some (jL (pF K r (pN K))), hH L m) := by
  have n := vG_n w
  rw [Q158 w.1 (by omega), w.2.2.2.2.2 r hr]
  unfold pF
  rw [if_pos rfl]
/-! proved -/
def wsA (K : PK) (U : CU) (x p : Nat) : Nat → Int
  | 0 => 0
  | r + 1 => w64 (wsA K U x p r + w64 (cW U x r * pF K r p))
def wsB (K : PK) (U : CU) (x p : Nat) : Nat → Int
  | 0 => wsA K U x p (pR K)
  | e + 1 => w64 (wsB K U x p e + w64 (cW U x (8 + e) * cF U e p))
def prF (K : PK) (U : CU) (x p : Nat) : Prop := wsB K U x p x / cD U x = cF U x p
theorem wsA_r (K : PK) (U : CU) (x p k : Nat) : -9223372036854775808 ≤ wsA K U x p k ∧ wsA K U x p k ≤ 9223372036854775807 := by
  cases k with
  | zero => unfold wsA; omega
  | succ k => unfold wsA; exact w64_r _
theorem wsB_r (K : PK) (U : CU) (x p k : Nat) : -9223372036854775808 ≤ wsB K U x p k ∧ wsB K U x p k ≤ 9223372036854775807 := by
  cases k with
  | zero => unfold wsB; exact wsA_r K U x p _
  | succ k => unfold wsB; exact w64_r _
theorem L6a {d L : Nat} {K : PK} {U : CU} {m : j_M0} (w : vP 4 K m) (v : uC 50 (pN K) U m) (ou : cOK (pN K) U) {x p : Nat} (hx : x < cN U) (hp : p ≤ pN K) : ∀ j k : Nat, k + j = pR K → j_fin (c_call (d + 2)) 6 29 [some (jR 50), some (jI x), some (jR 4), some (jI p), some (jL (wsA K U x p k)), none, some (jI k)] [] (hH L m) = j_fin (c_call (d + 2)) 6 29 [some (jR 50), some (jI x), some (jR 4), some (jI p), some (jL (wsA K U x p (pR K))), none, some (jI (pR K : Nat))] [] (hH L m) := by
  have ok := vP_ok w
  have n8 := ok.2.2.1
  have hN := ou.1
  have k1 := w.2.2.1
  intro j
  induction j with
  | zero =>
    intro k hk
    rw [show k = pR K by omega]
  | succ j ih =>
    intro k hk
    have h3 := Q3 (d := d + 1) (L := L) (x := (x : Int)) (l := 10 + (k : Int)) v hN (by omega) (show ((pR K : Nat) : Int) ≤ 8 by omega) (Or.inl (by omega))
    have hw : weiF (pR K : Nat) U (x : Int) (10 + (k : Int)) = cW U x k := by
      unfold weiF
      rw [if_pos (by omega), Int.toNat_natCast, show (10 + (k : Int) - 10).toNat = k by omega]
    rw [hw] at h3
    rw [T6_29, if_pos (by omega), w32_id (by omega) (by omega), show c_call (d + 2) 3 _ _ = _ from h3]
    simp only [Option.bind_some, Option.toList_some, List.cons_append, List.nil_append]
    rw [T6_50, Q13f_4 w (by omega) hp]
    simp only [Option.bind_some, Option.toList_some, List.cons_append, List.nil_append]
    rw [T6_57, nat1 (by omega)]
    have := ih (k + 1) (by omega)
    rw [wsA] at this
    exact this
theorem L6b {d L : Nat} {K : PK} {U : CU} {m : j_M0} (w : vP 4 K m) (v : uC 50 (pN K) U m) (ou : cOK (pN K) U) {x p : Nat} (hx : x < cN U) (hp : p ≤ pN K) : ∀ j k : Nat, k + j = x → j_fin (c_call (d + 2)) 6 71 [some (jR 50), some (jI x), some (jR 4), some (jI p), some (jL (wsB K U x p k)), none, some (jI k)] [] (hH L m) = j_fin (c_call (d + 2)) 6 71 [some (jR 50), some (jI x), some (jR 4), some (jI p), some (jL (wsB K U x p x)), none, some (jI x)] [] (hH L m) := by
  have ok := vP_ok w
  have n5 := ok.2.1
  have n8 := ok.2.2.1
  have hN := ou.1
  intro j
  induction j with
  | zero =>
    intro k hk
    rw [show k = x by omega]
  | succ j ih =>
    intro k hk
    have h3 := Q3 (d := d + 1) (L := L) (x := (x : Int)) (l := 20 + (k : Int)) v hN (by omega) (show ((pR K : Nat) : Int) ≤ 8 by omega) (Or.inr (by omega))
    have hw : weiF (pR K : Nat) U (x : Int) (20 + (k : Int)) = cW U x (8 + k) := by
      unfold weiF
      rw [if_neg (by omega), Int.toNat_natCast, show (20 + (k : Int) - 20).toNat = k by omega]
    rw [hw] at h3
    rw [T6_71, if_pos (by omega), w32_id (by omega) (by omega), show c_call (d + 2) 3 _ _ = _ from h3]
    simp only [Option.bind_some, Option.toList_some, List.cons_append, List.nil_append]
    rw [T6_89, show c_call (d + 2) 2 _ _ = _ from Q2_50 (d := d + 1) v n5 hN (by omega) hp]
    simp only [Option.bind_some, Option.toList_some, List.cons_append, List.nil_append]
    rw [T6_96, nat1 (by omega)]
    have := ih (k + 1) (by omega)
    rw [wsB] at this
    exact this
theorem L6 {d L : Nat} {K : PK} {U : CU} {m : j_M0} (w : vP 4 K m) (v : uC 50 (pN K) U m) (ou : cOK (pN K) U) {x : Nat} (hx : x < cN U) : ∀ j p : Nat, p + j = pN K + 1 → ∀ o4 o6 : Option j_V, ∃ f, j_fin (c_call (d + 2)) 6 15 [some (jR 50), some (jI x), some (jR 4), some (jI p), o4, none, o6] [] (hH L m) = some (some (jI f), hH L m) ∧ fl f (∀ q : Nat, p ≤ q → q ≤ pN K → prF K U x q) := by
  have ok := vP_ok w
  have n5 := ok.2.1
  have n8 := ok.2.2.1
  have hN := ou.1
  have k0 := w.2.1
  have k1 := w.2.2.1
  have kd := v.2.1 x hx
  simp only [Nat.reduceAdd] at kd
  have rd := ou.2.1 x hx
  intro j
  induction j with
  | zero =>
    intro p hp o4 o6
    rw [T6_15, if_pos (by omega)]
    exact ⟨1, rfl, Or.inl ⟨rfl, fun q h h' => by omega⟩⟩
  | succ j ih =>
    intro p hp o4 o6
    have a := L6a (d := d) (L := L) w v ou hx (show p ≤ pN K by omega) (pR K) 0 (by omega)
    have b := L6b (d := d) (L := L) w v ou hx (show p ≤ pN K by omega) x 0 (by omega)
    rw [wsA] at a
    rw [wsB] at b
    have wr := wsB_r K U x p x
    rw [T6_15, if_neg (by omega), show (some (jI 0) : Option j_V) = some (jI ((0 : Nat) : Int)) from rfl, a, T6_29, if_neg (by omega), show (some (jI 0) : Option j_V) = some (jI ((0 : Nat) : Int)) from rfl, b, T6_71, if_neg (by omega), if_pos (by omega), Int.toNat_natCast, kd, show c_call (d + 2) 265 _ (hH L m) = _ from Q265w (d := d + 1) wr.1 wr.2 (by omega) (by omega)]
    simp only [Option.bind_some, Option.toList_some, List.cons_append, List.nil_append]
    rw [T6_117, show c_call (d + 2) 2 _ _ = _ from Q2_50 (d := d + 1) v n5 hN hx (show p ≤ pN K by omega)]
    simp only [Option.bind_some, Option.toList_some, List.cons_append, List.nil_append]
    rw [T6_123]
    simp only [cmp_eq]
    by_cases e : wsB K U x p x / cD U x = cF U x p
    · rw [if_pos e, nat1 (by omega)]
      obtain ⟨f, h1, h2⟩ := ih (p + 1) (by omega) (some (jL (wsB K U x p x))) (some (jI x))
      refine ⟨f, h1, fl_w h2 ⟨fun h q h3 h4 => ?_, fun h q h3 h4 => h q (by omega) h4⟩⟩
      by_cases e2 : q = p
      · subst e2; exact e
      · exact h q (by omega) h4
    · rw [if_neg e]
      exact ⟨0, rfl, Or.inr ⟨rfl, fun h => e (h p (Nat.le_refl p) (by omega))⟩⟩
theorem L204a {d L : Nat} {K : PK} {U : CU} {m : j_M0} (w : vG K m) (v : uM 115 (pN K) U m) (ou : cOK (pN K) U) {x p : Nat} (hx : x < cN U) (hp : p ≤ pN K) : ∀ j k : Nat, k + j = pR K → j_fin (c_call (d + 3)) 204 5 [some (jR 109), some (jI x), some (jI p), some (jL (wsA K U x p k)), none, some (jI k)] [] (hH L m) = j_fin (c_call (d + 3)) 204 5 [some (jR 109), some (jI x), some (jI p), some (jL (wsA K U x p (pR K))), none, some (jI (pR K : Nat))] [] (hH L m) := by
  have n := vG_n w
  have hN := ou.1
  have k0 := w.2.1
  have k1 := w.2.2.1
  intro j
  induction j with
  | zero =>
    intro k hk
    rw [show k = pR K by omega]
  | succ j ih =>
    intro k hk
    have h := v.2.2.2.2 x k hx (by omega)
    simp only [Nat.reduceAdd] at h
    have this := ih (k + 1) (by omega)
    rw [wsA] at this
    rw [T204_5, if_pos (by omega), w32_id (x := 20 * (x : Int)) (by omega) (by omega), w32_id (by omega) (by omega), if_pos (by omega), show (20 * (x : Int) + (k : Int)).toNat = 20 * x + k by omega, h, Q151, k0]
    simp only [Option.bind_some, Option.toList_some, List.cons_append, List.nil_append]
    rw [T204_37]
    by_cases e : p = pN K
    · rw [if_pos (by omega), show c_call (d + 3) 158 _ (hH L m) = _ from QlF (d := d + 1) w (show k < pR K by omega)]
      simp only [Option.bind_some, Option.toList_some, List.cons_append, List.nil_append]
      rw [T204_46, T204_56, nat1 (by omega), ← e]
      exact this
    · rw [if_neg (by omega), show c_call (d + 3) 157 _ (hH L m) = _ from QpF (d := d + 1) w (show k < pR K by omega) (show p < pN K by omega)]
      simp only [Option.bind_some, Option.toList_some, List.cons_append, List.nil_append]
      rw [T204_56, nat1 (by omega)]
      exact this
theorem L204b {d L : Nat} {K : PK} {U : CU} {m : j_M0} (w : vG K m) (v : uM 115 (pN K) U m) (ou : cOK (pN K) U) (hT : m 115 18 ≠ 0) {x p : Nat} (hx : x < cN U) (hp : p ≤ pN K) : ∀ j k : Nat, k + j = x → j_fin (c_call (d + 3)) 204 68 [some (jR 109), some (jI x), some (jI p), some (jL (wsB K U x p k)), none, some (jI k)] [] (hH L m) = j_fin (c_call (d + 3)) 204 68 [some (jR 109), some (jI x), some (jI p), some (jL (wsB K U x p x)), none, some (jI x)] [] (hH L m) := by
  have n := vG_n w
  have hN := ou.1
  have k0 := w.2.1
  intro j
  induction j with
  | zero =>
    intro k hk
    rw [show k = x by omega]
  | succ j ih =>
    intro k hk
    have h := v.2.2.2.2 x (8 + k) hx (by omega)
    simp only [Nat.reduceAdd] at h
    have this := ih (k + 1) (by omega)
    rw [wsB] at this
    have q := Q202 (d := d) (L := L) (x := (k : Int)) (y := (p : Int)) hT v hN (by omega) k0
    clear hT
    rw [if_pos (by omega), Int.toNat_natCast, Int.toNat_natCast] at q
    rw [T204_68, if_pos (by omega), w32_id (x := 20 * (x : Int)) (by omega) (by omega), w32_id (x := 20 * (x : Int) + 8) (by omega) (by omega), w32_id (by omega) (by omega), if_pos (by omega), show (20 * (x : Int) + 8 + (k : Int)).toNat = 20 * x + (8 + k) by omega, h, q]
    simp only [Option.bind_some, Option.toList_some, List.cons_append, List.nil_append]
    rw [T204_100, nat1 (by omega)]
    exact this
theorem Q204 {d L : Nat} {K : PK} {U : CU} {m : j_M0} (w : vG K m) (v : uM 115 (pN K) U m) (ou : cOK (pN K) U) (hT : m 115 18 ≠ 0) {x p : Nat} (hx : x < cN U) (hp : p ≤ pN K) : c_call (d + 4) 204 [jR 109, jI x, jI p] (hH L m) = some (some (jL (wsB K U x p x / cD U x)), hH L m) := by
  have n := vG_n w
  have hN := ou.1
  have k1 := w.2.2.1
  have kd := v.2.1 x hx
  simp only [Nat.reduceAdd] at kd
  have rd := ou.2.1 x hx
  have a := L204a (d := d) (L := L) w v ou hx hp (pR K) 0 (by omega)
  have b := L204b (d := d) (L := L) w v ou hT hx hp x 0 (by omega)
  rw [wsA] at a
  rw [wsB] at b
  clear hT
  have wr := wsB_r K U x p x
  rw [E204, T204_0, show (some (jI 0) : Option j_V) = some (jI ((0 : Nat) : Int)) from rfl, a, T204_5, if_neg (by omega), show (some (jI 0) : Option j_V) = some (jI ((0 : Nat) : Int)) from rfl, b, T204_68, if_neg (by omega), if_pos (by omega), Int.toNat_natCast, kd, show c_call (d + 3) 265 _ (hH L m) = _ from Q265w (d := d + 2) wr.1 wr.2 (by omega) (by omega)]
  simp only [Option.bind_some, Option.toList_some, List.cons_append, List.nil_append]
  rw [T204_122]
theorem L205 {d L : Nat} {K : PK} {U : CU} {m : j_M0} (w : vG K m) (v : uM 115 (pN K) U m) (ou : cOK (pN K) U) (hT : m 115 18 ≠ 0) {x : Nat} (hx : x < cN U) {Q : Prop} : ∀ j p : Nat, p + j = pN K + 1 → ∀ f : Int, fl f (Q ∧ ∀ q : Nat, q < p → prF K U x q) → ∃ f', j_fin (c_call (d + 4)) 205 14 [some (jR 109), some (jI x), some (jI f), some (jI p)] [] (hH L m) = some (some (jI f'), hH L m) ∧ fl f' (Q ∧ ∀ q : Nat, q ≤ pN K → prF K U x q) := by
  have n := vG_n w
  have hN := ou.1
  have k0 := w.2.1
  intro j
  induction j with
  | zero =>
    intro p hp f hf
    rw [T205_14, Q151, k0]
    simp only [Option.bind_some, Option.toList_some, List.cons_append, List.nil_append]
    rw [T205_19, if_pos (by omega)]
    have hf2 : fl f (Q ∧ ∀ q : Nat, q ≤ pN K → prF K U x q) := fl_w hf ⟨fun h => ⟨h.1, fun q hq => h.2 q (by omega)⟩, fun h => ⟨h.1, fun q hq => h.2 q (by omega)⟩⟩
    rcases hf with ⟨rfl, h⟩ | ⟨rfl, h⟩
    · rw [if_neg (by decide)]
      exact ⟨1, rfl, hf2⟩
    · rw [if_pos rfl]
      exact ⟨0, rfl, hf2⟩
  | succ j ih =>
    intro p hp f hf
    have q := Q202 (d := d + 1) (L := L) (x := (x : Int)) (y := (p : Int)) hT v hN (by omega) k0
    have q4 := Q204 (d := d) (L := L) w v ou hT hx (show p ≤ pN K by omega)
    clear hT
    rw [if_pos (by omega), Int.toNat_natCast, Int.toNat_natCast] at q
    rw [T205_14, Q151, k0]
    simp only [Option.bind_some, Option.toList_some, List.cons_append, List.nil_append]
    rw [T205_19, if_neg (by omega), q4]
    simp only [Option.bind_some, Option.toList_some, List.cons_append, List.nil_append]
    rw [T205_29, show c_call (d + 4) 202 _ _ = _ from q]
    simp only [Option.bind_some, Option.toList_some, List.cons_append, List.nil_append]
    rw [T205_35, nat1 (by omega)]
    simp only [cmp_eq]
    by_cases e : wsB K U x p x / cD U x = cF U x p
    · have h1 := fl_and (q := True) hf
      rw [bI_t trivial] at h1
      rw [if_pos e]
      exact ih (p + 1) (by omega) _ (fl_w h1 ⟨fun h => ⟨h.1.1, fun q hq => by
        by_cases e2 : q = p
        · subst e2; exact e
        · exact h.1.2 q (by omega)⟩, fun h => ⟨⟨h.1, fun q hq => h.2 q (by omega)⟩, trivial⟩⟩)
    · have h1 := fl_and (q := False) hf
      rw [bI_f (fun h => h)] at h1
      rw [if_neg e]
      exact ih (p + 1) (by omega) _ (fl_w h1 ⟨fun h => h.2.elim, fun h => (e (h.2 p (by omega))).elim⟩)
theorem fl_u {a b : Int} {p q : Prop} (h : fl a p) (h' : fl b q) (e : p ↔ q) : a = b ∧ (a = 0 ∨ a = 1) := by
  rcases h with ⟨rfl, h⟩ | ⟨rfl, h⟩
  · rcases h' with ⟨rfl, h'⟩ | ⟨rfl, h'⟩
    · exact ⟨rfl, Or.inr rfl⟩
    · exact absurd (e.mp h) h'
  · rcases h' with ⟨rfl, h'⟩ | ⟨rfl, h'⟩
    · exact absurd (e.mpr h') h
    · exact ⟨rfl, Or.inl rfl⟩
theorem PA104 {L : Nat} {xs : Nat → Int32} {m : j_M0} (w : Rel xs m) (x : Int) : PA L xs 104 205 [jI x] m := by
  have n := Rel_n w
  rcases w.2.2.2.2.2.1 with ⟨t1, t2⟩ | ⟨t1, t2, s, T, U, t3⟩
  · exact PA_r w (v := jI (-1)) ((E104 (d := 9)).trans (by rw [T104_0, Q137n t1]; simp only [Option.bind_some, Option.toList_some, List.cons_append, List.nil_append]; rw [T104_5, if_pos rfl])) ((E205 (d := 9)).trans (by rw [T205_0, Q201n t2]; simp only [Option.bind_some, Option.toList_some, List.cons_append, List.nil_append]; rw [T205_5, if_pos rfl]))
  · have ou := t3.1.2.2.1
    have u1 := t3.2.2.2.1
    have u2 := t3.2.2.2.2.1
    have hN := ou.1
    have q1 : c_call 9 137 [jR 2, jI x] (hH L m) = _ := Q137t (d := 8) (by omega) u1
    have q2 : c_call 9 201 [jR 109, jI x] (hH L m) = _ := Q201t (d := 7) (by omega) u2 hN
    by_cases g1 : 0 ≤ x ∧ x < (cN U : Int)
    · obtain ⟨k, rfl⟩ : ∃ k : Nat, x = k := ⟨_, (Int.toNat_of_nonneg (by omega)).symm⟩
      have wP := Rel_vP w
      have wG := Rel_vG w
      have rd := ou.2.1 k (by omega)
      have kd := u1.2.1 k (by omega)
      simp only [Nat.reduceAdd] at kd
      obtain ⟨f, h1, h2⟩ := L6 (d := 6) (L := L) (K := pkG (m 110)) (x := k) wP u1 ou (by omega) (pN (pkG (m 110)) + 1) 0 (by omega) none none
      obtain ⟨f2, h3, h4⟩ := L205 (d := 5) (L := L) (K := pkG (m 110)) (x := k) (Q := True) wG u2 ou (by omega) (by omega) (pN (pkG (m 110)) + 1) 0 (by omega) 1 (Or.inl ⟨rfl, trivial, fun q hq => absurd hq (Nat.not_lt_zero q)⟩)
      obtain ⟨rfl, e2⟩ := fl_u h2 h4 ⟨fun h => ⟨trivial, fun q hq => h q (Nat.zero_le q) hq⟩, fun h q _ hq => h.2 q hq⟩
      refine PA_r w (v := jI f) ((E104 (d := 9)).trans ?_) ((E205 (d := 9)).trans ?_)
      · have e6 : c_call 9 6 [jR 50, jI k, jR 4] (hH L m) = some (some (jI f), hH L m) := by
          refine (E6 (d := 8)).trans ?_
          rw [T6_0, if_pos (by omega), Int.toNat_natCast, kd]
          simp only [cmp_gt]
          rw [if_pos (by omega)]
          exact h1
        rw [T104_0, q1]
        simp only [Option.bind_some, Option.toList_some, List.cons_append, List.nil_append]
        rw [bI_t g1, T104_5, if_neg (by decide), e6]
        simp only [Option.bind_some, Option.toList_some, List.cons_append, List.nil_append]
        rw [T104_28]
        rcases e2 with rfl | rfl
        · rw [if_pos rfl]
        · rw [if_neg (by decide)]
      · rw [T205_0, q2]
        simp only [Option.bind_some, Option.toList_some, List.cons_append, List.nil_append]
        rw [bI_t g1, T205_5, if_neg (by decide)]
        exact h3
    · refine PA_r w (v := jI (-1)) ((E104 (d := 9)).trans ?_) ((E205 (d := 9)).trans ?_)
      · rw [T104_0, q1]
        simp only [Option.bind_some, Option.toList_some, List.cons_append, List.nil_append]
        rw [bI_f g1, T104_5, if_pos rfl]
      · rw [T205_0, q2]
        simp only [Option.bind_some, Option.toList_some, List.cons_append, List.nil_append]
        rw [bI_f g1, T205_5, if_pos rfl]
