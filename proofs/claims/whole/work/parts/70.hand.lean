/-! Cuts by hand, mean, ruleOf, count. -/
/-! cuts by hand -/
def hsF (g : Nat → Int) (p : Nat) : Nat → Int
  | 0 => 0
  | r + 1 => hsF g p r + g (68 + r) * pF (pkG g) r p
def haF (g : Nat → Int) (p : Nat) : Int := hsF g p (g 1).toNat / g 2
theorem hsF_s {g : Nat → Int} (h : gR g) (hx : gX g) {p r : Nat} (hp : (p : Int) ≤ g 0) (hr : (r : Int) < g 1) : -8991 ≤ g (68 + r) * pF (pkG g) r p ∧ g (68 + r) * pF (pkG g) r p ≤ 8991 := by
  have h4 := h.2.2.2.1
  have a := hx.1 r (by omega)
  have b : -999 ≤ pF (pkG g) r p ∧ pF (pkG g) r p ≤ 999 := by
    have c1 := h.2.2.2.2.2.1 r (by omega)
    have h0 := h.1
    have h5 := h.2.1
    unfold pF
    split
    · show -999 ≤ (if g (12 + 7 * r) = 0 then -(g (13 + 7 * r)) else g (13 + 7 * r)) ∧ (if g (12 + 7 * r) = 0 then -(g (13 + 7 * r)) else g (13 + 7 * r)) ≤ 999
      split <;> omega
    · rename_i e
      replace e : ¬ p = (g 0).toNat := e
      have c2 := h.2.2.2.2.2.2 r p (by omega) (by omega)
      show -999 ≤ (if g (12 + 7 * r) = 0 then -(g (14 + 7 * r + p)) else g (14 + 7 * r + p)) ∧ (if g (12 + 7 * r) = 0 then -(g (14 + 7 * r + p)) else g (14 + 7 * r + p)) ≤ 999
      split <;> omega
  have := mul_r (x := g (68 + r)) (y := pF (pkG g) r p) (a := 9) (b := 999) (by omega) (by omega) (by omega) (by omega)
  omega
theorem hsF_r {g : Nat → Int} (h : gR g) (hx : gX g) {p : Nat} (hp : (p : Int) ≤ g 0) : ∀ r : Nat, (r : Int) ≤ g 1 → -8991 * (r : Int) ≤ hsF g p r ∧ hsF g p r ≤ 8991 * (r : Int) := by
  intro r
  induction r with
  | zero => intro _; unfold hsF; omega
  | succ r ih =>
    intro hr
    have a := ih (by omega)
    have b := hsF_s h hx hp (r := r) (by omega)
    unfold hsF
    omega
theorem haF_r {g : Nat → Int} (h : gR g) (hx : gX g) {p : Nat} (hp : (p : Int) ≤ g 0) : -100000 ≤ haF g p ∧ haF g p ≤ 100000 := by
  have h3 := h.2.2.1
  have h4 := h.2.2.2.1
  have a := hsF_r h hx hp (g 1).toNat (by omega)
  have b := hx.2.1
  have c := ed_n (x := hsF g p (g 1).toNat) (y := g 2) (b := 100000) (by omega) (by omega) (by omega)
  unfold haF
  omega
theorem L36 {d L : Nat} {xs : Nat → Int32} {m : j_M0} (w : Rel xs m) {p : Nat} (hp : (p : Int) ≤ m 110 0) : ∀ j k : Nat, ((k + j : Nat) : Int) = m 110 1 → j_fin (c_call (d + 2)) 36 4 [some (jR 3), some (jI p), some (jI (hsF (m 110) p k)), some (jI k)] [] (hH L m) = some (some (jL (haF (m 110) p)), hH L m) := by
  have n := Rel_n w
  have hg := w.2.1
  have hx := w.2.2.1
  have wP := Rel_vP w
  have k3 : m 3 3 = m 110 2 := w.2.2.2.1.2.2.2.1
  have hy := hx.2.1
  intro j
  induction j with
  | zero =>
    intro k hk
    have a := hsF_r hg hx hp k (by omega)
    rw [T36_4, if_neg (by omega), if_pos (by omega), k3, show c_call (d + 2) 263 _ (hH L m) = _ from Q263 (d := d + 1) (x := hsF (m 110) p k) (y := m 110 2) (by omega) (by omega) (by omega) (by omega)]
    simp only [Option.bind_some, Option.toList_some, List.cons_append, List.nil_append]
    rw [T36_55]
    unfold haF
    rw [show (m 110 1).toNat = k by omega]
  | succ j ih =>
    intro k hk
    have k13 : m 13 k = m 110 (68 + k) := w.2.2.2.1.2.2.1 k (by omega)
    have a := hsF_r hg hx hp k (by omega)
    have b := hsF_s hg hx hp (r := k) (by omega)
    have this := ih (k + 1) (by omega)
    rw [hsF] at this
    have q : c_call (d + 2) 13 [jR 4, jI k, jI p] (hH L m) = some (some (jI (pF (pkG (m 110)) k p)), hH L m) := Q13f_4 wP (by
      show k < (m 110 1).toNat
      omega) (by
      show p ≤ (m 110 0).toNat
      omega)
    rw [T36_4, if_pos (by omega), if_pos (by omega), Int.toNat_natCast, k13, q]
    simp only [Option.bind_some, Option.toList_some, List.cons_append, List.nil_append]
    rw [T36_31, nat1 (by omega), w32_id (x := m 110 (68 + k) * pF (pkG (m 110)) k p) (by omega) (by omega), w32_id (by omega) (by omega)]
    exact this
theorem Q36 {d L : Nat} {xs : Nat → Int32} {m : j_M0} (w : Rel xs m) {p : Nat} (hp : (p : Int) ≤ m 110 0) : c_call (d + 3) 36 [jR 3, jI p] (hH L m) = some (some (jL (haF (m 110) p)), hH L m) := by
  have n := Rel_n w
  rw [E36, T36_0]
  exact L36 w hp (m 110 1).toNat 0 (by omega)
theorem L208 {d L : Nat} {m : j_M0} (hg : gR (m 110)) (hx : gX (m 110)) {p : Nat} (hp : (p : Int) ≤ m 110 0) : ∀ j k : Nat, ((k + j : Nat) : Int) = m 110 1 → j_fin (c_call (d + 2)) 208 23 [some (jR 109), some (jI p), some (jL (hsF (m 110) p k)), none, some (jI k)] [] (hH L m) = some (some (jL (haF (m 110) p)), hH L m) := by
  have wG := vG_of hg
  have h1 := hg.1
  have h4 := hg.2.2.2.1
  have hy := hx.2.1
  intro j
  induction j with
  | zero =>
    intro k hk
    have a := hsF_r hg hx hp k (by omega)
    rw [T208_23, if_neg (by omega), Q264 (x := hsF (m 110) p k) (y := m 110 2) (by omega) (by omega) (by omega) (by omega)]
    simp only [Option.bind_some, Option.toList_some, List.cons_append, List.nil_append]
    rw [T208_89]
    unfold haF
    rw [show (m 110 1).toNat = k by omega]
  | succ j ih =>
    intro k hk
    have a := hsF_r hg hx hp k (by omega)
    have b := hsF_s hg hx hp (r := k) (by omega)
    have this := ih (k + 1) (by omega)
    rw [hsF] at this
    have hkk : k < pR (pkG (m 110)) := by
      show k < (m 110 1).toNat
      omega
    rw [T208_23, if_pos (by omega), w32_id (by omega) (by omega), if_pos (by omega), show (68 + (k : Int)).toNat = 68 + k by omega, Q151]
    simp only [Option.bind_some, Option.toList_some, List.cons_append, List.nil_append]
    rw [T208_51]
    by_cases e : (p : Int) = m 110 0
    · have ep : p = pN (pkG (m 110)) := by
        show p = (m 110 0).toNat
        omega
      have q := QlF (d := d) (L := L) wG hkk
      rw [← ep] at q
      rw [if_pos e, q]
      simp only [Option.bind_some, Option.toList_some, List.cons_append, List.nil_append]
      rw [T208_60, T208_70, nat1 (by omega), w64_id (x := m 110 (68 + k) * pF (pkG (m 110)) k p) (by omega) (by omega), w64_id (by omega) (by omega)]
      exact this
    · rw [if_neg e, QpF (d := d) (L := L) wG hkk (show p < pN (pkG (m 110)) from by
        show p < (m 110 0).toNat
        omega)]
      simp only [Option.bind_some, Option.toList_some, List.cons_append, List.nil_append]
      rw [T208_70, nat1 (by omega), w64_id (x := m 110 (68 + k) * pF (pkG (m 110)) k p) (by omega) (by omega), w64_id (by omega) (by omega)]
      exact this
theorem Q208 {d L : Nat} {m : j_M0} (hg : gR (m 110)) (hx : gX (m 110)) {p : Nat} (hp : (p : Int) ≤ m 110 0) : c_call (d + 3) 208 [jR 109, jI p] (hH L m) = some (some (jL (haF (m 110) p)), hH L m) := by
  have h3 := hg.2.2.1
  rw [E208, T208_0, Q151]
  simp only [Option.bind_some, Option.toList_some, List.cons_append, List.nil_append]
  rw [T208_7, Q150]
  simp only [Option.bind_some, Option.toList_some, List.cons_append, List.nil_append]
  rw [bI_t (show 0 ≤ (p : Int) ∧ (p : Int) ≤ m 110 0 by omega), T208_11, if_neg (by decide)]
  exact L208 hg hx hp (m 110 1).toNat 0 (by omega)
theorem PA107 {L : Nat} {xs : Nat → Int32} {m : j_M0} (w : Rel xs m) (x : Int) : PA L xs 107 208 [jI x] m := by
  have n := Rel_n w
  by_cases g : 0 ≤ x ∧ x ≤ m 110 0
  · obtain ⟨p, rfl⟩ : ∃ p : Nat, x = p := ⟨_, (Int.toNat_of_nonneg (by omega)).symm⟩
    refine PA_r w ((E107 (d := 9)).trans ?_) (Q208 (d := 7) w.2.1 w.2.2.1 g.2)
    rw [T107_0, if_neg (by omega), if_neg (by omega), show c_call 9 36 _ (hH L m) = _ from Q36 (d := 6) w g.2]
    simp only [Option.bind_some, Option.toList_some, List.cons_append, List.nil_append]
    rw [T107_30]
  · refine PA_r w (v := jL (-9223372036854775808)) ((E107 (d := 9)).trans ?_) ((E208 (d := 9)).trans ?_)
    · rw [T107_0]
      by_cases g1 : x < 0
      · rw [if_pos g1]
      · rw [if_neg g1, if_pos (by omega)]
    · rw [T208_0, Q151]
      simp only [Option.bind_some, Option.toList_some, List.cons_append, List.nil_append]
      rw [T208_7, Q150]
      simp only [Option.bind_some, Option.toList_some, List.cons_append, List.nil_append]
      rw [bI_f g, T208_11, if_pos rfl]
/-! bites -/
def baF (g : Nat → Int) (T : TB) : Nat → Int
  | 0 => 0
  | p + 1 => w64 (baF g T p + w64 (haF g p * rightF T (p : Int)))
def biF (g : Nat → Int) (T : TB) : Int := if w64 (haF g (g 0).toNat * tD T) < baF g T (g 0).toNat then 1 else 0
theorem L108 {d L : Nat} {xs : Nat → Int32} {m : j_M0} {T : TB} (w : Rel xs m) (v : vC 41 T m) (o : tOK T) : ∀ j k : Nat, ((k + j : Nat) : Int) = m 110 0 → j_fin (c_call (d + 3)) 108 26 [some (jR 2), some (jI (m 110 0)), some (jL (baF (m 110) T k)), none, some (jI k)] [] (hH L m) = some (some (jI (biF (m 110) T)), hH L m) := by
  have n := Rel_n w
  have k4 : m 41 4 = tD T := v.2.2.2.2.1
  intro j
  induction j with
  | zero =>
    intro k hk
    have q := Q36 (d := d) (L := L) w (p := k) (by omega)
    rw [T108_26, if_neg (by omega), show m 110 0 = ((k : Nat) : Int) by omega, q]
    simp only [Option.bind_some, Option.toList_some, List.cons_append, List.nil_append]
    rw [T108_72, k4]
    simp only [cmp_gt]
    unfold biF
    rw [show (m 110 0).toNat = k by omega]
    split <;> rfl
  | succ j ih =>
    intro k hk
    have this := ih (k + 1) (by omega)
    rw [baF] at this
    rw [T108_26, if_pos (by omega), Q36 (d := d) w (p := k) (by omega)]
    simp only [Option.bind_some, Option.toList_some, List.cons_append, List.nil_append]
    rw [T108_42, show c_call (d + 3) 53 _ (hH L m) = _ from Q53_41 (d := d + 1) v o]
    simp only [Option.bind_some, Option.toList_some, List.cons_append, List.nil_append]
    rw [T108_54, nat1 (by omega)]
    exact this
theorem L209 {d L : Nat} {m : j_M0} {T : TB} (hg : gR (m 110)) (hx : gX (m 110)) (u : vM 115 T m) (o : tOK T) : ∀ j k : Nat, ((k + j : Nat) : Int) = m 110 0 → j_fin (c_call (d + 3)) 209 17 [some (jR 109), some (jL (baF (m 110) T k)), none, some (jI k)] [] (hH L m) = some (some (jI (biF (m 110) T)), hH L m) := by
  have n1 := hg.2.1
  have k4 : m 115 13 = tD T := u.2.2.2.2.1
  intro j
  induction j with
  | zero =>
    intro k hk
    have q := Q208 (d := d) (L := L) hg hx (p := k) (by omega)
    rw [T209_17, Q151]
    simp only [Option.bind_some, Option.toList_some, List.cons_append, List.nil_append]
    rw [T209_22, if_neg (by omega), Q151]
    simp only [Option.bind_some, Option.toList_some, List.cons_append, List.nil_append]
    rw [T209_55, show m 110 0 = ((k : Nat) : Int) by omega, q]
    simp only [Option.bind_some, Option.toList_some, List.cons_append, List.nil_append]
    rw [T209_58, k4]
    simp only [cmp_gt]
    unfold biF
    rw [show (m 110 0).toNat = k by omega]
    split <;> rfl
  | succ j ih =>
    intro k hk
    have this := ih (k + 1) (by omega)
    rw [baF] at this
    rw [T209_17, Q151]
    simp only [Option.bind_some, Option.toList_some, List.cons_append, List.nil_append]
    rw [T209_22, if_pos (by omega), Q208 (d := d) hg hx (p := k) (by omega)]
    simp only [Option.bind_some, Option.toList_some, List.cons_append, List.nil_append]
    rw [T209_31, show c_call (d + 3) 197 _ (hH L m) = _ from Q197_115 (d := d + 1) u o]
    simp only [Option.bind_some, Option.toList_some, List.cons_append, List.nil_append]
    rw [T209_40, nat1 (by omega)]
    exact this
theorem PA108 {L : Nat} {xs : Nat → Int32} {m : j_M0} (w : Rel xs m) : PA L xs 108 209 [] m := by
  have n := Rel_n w
  rcases w.2.2.2.2.2.1 with ⟨t1, t2⟩ | ⟨t1, t2, s, T, U, t3⟩
  · exact PA_r w (v := jI (-3)) ((E108 (d := 9)).trans (by rw [T108_0, if_pos t1])) ((E209 (d := 9)).trans (by rw [T209_0, if_pos t2]))
  · refine PA_r w (v := jI (biF (m 110) T)) ((E108 (d := 9)).trans ?_) ((E209 (d := 9)).trans ?_)
    · rw [T108_0, if_neg (by omega), n.2.2.2.2.1]
      exact L108 (d := 6) w t3.2.1 t3.1.1 (m 110 0).toNat 0 (by omega)
    · rw [T209_0, if_neg (by omega)]
      exact L209 (d := 6) w.2.1 w.2.2.1 t3.2.2.1 t3.1.1 (m 110 0).toNat 0 (by omega)
/-! mean -/
def meS (g : Nat → Int) : Nat → Int
  | 0 => 0
  | p + 1 => meS g p + g (7 + p)
theorem meS_r {g : Nat → Int} (h : gR g) : ∀ p : Nat, p ≤ 5 → 0 ≤ meS g p ∧ meS g p ≤ 99 * (p : Int) := by
  intro p
  induction p with
  | zero => intro _; unfold meS; omega
  | succ p ih =>
    intro hp
    have a := ih (by omega)
    have b := h.2.2.2.2.1 p (by omega)
    unfold meS
    omega
theorem L119 {d L : Nat} {xs : Nat → Int32} {m : j_M0} {p : Int} (w : Rel xs m) : ∀ j k : Nat, ((k + j : Nat) : Int) = m 110 0 → j_fin (c_call (d + 2)) 119 15 [some (jR 2), some (jI p), some (jI (meS (m 110) k)), some (jI k)] [] (hH L m) = some (some (jL (lwF (meS (m 110) (m 110 0).toNat) (m 110 0) p)), hH L m) := by
  have n := Rel_n w
  intro j
  induction j with
  | zero =>
    intro k hk
    have a := meS_r w.2.1 k (by omega)
    rw [T119_15, if_neg (by omega), n.2.2.2.2.1, Q146 (by omega) (by omega) (by omega) (by omega)]
    simp only [Option.bind_some, Option.toList_some, List.cons_append, List.nil_append]
    rw [T119_67, show (m 110 0).toNat = k by omega]
  | succ j ih =>
    intro k hk
    have a := meS_r w.2.1 k (by omega)
    have b := w.2.1.2.2.2.2.1 k (by omega)
    have c : m 5 k = m 110 (7 + k) := w.2.2.2.1.1.2.2.2.1 k (by omega)
    have this := ih (k + 1) (by omega)
    rw [meS] at this
    rw [T119_15, if_pos (by omega), if_pos (by omega), Int.toNat_natCast, c, nat1 (by omega), w32_id (by omega) (by omega)]
    exact this
theorem L236 {d L : Nat} {m : j_M0} {p : Int} (w : gR (m 110)) : ∀ j k : Nat, ((k + j : Nat) : Int) = m 110 0 → j_fin (c_call (d + 1)) 236 15 [some (jR 109), some (jI p), some (jI (meS (m 110) k)), some (jI k)] [] (hH L m) = some (some (jL (lwF (meS (m 110) (m 110 0).toNat) (m 110 0) p)), hH L m) := by
  have n1 := w.1
  have n2 := w.2.1
  intro j
  induction j with
  | zero =>
    intro k hk
    have a := meS_r w k (by omega)
    rw [T236_15, Q151]
    simp only [Option.bind_some, Option.toList_some, List.cons_append, List.nil_append]
    rw [T236_20, if_neg (by omega), Q151]
    simp only [Option.bind_some, Option.toList_some, List.cons_append, List.nil_append]
    rw [T236_47, Q195 (by omega) (by omega) (by omega) (by omega)]
    simp only [Option.bind_some, Option.toList_some, List.cons_append, List.nil_append]
    rw [T236_52, show (m 110 0).toNat = k by omega]
  | succ j ih =>
    intro k hk
    have a := meS_r w k (by omega)
    have b := w.2.2.2.2.1 k (by omega)
    have this := ih (k + 1) (by omega)
    rw [meS] at this
    rw [T236_15, Q151]
    simp only [Option.bind_some, Option.toList_some, List.cons_append, List.nil_append]
    rw [T236_20, if_pos (by omega), w32_id (x := 7 + (k : Int)) (by omega) (by omega), if_pos (by omega), show (7 + (k : Int)).toNat = 7 + k by omega, nat1 (by omega), w32_id (by omega) (by omega)]
    exact this
theorem PA119 {L : Nat} {xs : Nat → Int32} {m : j_M0} (w : Rel xs m) (p : Int) : PA L xs 119 236 [jI p] m := by
  have n := Rel_n w
  by_cases g : p = 0 ∨ p = 1
  · refine PA_r w (v := jL (lwF (meS (m 110) (m 110 0).toNat) (m 110 0) p)) ((E119 (d := 9)).trans ?_) ((E236 (d := 9)).trans ?_)
    · rw [T119_0, Q141]
      simp only [Option.bind_some, Option.toList_some, List.cons_append, List.nil_append]
      rw [bI_t g, T119_4, if_neg (by decide)]
      exact L119 (d := 7) w (m 110 0).toNat 0 (by omega)
    · rw [T236_0, Q196]
      simp only [Option.bind_some, Option.toList_some, List.cons_append, List.nil_append]
      rw [bI_t g, T236_4, if_neg (by decide)]
      exact L236 (d := 8) w.2.1 (m 110 0).toNat 0 (by omega)
  · refine PA_r w (v := jL (-9223372036854775808)) ((E119 (d := 9)).trans ?_) ((E236 (d := 9)).trans ?_)
    · rw [T119_0, Q141]
      simp only [Option.bind_some, Option.toList_some, List.cons_append, List.nil_append]
      rw [bI_f g, T119_4, if_pos rfl]
    · rw [T236_0, Q196]
      simp only [Option.bind_some, Option.toList_some, List.cons_append, List.nil_append]
      rw [bI_f g, T236_4, if_pos rfl]
/-! ruleOf -/
theorem PA96 {L : Nat} {xs : Nat → Int32} {m : j_M0} (w : Rel xs m) (x y : Int) : PA L xs 96 166 [jI x, jI y] m := by
  have n := Rel_n w
  have q1 : c_call 9 136 [jR 2, jI x] (hH L m) = some (some (jI (bI (0 ≤ x ∧ x < m 110 1))), hH L m) := by
    rw [← n.2.2.2.2.2]
    exact Q136 (d := 8)
  have q2 : c_call 9 153 [jR 109, jI x] (hH L m) = some (some (jI (bI (0 ≤ x ∧ x < m 110 1))), hH L m) := Q153 (d := 7) (by omega)
  by_cases g1 : 0 ≤ x ∧ x < m 110 1
  · by_cases g2 : 0 ≤ y ∧ y ≤ m 110 0 + 1
    · obtain ⟨r, rfl⟩ : ∃ r : Nat, x = r := ⟨_, (Int.toNat_of_nonneg (by omega)).symm⟩
      obtain ⟨k, rfl⟩ : ∃ k : Nat, y = k := ⟨_, (Int.toNat_of_nonneg (by omega)).symm⟩
      have e1 : m 6 r = m 110 (12 + 7 * r) ∧ m 7 r = m 110 (13 + 7 * r) := w.2.2.2.1.1.2.2.2.2.1 r (by omega)
      have r1 := w.2.1.2.2.2.2.2.1 r (by omega)
      have rg : -99 ≤ m 110 (12 + 7 * r + k) ∧ m 110 (12 + 7 * r + k) ≤ 999 := by
        rcases Nat.lt_or_ge k 2 with h | h
        · rcases Nat.lt_or_ge k 1 with h' | h'
          · rw [show 12 + 7 * r + k = 12 + 7 * r by omega]; omega
          · rw [show 12 + 7 * r + k = 13 + 7 * r by omega]; omega
        · have := w.2.1.2.2.2.2.2.2 r (k - 2) (by omega) (by omega)
          rw [show 14 + 7 * r + (k - 2) = 12 + 7 * r + k by omega] at this
          omega
      refine PA_r w (v := jI (1000 + m 110 (12 + 7 * r + k))) ((E96 (d := 9)).trans ?_) ((E166 (d := 9)).trans ?_)
      · rw [T96_0, q1]
        simp only [Option.bind_some, Option.toList_some, List.cons_append, List.nil_append]
        rw [bI_t g1, T96_5, if_neg (by decide), if_neg (by omega), n.2.2.2.2.1, w32_id (x := m 110 0 + 1) (by omega) (by omega), if_neg (by omega)]
        by_cases a1 : (k : Int) = 0
        · rw [if_pos a1, if_pos (by omega), Int.toNat_natCast, e1.1, w32_id (by omega) (by omega), show 12 + 7 * r + k = 12 + 7 * r by omega, Int.add_comm]
        · rw [if_neg a1]
          by_cases a2 : (k : Int) = 1
          · rw [if_pos a2, if_pos (by omega), Int.toNat_natCast, e1.2, w32_id (by omega) (by omega), show 12 + 7 * r + k = 13 + 7 * r by omega, Int.add_comm]
          · have e2 : m 8 (5 * r + (k - 2)) = m 110 (14 + 7 * r + (k - 2)) := w.2.2.2.1.1.2.2.2.2.2 r (k - 2) (by omega) (by omega)
            rw [if_neg a2, w32_id (x := (k : Int) - 2) (by omega) (by omega), Q11_4 (d := 8) (x := (r : Int)) (p := (k : Int) - 2) (by omega) (by omega) (by omega) (by omega), Int.toNat_natCast, show ((k : Int) - 2).toNat = k - 2 by omega, e2, show 14 + 7 * r + (k - 2) = 12 + 7 * r + k by omega]
            simp only [Option.bind_some, Option.toList_some, List.cons_append, List.nil_append]
            rw [T96_87, w32_id (by omega) (by omega), Int.add_comm]
      · rw [T166_0, q2]
        simp only [Option.bind_some, Option.toList_some, List.cons_append, List.nil_append]
        rw [bI_t g1, T166_5, if_neg (by decide), Q151]
        simp only [Option.bind_some, Option.toList_some, List.cons_append, List.nil_append]
        rw [T166_16, Int.add_comm 1 (m 110 0), w32_id (x := m 110 0 + 1) (by omega) (by omega), Q150]
        simp only [Option.bind_some, Option.toList_some, List.cons_append, List.nil_append]
        rw [bI_t g2, T166_21, if_neg (by decide), w32_id (x := 7 * (r : Int)) (by omega) (by omega), w32_id (x := 12 + 7 * (r : Int)) (by omega) (by omega), w32_id (x := 12 + 7 * (r : Int) + (k : Int)) (by omega) (by omega), if_pos (by omega), show (12 + 7 * (r : Int) + (k : Int)).toNat = 12 + 7 * r + k by omega, w32_id (by omega) (by omega)]
    · refine PA_r w (v := jI (-1)) ((E96 (d := 9)).trans ?_) ((E166 (d := 9)).trans ?_)
      · rw [T96_0, q1]
        simp only [Option.bind_some, Option.toList_some, List.cons_append, List.nil_append]
        rw [bI_t g1, T96_5, if_neg (by decide), n.2.2.2.2.1, w32_id (x := m 110 0 + 1) (by omega) (by omega)]
        by_cases a1 : y < 0
        · rw [if_pos a1]
        · rw [if_neg a1, if_pos (by omega)]
      · rw [T166_0, q2]
        simp only [Option.bind_some, Option.toList_some, List.cons_append, List.nil_append]
        rw [bI_t g1, T166_5, if_neg (by decide), Q151]
        simp only [Option.bind_some, Option.toList_some, List.cons_append, List.nil_append]
        rw [T166_16, Int.add_comm 1 (m 110 0), w32_id (x := m 110 0 + 1) (by omega) (by omega), Q150]
        simp only [Option.bind_some, Option.toList_some, List.cons_append, List.nil_append]
        rw [bI_f g2, T166_21, if_pos rfl]
  · refine PA_r w (v := jI (-1)) ((E96 (d := 9)).trans ?_) ((E166 (d := 9)).trans ?_)
    · rw [T96_0, q1]
      simp only [Option.bind_some, Option.toList_some, List.cons_append, List.nil_append]
      rw [bI_f g1, T96_5, if_pos rfl]
    · rw [T166_0, q2]
      simp only [Option.bind_some, Option.toList_some, List.cons_append, List.nil_append]
      rw [bI_f g1, T166_5, if_pos rfl]
/-! count -/
theorem PA130 {L : Nat} {xs : Nat → Int32} {m : j_M0} (w : Rel xs m) (x : Int) : PA L xs 130 257 [jI x] m := by
  have n := Rel_n w
  have e5 : m 3 5 = m 110 4 := w.2.2.2.1.2.2.2.2.2.1
  have e8 : m 3 8 = m 110 5 := w.2.2.2.1.2.2.2.2.2.2.2.1
  have e4 : m 3 4 = m 110 3 := w.2.2.2.1.2.2.2.2.1
  have e9 : m 9 0 = m 110 6 := w.2.2.2.1.2.1.1
  have e93 : m 93 0 = m 109 6 := w.2.2.2.2.2.2.1.1
  have e2 : m 2 11 = m 115 18 ∧ (m 2 11 ≠ 0 → m 41 0 = m 115 15 ∧ m 50 0 = m 115 16 ∧ m 41 2 = m 115 17) := by
    rcases w.2.2.2.2.2.1 with ⟨t1, t2⟩ | ⟨t1, t2, s, T, U, t3⟩
    · exact ⟨by omega, fun h => absurd t1 h⟩
    · exact ⟨by omega, fun _ => ⟨t3.2.1.1.trans t3.2.2.1.1.symm, t3.2.2.2.1.1.trans t3.2.2.2.2.1.1.symm, t3.2.1.2.2.1.trans t3.2.2.1.2.2.1.symm⟩⟩
  have h1 := (E130 (d := 9) (h := hH L m) (x1 := x)).trans T130_0
  have h2 := (E257 (d := 9) (h := hH L m) (x1 := x)).trans T257_0
  simp only [Q151, Option.bind_some, Option.toList_some, List.cons_append, List.nil_append, T257_68] at h2
  rw [n.2.2.2.2.1, n.2.2.2.2.2, e5, e8, e4, e9, e93, e2.1] at h1
  obtain ⟨v, hv⟩ : ∃ v : Int, c_call 10 130 [jR 2, jI x] (hH L m) = some (some (jI v), hH L m) ∧ c_call 10 257 [jR 109, jI x] (hH L m) = some (some (jI v), hH L m) := by
    have h1' : c_call 10 130 [jR 2, jI x] (hH L m) = _ := h1
    have h2' : c_call 10 257 [jR 109, jI x] (hH L m) = _ := h2
    rw [h1', h2']
    have e3 := e2.2
    rw [e2.1] at e3
    clear h1 h2 h1' h2' e2 e5 e8 e4 e9 e93 n w
    refine ⟨if x = 0 then m 110 0 else if x = 1 then m 110 1 else if x = 2 then (if m 115 18 = 0 then 0 else m 115 15) else if x = 3 then (if m 115 18 = 0 then 0 else m 115 16) else if x = 4 then (if m 115 18 = 0 then 0 else m 115 17) else if x = 5 then m 110 4 else if x = 6 then m 110 5 else if x = 7 then m 110 6 else if x = 8 then m 109 6 else if x = 9 then m 110 3 else -2, ?_, ?_⟩
    · grind (splits := 30)
    · grind (splits := 30)
  exact PA_r w hv.1 hv.2
