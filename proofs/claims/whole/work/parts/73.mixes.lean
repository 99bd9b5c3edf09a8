/-! The model's mixes; many. -/
/-- the model's mix -/
def mxR (n : Nat) (δ : Nat → Int) (m : j_M0) : Prop := ∀ p : Nat, p < n → m 141 p = δ p
theorem L212 {C : Nat → List j_V → j_H → Option j_Z} {L n : Nat} {δ : Nat → Int} {x : Int} (hn : n ≤ 5) (hδ : d9 n δ) : ∀ (j : Nat) (m : j_M0), j ≤ n → (∀ q : Nat, j ≤ q → q < n → m 141 q = δ q) → ∃ m', j_fin C 212 9 [some (jR 109), some (jI x), some (jI (horF 10 δ j)), some (jI ((j : Int) - 1))] [] (hH L m) = some (none, hH L m') ∧ kpt (fun b _ => b = 141) m m' ∧ mxR n δ m' := by
  intro j
  induction j with
  | zero =>
    intro m hj h
    rw [T212_9, if_pos (by omega)]
    exact ⟨m, rfl, kpt_rfl, fun q hq => h q (Nat.zero_le q) hq⟩
  | succ j ih =>
    intro m hj h
    have a := horF_r (δ := δ) j (fun q hq => hδ q (by omega))
    have t := tenF_r j (by omega)
    have b := hδ j (by omega)
    have e0 : ((j + 1 : Nat) : Int) - 1 = (j : Int) := by omega
    have e1 : (horF 10 δ (j + 1)).tmod 10 = δ j := by
      show (horF 10 δ j * 10 + δ j).tmod 10 = δ j
      rw [Int.tmod_eq_emod_of_nonneg (by omega)]
      omega
    have e2 : (horF 10 δ (j + 1)).tdiv 10 = horF 10 δ j := by
      show (horF 10 δ j * 10 + δ j).tdiv 10 = horF 10 δ j
      rw [← fd_0 (by decide) (by omega)]
      omega
    rw [e0, T212_9, if_neg (by omega), if_pos (by omega), Int.toNat_natCast, e1, e2, w32_id (x := horF 10 δ j) (by omega) (by omega), w32_id (by omega) (by omega), show (j : Int) + (-1) = (j : Int) - 1 by omega]
    obtain ⟨m', t1, t2, t3⟩ := ih (j_up m 141 j (δ j)) (by omega) (fun q hq hq2 => by
      rw [up_at]
      by_cases e : q = j
      · subst e; rw [if_pos rfl]
      · rw [if_neg e]; exact h q (by omega) hq2)
    exact ⟨m', t1, kpt_tr (kpt_up rfl) t2, t3⟩
theorem Q212 {d L n : Nat} {δ : Nat → Int} {m : j_M0} (h0 : m 110 0 = n) (hn : n ≤ 5) (hδ : d9 n δ) : ∃ m', c_call (d + 2) 212 [jR 109, jI (horF 10 δ n)] (hH L m) = some (none, hH L m') ∧ kpt (fun b _ => b = 141) m m' ∧ mxR n δ m' := by
  rw [E212, T212_0, Q151]
  simp only [Option.bind_some, Option.toList_some, List.cons_append, List.nil_append]
  rw [T212_6, h0, w32_id (by omega) (by omega)]
  exact L212 hn hδ n m (Nat.le_refl n) (fun q h h' => by omega)
theorem L213 {d L : Nat} {K : PK} {δ : Nat → Int} {x : Int} {m : j_M0} (w : vG K m) (ok : pOK K) (hδ : d9 (pN K) δ) (hm : mxR (pN K) δ m) : ∀ j k : Nat, k + j = pN K → j_fin (c_call (d + 1)) 213 9 [some (jR 109), some (jI x), some (jI (cstF (pC K) δ k)), some (jI k)] [] (hH L m) = some (some (jI (cstF (pC K) δ (pN K))), hH L m) := by
  have n5 := ok.2.1
  have k0 := w.2.1
  intro j
  induction j with
  | zero =>
    intro k hk
    rw [T213_9, Q151]
    simp only [Option.bind_some, Option.toList_some, List.cons_append, List.nil_append]
    rw [T213_14, if_neg (by omega), show k = pN K by omega]
  | succ j ih =>
    intro k hk
    have kc := w.2.2.2.1 k (by omega)
    have rc := ok.2.2.2.1 k (by omega)
    have h9 := hδ k (by omega)
    have hk1 := hm k (by omega)
    have g := mul_r (x := pC K k) (y := δ k) (a := 99) (b := 9) (by omega) (by omega) (by omega) (by omega)
    have c := cstF_r (c := pC K) (δ := δ) (M := 99) k (fun q hq => ⟨hδ q (by omega), by have := ok.2.2.2.1 q (by omega); omega⟩)
    have this := ih (k + 1) (by omega)
    rw [cstF, Int.mul_comm (δ k)] at this
    rw [T213_9, Q151]
    simp only [Option.bind_some, Option.toList_some, List.cons_append, List.nil_append]
    rw [T213_14, if_pos (by omega), w32_id (x := 7 + (k : Int)) (by omega) (by omega), if_pos (by omega), if_pos (by omega), show (7 + (k : Int)).toNat = 7 + k by omega, Int.toNat_natCast, kc, hk1, nat1 (by omega), w32_id (x := pC K k * δ k) (by omega) (by omega), w32_id (by omega) (by omega)]
    exact this
theorem Q213 {d L : Nat} {K : PK} {δ : Nat → Int} {m : j_M0} (w : vG K m) (ok : pOK K) (hδ : d9 (pN K) δ) : ∃ m', c_call (d + 3) 213 [jR 109, jI (horF 10 δ (pN K))] (hH L m) = some (some (jI (cstF (pC K) δ (pN K))), hH L m') ∧ kpt (fun b _ => b = 141) m m' ∧ mxR (pN K) δ m' := by
  obtain ⟨m1, q1, q2, q3⟩ := Q212 (d := d) (L := L) w.2.1 ok.2.1 hδ
  rw [E213, T213_0, q1]
  simp only [Option.bind_some, Option.toList_some, List.cons_append, List.nil_append, Option.toList_none]
  rw [T213_5]
  refine ⟨m1, ?_, q2, q3⟩
  exact L213 (d := d + 1) (vG_k w (fun z => kpt_at q2 (by omega))) ok hδ q3 (pN K) 0 (by omega)
theorem L214 {d L : Nat} {K : PK} {δ : Nat → Int} {m : j_M0} (w : vG K m) (ok : pOK K) (hδ : d9 (pN K) δ) (hm : mxR (pN K) δ m) {r : Nat} (hr : r < pR K) : ∀ j k : Nat, k + j = pN K → j_fin (c_call (d + 2)) 214 5 [some (jR 109), some (jI r), some (jL (cstF (pF K r) δ k)), none, some (jI k)] [] (hH L m) = some (some (jI (if pF K r (pN K) < cstF (pF K r) δ (pN K) then 1 else 0)), hH L m) := by
  have n5 := ok.2.1
  have k0 := w.2.1
  intro j
  induction j with
  | zero =>
    intro k hk
    rw [T214_5, Q151]
    simp only [Option.bind_some, Option.toList_some, List.cons_append, List.nil_append]
    rw [T214_11, if_neg (by omega), QlF w hr]
    simp only [Option.bind_some, Option.toList_some, List.cons_append, List.nil_append]
    rw [T214_45, show k = pN K by omega]
    simp only [cmp_gt]
    split <;> rfl
  | succ j ih =>
    intro k hk
    have h9 := hδ k (by omega)
    have hk1 := hm k (by omega)
    have f := pF_r ok hr (p := k) (by omega)
    have g := mul_r (x := pF K r k) (y := δ k) (a := 999) (b := 9) (by omega) (by omega) (by omega) (by omega)
    have c := cstF_r (c := pF K r) (δ := δ) (M := 999) k (fun q hq => ⟨hδ q (by omega), by have := pF_r ok hr (p := q) (by omega); omega⟩)
    have this := ih (k + 1) (by omega)
    rw [cstF, Int.mul_comm (δ k)] at this
    rw [T214_5, Q151]
    simp only [Option.bind_some, Option.toList_some, List.cons_append, List.nil_append]
    rw [T214_11, if_pos (by omega), QpF w hr (show k < pN K by omega)]
    simp only [Option.bind_some, Option.toList_some, List.cons_append, List.nil_append]
    rw [T214_22, if_pos (by omega), Int.toNat_natCast, hk1, nat1 (by omega), w64_id (x := pF K r k * δ k) (by omega) (by omega), w64_id (by omega) (by omega)]
    exact this
theorem Q214 {d L : Nat} {K : PK} {δ : Nat → Int} {m : j_M0} (w : vG K m) (ok : pOK K) (hδ : d9 (pN K) δ) (hm : mxR (pN K) δ m) {r : Nat} (hr : r < pR K) : c_call (d + 3) 214 [jR 109, jI r] (hH L m) = some (some (jI (if pF K r (pN K) < cstF (pF K r) δ (pN K) then 1 else 0)), hH L m) := by
  rw [E214, T214_0]
  exact L214 w ok hδ hm hr (pN K) 0 (by omega)
theorem L215 {d L : Nat} {K : PK} {δ : Nat → Int} {m : j_M0} (w : vG K m) (ok : pOK K) (hδ : d9 (pN K) δ) (hm : mxR (pN K) δ m) : ∀ j k : Nat, k + j = pR K → j_fin (c_call (d + 3)) 215 4 [some (jR 109), some (jI (brkF K δ k)), some (jI k)] [] (hH L m) = some (some (jI (brkF K δ (pR K))), hH L m) := by
  have n8 := ok.2.2.1
  have k1 := w.2.2.1
  intro j
  induction j with
  | zero =>
    intro k hk
    rw [T215_4, if_neg (by omega), show k = pR K by omega]
  | succ j ih =>
    intro k hk
    have r := brkF_r K δ k
    have this := ih (k + 1) (by omega)
    rw [brkF] at this
    rw [T215_4, if_pos (by omega), Q214 w ok hδ hm (show k < pR K by omega)]
    simp only [Option.bind_some, Option.toList_some, List.cons_append, List.nil_append]
    rw [T215_20, nat1 (by omega)]
    by_cases e : pF K k (pN K) < cstF (pF K k) δ (pN K)
    · rw [if_pos e] at this ⊢
      rw [if_neg (by decide), w32_id (by omega) (by omega)]
      exact this
    · rw [if_neg e] at this ⊢
      rw [if_pos rfl, w32_id (by omega) (by omega)]
      exact this
theorem Q215 {d L : Nat} {K : PK} {δ : Nat → Int} {m : j_M0} (w : vG K m) (ok : pOK K) (hδ : d9 (pN K) δ) (hm : mxR (pN K) δ m) : c_call (d + 4) 215 [jR 109] (hH L m) = some (some (jI (brkF K δ (pR K))), hH L m) := by
  rw [E215, T215_0]
  exact L215 w ok hδ hm (pR K) 0 (by omega)
/-! the next code -/
theorem L216b {d L n : Nat} {δ : Nat → Int} {x y : Int} {m : j_M0} (h0 : m 110 0 = n) (hn : n ≤ 5) (hδ : d9 n δ) (hm : mxR n δ m) : ∀ j k : Nat, k + j = n → j_fin (c_call (d + 1)) 216 65 [some (jR 109), some (jI x), some (jI y), some (jI (horF 10 δ k)), some (jI k)] [] (hH L m) = some (some (jI (horF 10 δ n)), hH L m) := by
  intro j
  induction j with
  | zero =>
    intro k hk
    rw [T216_65, Q151]
    simp only [Option.bind_some, Option.toList_some, List.cons_append, List.nil_append]
    rw [T216_71, if_neg (by omega), show k = n by omega]
  | succ j ih =>
    intro k hk
    have h9 := hδ k (by omega)
    have hk1 := hm k (by omega)
    have a := horF_r (δ := δ) k (fun q hq => hδ q (by omega))
    have t := tenF_r k (by omega)
    have this := ih (k + 1) (by omega)
    rw [horF, Int.mul_comm] at this
    rw [T216_65, Q151]
    simp only [Option.bind_some, Option.toList_some, List.cons_append, List.nil_append]
    rw [T216_71, if_pos (by omega), if_pos (by omega), Int.toNat_natCast, hk1, nat1 (by omega), w32_id (x := 10 * horF 10 δ k) (by omega) (by omega), w32_id (by omega) (by omega)]
    exact this
theorem L216 {d L n : Nat} {b x : Int} (hb : 0 ≤ b ∧ b ≤ 6) (hn : n ≤ 5) : ∀ (j : Nat) (δ : Nat → Int) (m : j_M0), j ≤ n → m 110 0 = n → m 110 3 = b → (∀ q : Nat, q < n → 0 ≤ δ q ∧ δ q ≤ b) → mxR n δ m → ∃ m', j_fin (c_call (d + 1)) 216 12 [some (jR 109), some (jI x), some (jI ((j : Int) - 1)), none, none] [] (hH L m) = some (some (jI (if (incF b j δ).2 = true then -1 else horF 10 (incF b j δ).1 n)), hH L m') ∧ kpt (fun c _ => c = 141) m m' := by
  intro j
  induction j with
  | zero =>
    intro δ m hj h0 h3 hδ hm
    rw [T216_12, if_pos (by omega), if_pos (by omega)]
    exact ⟨m, rfl, kpt_rfl⟩
  | succ j ih =>
    intro δ m hj h0 h3 hδ hm
    have hj0 := hδ j (by omega)
    have mj := hm j (by omega)
    have e0 : ((j + 1 : Nat) : Int) - 1 = (j : Int) := by omega
    rw [e0, T216_12, if_neg (by omega), if_pos (by omega), Int.toNat_natCast, mj, h3]
    unfold incF
    by_cases e : δ j < b
    · rw [if_neg (by omega), if_neg (by omega), if_pos (by omega), if_pos (by omega), w32_id (by omega) (by omega)]
      have hm2 : mxR n (setL δ j (δ j + 1)) (j_up m 141 j (δ j + 1)) := fun q hq => by
        rw [up_at]
        by_cases e2 : q = j
        · subst e2; rw [if_pos rfl, setL_eq]
        · rw [if_neg e2, setL_ne e2]; exact hm q hq
      have d9' : d9 n (setL δ j (δ j + 1)) := fun q hq => by
        by_cases e2 : q = j
        · subst e2; rw [setL_eq]; omega
        · rw [setL_ne e2]; have := hδ q hq; omega
      have h := L216b (d := d) (L := L) (x := x) (y := (j : Int)) (m := j_up m 141 j (δ j + 1)) ((up_ne (by omega)).trans h0) hn d9' hm2 n 0 (by omega)
      refine ⟨j_up m 141 j (δ j + 1), ?_, kpt_up rfl⟩
      rw [if_pos e, if_neg (show ¬ (false = true) by decide)]
      exact h
    · rw [if_pos (by omega), if_pos (by omega), w32_id (by omega) (by omega), show (j : Int) + (-1) = (j : Int) - 1 by omega]
      obtain ⟨m', t1, t2⟩ := ih (setL δ j 0) (j_up m 141 j 0) (by omega) ((up_ne (by omega)).trans h0) ((up_ne (by omega)).trans h3) (fun q hq => by
        by_cases e2 : q = j
        · subst e2; rw [setL_eq]; omega
        · rw [setL_ne e2]; exact hδ q hq) (fun q hq => by
        rw [up_at]
        by_cases e2 : q = j
        · subst e2; rw [if_pos rfl, setL_eq]
        · rw [if_neg e2, setL_ne e2]; exact hm q hq)
      rw [if_neg e]
      exact ⟨m', t1, kpt_tr (kpt_up rfl) t2⟩
theorem Q216 {d L n : Nat} {b : Int} {δ : Nat → Int} {m : j_M0} (hb : 0 ≤ b ∧ b ≤ 6) (hn : n ≤ 5) (h0 : m 110 0 = n) (h3 : m 110 3 = b) (hδ : ∀ q : Nat, q < n → 0 ≤ δ q ∧ δ q ≤ b) : ∃ m', c_call (d + 3) 216 [jR 109, jI (horF 10 δ n)] (hH L m) = some (some (jI (if (incF b n δ).2 = true then -1 else horF 10 (incF b n δ).1 n)), hH L m') ∧ kpt (fun c _ => c = 141) m m' := by
  obtain ⟨m1, q1, q2, q3⟩ := Q212 (d := d) (L := L) h0 hn (δ := δ) (fun q hq => by have := hδ q hq; omega)
  have h01 : m1 110 0 = n := (kpt_at q2 (by omega)).trans h0
  have h31 : m1 110 3 = b := (kpt_at q2 (by omega)).trans h3
  rw [E216, T216_0, q1]
  simp only [Option.bind_some, Option.toList_some, List.cons_append, List.nil_append, Option.toList_none]
  rw [T216_5, show c_call (d + 2) 151 _ (hH L m1) = _ from Q151 (d := d + 1)]
  simp only [Option.bind_some, Option.toList_some, List.cons_append, List.nil_append]
  rw [T216_9, h01, w32_id (by omega) (by omega)]
  obtain ⟨m2, t1, t2⟩ := L216 (d := d + 1) (L := L) (x := horF 10 δ n) hb hn n δ m1 (Nat.le_refl n) h01 h31 hδ q3
  exact ⟨m2, t1, kpt_tr q2 t2⟩
/-- the code of the k-th mix of the box of N; -1 behind the last -/
def boxC (b : Int) (n N k : Nat) : Int := if k < N then horF 10 (boxD b n k) n else -1
theorem boxC_s {b : Int} {n N k : Nat} (hb : 0 ≤ b) (hN : (N : Int) = (b + 1) ^ n) (hk : k < N) : (if (incF b n (boxD b n k)).2 = true then -1 else horF 10 (incF b n (boxD b n k)).1 n) = boxC b n N (k + 1) := by
  have c := boxD_c hb n k (by omega)
  unfold boxC
  by_cases e : (incF b n (boxD b n k)).2 = true
  · have := c.mp e
    rw [if_pos e, if_neg (by omega)]
  · have : ¬ ((k : Int) + 1 = (b + 1) ^ n) := fun h => e (c.mpr h)
    rw [if_neg e, if_pos (by omega)]
    rfl
/-! many -/
def manF (K : PK) (b x : Int) : Nat → Int
  | 0 => 0
  | k + 1 => manF K b x k + (if brkF K (boxD b (pN K) k) (pR K) = x then 1 else 0)
theorem manF_r (K : PK) (b x : Int) : ∀ k : Nat, 0 ≤ manF K b x k ∧ manF K b x k ≤ (k : Int) := by
  intro k
  induction k with
  | zero => exact ⟨Int.le_refl _, Int.le_refl _⟩
  | succ k ih => unfold manF; split <;> omega
theorem L111 {d L : Nat} {K : PK} {b x : Int} {N : Nat} (hb : 0 ≤ b ∧ b ≤ 6) (hN : (N : Int) = (b + 1) ^ (pN K)) (hN2 : N ≤ 16807) : ∀ (j k : Nat), k + j = N → ∀ m : j_M0, vP 155 K m → (∀ i : Nat, i < 6 → m 1 i = tenF i) → wkR K b (boxD b (pN K) k) m → ∃ m', j_fin (c_call (d + 4)) 111 42 [some (jR 2), some (jI x), some (jI (manF K b x k)), some (jI j)] [] (hH L m) = some (some (jI (manF K b x N)), hH L m') ∧ kpt (fun c z => 86 ≤ c ∧ c ≤ 88) m m' := by
  intro j
  induction j with
  | zero =>
    intro k hk m w ht s
    rw [T111_42, if_neg (by omega), show k = N by omega]
    exact ⟨m, rfl, kpt_rfl⟩
  | succ j ih =>
    intro k hk m w ht s
    have r := manF_r K b x k
    obtain ⟨m1, q1, q2, q3⟩ := Q82 (d := d) (L := L) hb w ht s (boxD_r hb.1 (pN K) k)
    have go : ∃ m', j_fin (c_call (d + 4)) 111 67 [some (jR 2), some (jI x), some (jI (manF K b x (k + 1))), some (jI ((j + 1 : Nat) : Int))] [] (hH L m1) = some (some (jI (manF K b x N)), hH L m') ∧ kpt (fun c z => 86 ≤ c ∧ c ≤ 88) m m' := by
      obtain ⟨m2, t1, t2⟩ := ih (k + 1) (by omega) m1 (vP_k w (fun c z h h' => kpt_at q2 (by omega))) (fun i hi => (kpt_at q2 (by omega)).trans (ht i hi)) q3
      rw [T111_67, w32_id (by omega) (by omega), show ((j + 1 : Nat) : Int) + (-1) = (j : Int) by omega]
      exact ⟨m2, t1, kpt_tr q2 t2⟩
    rw [manF] at go
    rw [T111_42, if_pos (by omega), show c_call (d + 4) 85 _ (hH L m) = _ from Q85 (d := d + 3) w s]
    simp only [Option.bind_some, Option.toList_some, List.cons_append, List.nil_append]
    rw [T111_53]
    by_cases e : brkF K (boxD b (pN K) k) (pR K) = x
    · rw [if_pos e] at go ⊢
      rw [q1, w32_id (x := manF K b x k + 1) (by omega) (by omega)]
      simp only [Option.bind_some, Option.toList_some, List.cons_append, List.nil_append, Option.toList_none]
      exact go
    · rw [if_neg e, Int.add_zero] at go
      rw [if_neg e, q1]
      simp only [Option.bind_some, Option.toList_some, List.cons_append, List.nil_append, Option.toList_none]
      exact go
theorem L219 {d L : Nat} {K : PK} {b x : Int} {N : Nat} (ok : pOK K) (hb : 0 ≤ b ∧ b ≤ 6) (hN : (N : Int) = (b + 1) ^ (pN K)) (hN2 : N ≤ 16807) : ∀ (j k : Nat), k + j = N → ∀ m : j_M0, vG K m → m 110 3 = b → ∃ m', j_fin (c_call (d + 4)) 219 16 [some (jR 109), some (jI x), some (jI (manF K b x k)), some (jI (boxC b (pN K) N k))] [] (hH L m) = some (some (jI (manF K b x N)), hH L m') ∧ kpt (fun c z => c = 141) m m' := by
  have n5 := ok.2.1
  intro j
  induction j with
  | zero =>
    intro k hk m w h3
    have e : boxC b (pN K) N k = -1 := by unfold boxC; rw [if_neg (by omega)]
    rw [e, T219_16, if_pos (by omega), show k = N by omega]
    exact ⟨m, rfl, kpt_rfl⟩
  | succ j ih =>
    intro k hk m w h3
    have r := manF_r K b x k
    have bd := boxD_r hb.1 (pN K) k
    have bd9 : d9 (pN K) (boxD b (pN K) k) := fun q hq => by have := bd q hq; omega
    have e : boxC b (pN K) N k = horF 10 (boxD b (pN K) k) (pN K) := by unfold boxC; rw [if_pos (by omega)]
    have c := cst_R ok bd9
    obtain ⟨m1, q1, q2, q3⟩ := Q212 (d := d + 2) (L := L) w.2.1 n5 bd9
    have w1 : vG K m1 := vG_k w (fun z => kpt_at q2 (by omega))
    obtain ⟨m2, p1, p2⟩ := Q216 (d := d + 1) (L := L) (m := m1) hb n5 w1.2.1 ((kpt_at q2 (by omega)).trans h3) bd
    rw [boxC_s hb.1 hN (by omega)] at p1
    have go : ∃ m', j_fin (c_call (d + 4)) 219 46 [some (jR 109), some (jI x), some (jI (manF K b x (k + 1))), some (jI (horF 10 (boxD b (pN K) k) (pN K)))] [jI (boxC b (pN K) N (k + 1))] (hH L m2) = some (some (jI (manF K b x N)), hH L m') ∧ kpt (fun c z => c = 141) m m' := by
      obtain ⟨m3, t1, t2⟩ := ih (k + 1) (by omega) m2 (vG_k w1 (fun z => kpt_at p2 (by omega))) ((kpt_at p2 (by omega)).trans ((kpt_at q2 (by omega)).trans h3))
      rw [T219_46]
      exact ⟨m3, t1, kpt_tr (kpt_tr q2 p2) t2⟩
    rw [manF] at go
    rw [e, T219_16, if_neg (by omega), show c_call (d + 4) 212 _ _ = _ from q1]
    simp only [Option.bind_some, Option.toList_some, List.cons_append, List.nil_append, Option.toList_none]
    rw [T219_25, Q215 w1 ok bd9 q3]
    simp only [Option.bind_some, Option.toList_some, List.cons_append, List.nil_append]
    rw [T219_30]
    by_cases e2 : brkF K (boxD b (pN K) k) (pR K) = x
    · rw [if_pos e2] at go ⊢
      rw [show c_call (d + 4) 216 _ _ = _ from p1, w32_id (x := manF K b x k + 1) (by omega) (by omega)]
      simp only [Option.bind_some, Option.toList_some, List.cons_append, List.nil_append]
      exact go
    · rw [if_neg e2] at go ⊢
      rw [show c_call (d + 4) 216 _ _ = _ from p1, w32_id (x := manF K b x k + 0) (by omega) (by omega)]
      simp only [Option.bind_some, Option.toList_some, List.cons_append, List.nil_append]
      exact go
theorem Rel_b {xs : Nat → Int32} {m : j_M0} (w : Rel xs m) : (0 ≤ m 110 3 ∧ m 110 3 ≤ 6) ∧ m 3 4 = m 110 3 ∧ pOK (pkG (m 110)) := ⟨w.2.2.1.2.2.1, w.2.2.2.1.2.2.2.2.1, vP_ok (Rel_vP w)⟩
theorem boxN {b : Int} {n : Nat} (hb : 0 ≤ b ∧ b ≤ 6) (hn : n ≤ 5) : ∃ N : Nat, (N : Int) = (b + 1) ^ n ∧ 1 ≤ N ∧ N ≤ 16807 := by
  have h := pw_r hb n (by omega)
  exact ⟨((b + 1) ^ n).toNat, by omega, by omega, by omega⟩
theorem boxC_0 {b : Int} {n N : Nat} (h : 1 ≤ N) : boxC b n N 0 = 0 := by
  unfold boxC
  rw [if_pos (by omega)]
  exact horF_0 n
theorem PA111 {L : Nat} {xs : Nat → Int32} {m : j_M0} (w : Rel xs m) (x : Int) : PA L xs 111 219 [jI x] m := by
  by_cases g : 0 ≤ x ∧ x ≤ 1
  · obtain ⟨hb, e34, ok⟩ := Rel_b w
    have wP := Rel_vP w
    have ht := w.1.2
    generalize hK : pkG (m 110) = K at ok wP
    have n5 := ok.2.1
    obtain ⟨N, hN, hN1, hN2⟩ := boxN hb n5
    obtain ⟨m1, q1, q2, q3, q4, q5⟩ := Q81 (d := 6) (L := L) (K := K) hb wP
    obtain ⟨m2, p1, p2⟩ := L111 (d := 5) (L := L) (K := K) (b := m 110 3) (x := x) hb hN hN2 N 0 (by omega) m1 q5 (fun i hi => (kpt_at q2 (by omega)).trans (ht i hi)) q3
    have w2 : Rel xs m2 := Rel_k w (kpt_w (kpt_tr q2 (kpt_w p2 (fun c z h => Or.inl h))) (fun c z h => by unfold sc; omega))
    have g3 : kpt (fun c z => (86 ≤ c ∧ c ≤ 88) ∨ (155 ≤ c ∧ c ≤ 159)) m m2 := kpt_tr q2 (kpt_w p2 (fun c z h => Or.inl h))
    have e110 : m2 110 = m 110 := funext (fun z => kpt_at g3 (by omega))
    have wG : vG K m2 := by rw [← hK, ← e110]; exact Rel_vG w2
    obtain ⟨m3, t1, t2⟩ := L219 (d := 5) (L := L) (K := K) (b := m 110 3) (x := x) ok hb hN hN2 N 0 (by omega) m2 wG (by rw [e110])
    rw [boxC_0 hN1] at t1
    refine ⟨jI (manF K (m 110 3) x N), m2, m3, ?_, ?_, Rel_k w2 (kpt_w t2 (fun c z h => by unfold sc; omega))⟩
    · refine (E111 (d := 9)).trans ?_
      rw [T111_0, if_neg (by omega), if_neg (by omega), e34, q1]
      simp only [Option.bind_some, Option.toList_some, List.cons_append, List.nil_append, Option.toList_none]
      rw [T111_34, q4, ← hN]
      exact p1
    · refine (E219 (d := 9)).trans ?_
      rw [T219_0, Q150]
      simp only [Option.bind_some, Option.toList_some, List.cons_append, List.nil_append]
      rw [bI_t g, T219_7, if_neg (by decide)]
      exact t1
  · refine PA_r w (v := jI (-1)) ((E111 (d := 9)).trans ?_) ((E219 (d := 9)).trans ?_)
    · rw [T111_0]
      by_cases h : x < 0
      · rw [if_pos h]
      · rw [if_neg h, if_pos (by omega)]
    · rw [T219_0, Q150]
      simp only [Option.bind_some, Option.toList_some, List.cons_append, List.nil_append]
      rw [bI_f g, T219_7, if_pos rfl]
