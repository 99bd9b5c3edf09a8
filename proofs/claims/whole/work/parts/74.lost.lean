/-! breaks; lost. -/
/-! codes, asked -/
theorem L210 {d L n : Nat} {m : j_M0} (h0 : m 110 0 = n) (hn : n ≤ 5) : ∀ j k : Nat, k + j = n → j_fin (c_call (d + 1)) 210 4 [some (jR 109), some (jI (tenF k)), some (jI k)] [] (hH L m) = some (some (jI (tenF n)), hH L m) := by
  intro j
  induction j with
  | zero =>
    intro k hk
    rw [T210_4, Q151]
    simp only [Option.bind_some, Option.toList_some, List.cons_append, List.nil_append]
    rw [T210_9, if_neg (by omega), show k = n by omega]
  | succ j ih =>
    intro k hk
    have t := tenF_r k (by omega)
    have this := ih (k + 1) (by omega)
    rw [tenF, Int.mul_comm] at this
    rw [T210_4, Q151]
    simp only [Option.bind_some, Option.toList_some, List.cons_append, List.nil_append]
    rw [T210_9, if_pos (by omega), nat1 (by omega), w32_id (by omega) (by omega)]
    exact this
theorem Q211 {d L n : Nat} {m : j_M0} {x : Int} (h0 : m 110 0 = n) (hn : n ≤ 5) : c_call (d + 3) 211 [jR 109, jI x] (hH L m) = some (some (jI (bI (0 ≤ x ∧ x < tenF n))), hH L m) := by
  have t := tenF_r n hn
  have q : c_call (d + 2) 210 [jR 109] (hH L m) = some (some (jI (tenF n)), hH L m) := by
    rw [E210, T210_0]
    exact L210 h0 hn n 0 (by omega)
  rw [E211, T211_0, q]
  simp only [Option.bind_some, Option.toList_some, List.cons_append, List.nil_append]
  rw [T211_7, w32_id (by omega) (by omega), Q150]
  simp only [Option.bind_some, Option.toList_some, List.cons_append, List.nil_append]
  rw [T211_13, if_pos (by unfold bI; split <;> omega), bI_c (show (0 ≤ x ∧ x ≤ tenF n - 1) ↔ (0 ≤ x ∧ x < tenF n) by omega)]
theorem L16 {C : Nat → List j_V → j_H → Option j_Z} {L p : Nat} {m : j_M0} {x : Int} (hp : p ≤ 5) : ∀ (j : Nat) (y : Int), 0 ≤ y ∧ y ≤ 1000000 → p + j ≤ 5 → j_fin C 16 10 [some (jR 4), some (jI x), some (jI p), some (jI y), some (jI ((p + j : Nat) : Int))] [] (hH L m) = some (some (jI (y / tenF j % 10)), hH L m) := by
  intro j
  induction j with
  | zero =>
    intro y hy hj
    rw [T16_10, if_neg (by omega), Int.tmod_eq_emod_of_nonneg (by omega), tenF, Int.ediv_one]
  | succ j ih =>
    intro y hy hj
    have e1 : y.tdiv 10 = y / 10 := Int.tdiv_eq_ediv_of_nonneg hy.1
    have t := tenF_r j (by omega)
    rw [T16_10, if_pos (by omega), e1, w32_id (x := y / 10) (by omega) (by omega), w32_id (by omega) (by omega), show ((p + (j + 1) : Nat) : Int) + (-1) = ((p + j : Nat) : Int) by omega, ih (y / 10) (by omega) (by omega), tenF, Int.ediv_ediv_of_nonneg (by omega), Int.mul_comm]
theorem Q16 {d L n : Nat} {m : j_M0} {x : Int} {p : Nat} (k0 : m 4 0 = n) (hn : n ≤ 5) (ht : ∀ i : Nat, i < 6 → m 1 i = tenF i) (hx : 0 ≤ x ∧ x ≤ 1000000) (hp : p < n) : c_call (d + 1) 16 [jR 4, jI x, jI p] (hH L m) = some (some (jI (digF n p x)), hH L m) := by
  rw [E16, T16_0, k0, w32_id (x := (n : Int) - 1) (by omega) (by omega), show (n : Int) - 1 = ((p + (n - 1 - p) : Nat) : Int) by omega, L16 (by omega) (n - 1 - p) x hx (by omega)]
  rfl
theorem L14 {d L : Nat} {K : PK} {m : j_M0} {x : Int} (w : vP 4 K m) (ht : ∀ i : Nat, i < 6 → m 1 i = tenF i) (hx : 0 ≤ x ∧ x ≤ 1000000) : ∀ j k : Nat, k + j = pN K → j_fin (c_call (d + 1)) 14 4 [some (jR 4), some (jI x), some (jI (cstF (pC K) (fun q => digF (pN K) q x) k)), some (jI k)] [] (hH L m) = some (some (jI (cstF (pC K) (fun q => digF (pN K) q x) (pN K))), hH L m) := by
  have ok := vP_ok w
  have n5 := ok.2.1
  have k0 := w.2.1
  intro j
  induction j with
  | zero =>
    intro k hk
    rw [T14_4, if_neg (by omega), show k = pN K by omega]
  | succ j ih =>
    intro k hk
    have kc := w.2.2.2.1 k (by omega)
    simp only [Nat.reduceAdd] at kc
    have rc := ok.2.2.2.1 k (by omega)
    have h9 := digF_r (pN K) k x
    have g := mul_r (x := digF (pN K) k x) (y := pC K k) (a := 9) (b := 99) (by omega) (by omega) (by omega) (by omega)
    have c := cstF_r (c := pC K) (δ := fun q => digF (pN K) q x) (M := 99) k (fun q hq => ⟨digF_r (pN K) q x, by have := ok.2.2.2.1 q (by omega); omega⟩)
    have this := ih (k + 1) (by omega)
    rw [cstF] at this
    rw [T14_4, if_pos (by omega), Q16 k0 n5 ht hx (show k < pN K by omega)]
    simp only [Option.bind_some, Option.toList_some, List.cons_append, List.nil_append]
    rw [T14_19, if_pos (by omega), Int.toNat_natCast, kc, nat1 (by omega), w32_id (x := digF (pN K) k x * pC K k) (by omega) (by omega), w32_id (by omega) (by omega)]
    exact this
theorem Q14 {d L : Nat} {K : PK} {m : j_M0} {x : Int} (w : vP 4 K m) (ht : ∀ i : Nat, i < 6 → m 1 i = tenF i) (hx : 0 ≤ x ∧ x ≤ 1000000) : c_call (d + 2) 14 [jR 4, jI x] (hH L m) = some (some (jI (cstF (pC K) (fun q => digF (pN K) q x) (pN K))), hH L m) := by
  rw [E14, T14_0]
  exact L14 w ht hx (pN K) 0 (by omega)
/-- the first rule that a mix breaks; -5 -/
def fbF (K : PK) (δ : Nat → Int) : Nat → Nat → Int
  | 0, _ => -5
  | j + 1, k => if pF K k (pN K) < cstF (pF K k) δ (pN K) then (k : Int) else fbF K δ j (k + 1)
theorem L15a {d L : Nat} {K : PK} {m : j_M0} {x : Int} (w : vP 4 K m) (ht : ∀ i : Nat, i < 6 → m 1 i = tenF i) (hx : 0 ≤ x ∧ x ≤ 1000000) {r : Nat} (hr : r < pR K) : ∀ j k : Nat, k + j = pN K → j_fin (c_call (d + 2)) 15 23 [some (jR 4), some (jI x), some (jI r), some (jI (pF K r (pN K) - cstF (pF K r) (fun q => digF (pN K) q x) k)), some (jI k)] [] (hH L m) = j_fin (c_call (d + 2)) 15 23 [some (jR 4), some (jI x), some (jI r), some (jI (pF K r (pN K) - cstF (pF K r) (fun q => digF (pN K) q x) (pN K))), some (jI (pN K : Nat))] [] (hH L m) := by
  have ok := vP_ok w
  have n5 := ok.2.1
  have k0 := w.2.1
  intro j
  induction j with
  | zero =>
    intro k hk
    rw [show k = pN K by omega]
  | succ j ih =>
    intro k hk
    have h9 := digF_r (pN K) k x
    have f := pF_r ok hr (p := k) (by omega)
    have f2 := pF_r ok hr (p := pN K) (by omega)
    have g := mul_r (x := pF K r k) (y := digF (pN K) k x) (a := 999) (b := 9) (by omega) (by omega) (by omega) (by omega)
    have c := cstF_r (c := pF K r) (δ := fun q => digF (pN K) q x) (M := 999) k (fun q hq => ⟨digF_r (pN K) q x, by have := pF_r ok hr (p := q) (by omega); omega⟩)
    have this := ih (k + 1) (by omega)
    rw [cstF, Int.mul_comm (digF (pN K) k x), show pF K r (pN K) - (cstF (pF K r) (fun q => digF (pN K) q x) k + pF K r k * digF (pN K) k x) = pF K r (pN K) - cstF (pF K r) (fun q => digF (pN K) q x) k - pF K r k * digF (pN K) k x by omega] at this
    rw [T15_23, if_pos (by omega), Q13f_4 w hr (show k ≤ pN K by omega)]
    simp only [Option.bind_some, Option.toList_some, List.cons_append, List.nil_append]
    rw [T15_40, show c_call (d + 2) 16 _ (hH L m) = _ from Q16 (d := d + 1) k0 n5 ht hx (show k < pN K by omega)]
    simp only [Option.bind_some, Option.toList_some, List.cons_append, List.nil_append]
    rw [T15_47, nat1 (by omega), w32_id (x := pF K r k * digF (pN K) k x) (by omega) (by omega), w32_id (by omega) (by omega)]
    exact this
theorem L15 {d L : Nat} {K : PK} {m : j_M0} {x : Int} (w : vP 4 K m) (ht : ∀ i : Nat, i < 6 → m 1 i = tenF i) (hx : 0 ≤ x ∧ x ≤ 1000000) : ∀ j k : Nat, k + j = pR K → ∀ o3 o4 : Option j_V, j_fin (c_call (d + 2)) 15 2 [some (jR 4), some (jI x), some (jI k), o3, o4] [] (hH L m) = some (some (jI (fbF K (fun q => digF (pN K) q x) j k)), hH L m) := by
  have ok := vP_ok w
  have n5 := ok.2.1
  have n8 := ok.2.2.1
  have k0 := w.2.1
  have k1 := w.2.2.1
  intro j
  induction j with
  | zero =>
    intro k hk o3 o4
    rw [T15_2, if_neg (by omega)]
    rfl
  | succ j ih =>
    intro k hk o3 o4
    have l := L15a (d := d) (L := L) w ht hx (show k < pR K by omega) (pN K) 0 (by omega)
    rw [cstF, Int.sub_zero] at l
    rw [T15_2, if_pos (by omega), k0, Q13f_4 w (show k < pR K by omega) (Nat.le_refl (pN K))]
    simp only [Option.bind_some, Option.toList_some, List.cons_append, List.nil_append]
    rw [T15_19, show (some (jI 0) : Option j_V) = some (jI ((0 : Nat) : Int)) from rfl, l, T15_23, if_neg (by omega)]
    unfold fbF
    by_cases e : pF K k (pN K) < cstF (pF K k) (fun q => digF (pN K) q x) (pN K)
    · rw [if_pos (by omega), if_pos e]
    · rw [if_neg (by omega), if_neg e, nat1 (by omega)]
      exact ih (k + 1) (by omega) _ _
theorem L220 {d L : Nat} {K : PK} {δ : Nat → Int} {m : j_M0} {x : Int} (w : vG K m) (ok : pOK K) (hδ : d9 (pN K) δ) (hm : mxR (pN K) δ m) : ∀ j k : Nat, k + j = pR K → j_fin (c_call (d + 3)) 220 18 [some (jR 109), some (jI x), some (jI k)] [] (hH L m) = some (some (jI (fbF K δ j k)), hH L m) := by
  have n8 := ok.2.2.1
  have k1 := w.2.2.1
  intro j
  induction j with
  | zero =>
    intro k hk
    rw [T220_18, if_neg (by omega)]
    rfl
  | succ j ih =>
    intro k hk
    rw [T220_18, if_pos (by omega), Q214 w ok hδ hm (show k < pR K by omega)]
    simp only [Option.bind_some, Option.toList_some, List.cons_append, List.nil_append]
    rw [T220_33, nat1 (by omega)]
    unfold fbF
    by_cases e : pF K k (pN K) < cstF (pF K k) δ (pN K)
    · rw [if_pos e, if_pos e, if_neg (by decide)]
    · rw [if_neg e, if_neg e, if_pos rfl]
      exact ih (k + 1) (by omega)
theorem PA112 {L : Nat} {xs : Nat → Int32} {m : j_M0} (w : Rel xs m) (x : Int) : PA L xs 112 220 [jI x] m := by
  have n := Rel_n w
  have ok := (Rel_b w).2.2
  have wP := Rel_vP w
  have wG := Rel_vG w
  have ht := w.1.2
  have hN : pN (pkG (m 110)) = (m 110 0).toNat := rfl
  generalize pkG (m 110) = K at ok wP wG hN
  have n5 := ok.2.1
  have n8 := ok.2.2.1
  have k0 := wP.2.1
  have t := tenF_r (pN K) n5
  have q1 : c_call 9 138 [jR 2, jI x] (hH L m) = some (some (jI (bI (0 ≤ x ∧ x < tenF (pN K)))), hH L m) := by
    have h := Q138 (d := 8) (L := L) (m := m) (x := x) (by omega)
    rw [k0, Int.toNat_natCast, ht (pN K) (by omega)] at h
    exact h
  have q2 : c_call 9 211 [jR 109, jI x] (hH L m) = some (some (jI (bI (0 ≤ x ∧ x < tenF (pN K)))), hH L m) := Q211 (d := 6) wG.2.1 n5
  by_cases g : 0 ≤ x ∧ x < tenF (pN K)
  · have hx := hor_digF (pN K) x g.1 g.2
    have hδ : d9 (pN K) (fun q => digF (pN K) q x) := fun q _ => digF_r (pN K) q x
    obtain ⟨m1, p1, p2, p3⟩ := Q212 (d := 7) (L := L) wG.2.1 n5 hδ
    rw [hx] at p1
    have l1 := L15 (d := 6) (L := L) (m := m) wP ht (x := x) (by omega) (pR K) 0 (by omega) none none
    have l2 := L220 (d := 6) (L := L) (m := m1) (x := x) (vG_k wG (fun z => kpt_at p2 (by omega))) ok hδ p3 (pR K) 0 (by omega)
    refine ⟨jI (fbF K (fun q => digF (pN K) q x) (pR K) 0), m, m1, ?_, ?_, Rel_k w (kpt_w p2 (fun c z h => by unfold sc; omega))⟩
    · have e15 : c_call 9 15 [jR 4, jI x] (hH L m) = some (some (jI (fbF K (fun q => digF (pN K) q x) (pR K) 0)), hH L m) := (E15 (d := 8)).trans (T15_0.trans l1)
      refine (E112 (d := 9)).trans ?_
      rw [T112_0, q1]
      simp only [Option.bind_some, Option.toList_some, List.cons_append, List.nil_append]
      rw [bI_t g, T112_5, if_neg (by decide), e15]
      simp only [Option.bind_some, Option.toList_some, List.cons_append, List.nil_append]
      rw [T112_22]
    · refine (E220 (d := 9)).trans ?_
      rw [T220_0, q2]
      simp only [Option.bind_some, Option.toList_some, List.cons_append, List.nil_append]
      rw [bI_t g, T220_5, if_neg (by decide), p1]
      simp only [Option.bind_some, Option.toList_some, List.cons_append, List.nil_append, Option.toList_none]
      rw [T220_16]
      exact l2
  · refine PA_r w (v := jI (-2)) ((E112 (d := 9)).trans ?_) ((E220 (d := 9)).trans ?_)
    · rw [T112_0, q1]
      simp only [Option.bind_some, Option.toList_some, List.cons_append, List.nil_append]
      rw [bI_f g, T112_5, if_pos rfl]
    · rw [T220_0, q2]
      simp only [Option.bind_some, Option.toList_some, List.cons_append, List.nil_append]
      rw [bI_f g, T220_5, if_pos rfl]
/-! lost -/
theorem L113a {d L : Nat} {x : Int} {a : Nat → Int} {n : Nat} {Q : j_M0 → Prop} (hn : n ≤ 5) (hQ : ∀ m m' : j_M0, Q m → kpt (fun c _ => c = 108) m m' → Q m') (hc : ∀ m : j_M0, Q m → m 4 0 = n ∧ ∀ p : Nat, p ≤ n → (if x = -1 then (c_call (d + 3) 36 [jR 3, jI p] (hH L m)).bind fun z => j_fin (c_call (d + 3)) 113 49 [some (jR 2), some (jI x), some (jI p)] (z.1.toList ++ [jI p, jR 108]) z.2 else (c_call (d + 3) 2 [jR 50, jI x, jI p] (hH L m)).bind fun z => j_fin (c_call (d + 3)) 113 64 [some (jR 2), some (jI x), some (jI p)] (z.1.toList ++ [jI p, jR 108]) z.2) = j_fin (c_call (d + 3)) 113 64 [some (jR 2), some (jI x), some (jI p)] [jL (a p), jI p, jR 108] (hH L m)) : ∀ j p : Nat, p + j = n + 1 → ∀ m : j_M0, Q m → (∀ q : Nat, q < p → m 108 q = a q) → ∃ m', j_fin (c_call (d + 3)) 113 17 [some (jR 2), some (jI x), some (jI p)] [] (hH L m) = j_fin (c_call (d + 3)) 113 17 [some (jR 2), some (jI x), some (jI ((n + 1 : Nat) : Int))] [] (hH L m') ∧ kpt (fun c _ => c = 108) m m' ∧ (∀ q : Nat, q ≤ n → m' 108 q = a q) := by
  intro j
  induction j with
  | zero =>
    intro p hp m w h
    have e : p = n + 1 := by omega
    subst e
    exact ⟨m, rfl, kpt_rfl, fun q hq => h q (by omega)⟩
  | succ j ih =>
    intro p hp m w h
    obtain ⟨h0, hcc⟩ := hc m w
    have hcp := hcc p (by omega)
    have w2 : Q (j_up m 108 p (a p)) := hQ m _ w (kpt_up rfl)
    obtain ⟨m', t1, t2, t3⟩ := ih (p + 1) (by omega) (j_up m 108 p (a p)) w2 (fun q hq => by
      rw [up_at]
      by_cases e : q = p
      · subst e; rw [if_pos rfl]
      · rw [if_neg e]; exact h q (by omega))
    rw [T113_17, if_neg (by omega), hcp, T113_64, if_pos (by omega), Int.toNat_natCast, nat1 (by omega)]
    exact ⟨m', t1, kpt_tr (kpt_up rfl) t2, t3⟩
/-- the first mix from k on that obeys and breaks the cut -/
noncomputable def losF (K : PK) (b : Int) (a : Nat → Int) : Nat → Nat → Int
  | 0, _ => -5
  | j + 1, k => @ite _ (obyF K (boxD b (pN K) k) ∧ a (pN K) < byS a (boxD b (pN K) k) (pN K)) (Classical.propDecidable _) (horF 10 (boxD b (pN K) k) (pN K)) (losF K b a j (k + 1))
theorem L113 {d L : Nat} {K : PK} {b x : Int} {a : Nat → Int} {N : Nat} (hb : 0 ≤ b ∧ b ≤ 6) (hN2 : N ≤ 16807) : ∀ (j k : Nat), k + j = N → ∀ m : j_M0, vP 155 K m → (∀ i : Nat, i < 6 → m 1 i = tenF i) → (∀ p : Nat, p ≤ pN K → m 108 p = a p) → wkR K b (boxD b (pN K) k) m → ∃ m', j_fin (c_call (d + 4)) 113 100 [some (jR 2), some (jI x), some (jI j)] [] (hH L m) = some (some (jI (losF K b a j k)), hH L m') ∧ kpt (fun c z => 86 ≤ c ∧ c ≤ 88) m m' := by
  intro j
  induction j with
  | zero =>
    intro k hk m w ht ha s
    rw [T113_100, if_neg (by omega)]
    exact ⟨m, rfl, kpt_rfl⟩
  | succ j ih =>
    intro k hk m w ht ha s
    obtain ⟨m1, q1, q2, q3⟩ := Q82 (d := d) (L := L) hb w ht s (boxD_r hb.1 (pN K) k)
    have go : ∃ m', ((c_call (d + 4) 82 [jR 86] (hH L m)).bind fun z => j_fin (c_call (d + 4)) 113 143 [some (jR 2), some (jI x), some (jI ((j + 1 : Nat) : Int))] (z.1.toList ++ []) z.2) = some (some (jI (losF K b a j (k + 1))), hH L m') ∧ kpt (fun c z => 86 ≤ c ∧ c ≤ 88) m m' := by
      obtain ⟨m2, t1, t2⟩ := ih (k + 1) (by omega) m1 (vP_k w (fun c z h h' => kpt_at q2 (by omega))) (fun i hi => (kpt_at q2 (by omega)).trans (ht i hi)) (fun p hp => (kpt_at q2 (by omega)).trans (ha p hp)) q3
      rw [q1]
      simp only [Option.bind_some, Option.toList_some, List.cons_append, List.nil_append, Option.toList_none]
      rw [T113_143, w32_id (by omega) (by omega), show ((j + 1 : Nat) : Int) + (-1) = (j : Int) by omega]
      exact ⟨m2, t1, kpt_tr q2 t2⟩
    obtain ⟨f, h1, h2⟩ := Q84 (d := d + 3) (L := L) w s
    rw [T113_100, if_pos (by omega), show c_call (d + 4) 84 _ (hH L m) = _ from h1]
    simp only [Option.bind_some, Option.toList_some, List.cons_append, List.nil_append]
    rw [T113_111]
    unfold losF
    rcases h2 with ⟨rfl, h2⟩ | ⟨rfl, h2⟩
    · rw [if_neg (by decide), show c_call (d + 4) 86 _ (hH L m) = _ from Q86 (d := d + 3) w s ha]
      simp only [Option.bind_some, Option.toList_some, List.cons_append, List.nil_append]
      rw [T113_125]
      by_cases e : a (pN K) < byS a (boxD b (pN K) k) (pN K)
      · rw [bI_t e, if_neg (by decide), if_pos ⟨h2, e⟩, s.1]
        exact ⟨m, rfl, kpt_rfl⟩
      · rw [bI_f e, if_pos rfl, if_neg (fun h => e h.2)]
        exact go
    · rw [if_pos rfl, if_neg (fun h => h2 h.1)]
      exact go
theorem L221 {d L : Nat} {δ a : Nat → Int} {x : Int} {n : Nat} {m : j_M0} (h0 : m 110 0 = n) (hn : n ≤ 5) (hm : mxR n δ m) (hc : ∀ p : Nat, p ≤ n → (x < 0 → c_call (d + 3) 208 [jR 109, jI p] (hH L m) = some (some (jL (a p)), hH L m)) ∧ (¬ x < 0 → c_call (d + 3) 202 [jR 109, jI x, jI p] (hH L m) = some (some (jL (a p)), hH L m))) : ∀ j p : Nat, p + j = n → j_fin (c_call (d + 3)) 221 5 [some (jR 109), some (jI x), some (jL (byS a δ p)), none, some (jI p)] [] (hH L m) = some (some (jI (bI (a n < byS a δ n))), hH L m) := by
  intro j
  induction j with
  | zero =>
    intro p hp
    have hcn := hc n (Nat.le_refl n)
    have e : p = n := by omega
    subst e
    rw [T221_5, show c_call (d + 3) 151 _ (hH L m) = _ from Q151 (d := d + 2)]
    simp only [Option.bind_some, Option.toList_some, List.cons_append, List.nil_append]
    rw [T221_11, if_neg (by omega)]
    by_cases hx : x < 0
    · rw [if_pos hx, show c_call (d + 3) 151 _ (hH L m) = _ from Q151 (d := d + 2)]
      simp only [Option.bind_some, Option.toList_some, List.cons_append, List.nil_append]
      rw [T221_62, h0, hcn.1 hx]
      simp only [Option.bind_some, Option.toList_some, List.cons_append, List.nil_append]
      rw [T221_65, T221_77]
      simp only [cmp_gt]
      unfold bI
      split <;> rfl
    · rw [if_neg hx, show c_call (d + 3) 151 _ (hH L m) = _ from Q151 (d := d + 2)]
      simp only [Option.bind_some, Option.toList_some, List.cons_append, List.nil_append]
      rw [T221_74, h0, hcn.2 hx]
      simp only [Option.bind_some, Option.toList_some, List.cons_append, List.nil_append]
      rw [T221_77]
      simp only [cmp_gt]
      unfold bI
      split <;> rfl
  | succ j ih =>
    intro p hp
    have hcp := hc p (by omega)
    have hm1 := hm p (by omega)
    have this := ih (p + 1) (by omega)
    rw [byS] at this
    rw [T221_5, show c_call (d + 3) 151 _ (hH L m) = _ from Q151 (d := d + 2)]
    simp only [Option.bind_some, Option.toList_some, List.cons_append, List.nil_append]
    rw [T221_11, if_pos (by omega)]
    by_cases hx : x < 0
    · rw [if_pos hx, hcp.1 hx]
      simp only [Option.bind_some, Option.toList_some, List.cons_append, List.nil_append]
      rw [T221_25, T221_35, if_pos (by omega), Int.toNat_natCast, hm1, nat1 (by omega)]
      exact this
    · rw [if_neg hx, hcp.2 hx]
      simp only [Option.bind_some, Option.toList_some, List.cons_append, List.nil_append]
      rw [T221_35, if_pos (by omega), Int.toNat_natCast, hm1, nat1 (by omega)]
      exact this
theorem L222 {d L : Nat} {K : PK} {b x : Int} {a : Nat → Int} {N : Nat} {Q : j_M0 → Prop} (ok : pOK K) (hb : 0 ≤ b ∧ b ≤ 6) (hN : (N : Int) = (b + 1) ^ (pN K)) (hN2 : N ≤ 16807) (hQ : ∀ m m' : j_M0, Q m → kpt (fun c _ => c = 141) m m' → Q m') (hc : ∀ m : j_M0, Q m → vG K m ∧ m 110 3 = b ∧ ∀ p : Nat, p ≤ pN K → (x < 0 → c_call (d + 3) 208 [jR 109, jI p] (hH L m) = some (some (jL (a p)), hH L m)) ∧ (¬ x < 0 → c_call (d + 3) 202 [jR 109, jI x, jI p] (hH L m) = some (some (jL (a p)), hH L m))) : ∀ (j k : Nat), k + j = N → ∀ m : j_M0, Q m → ∃ m', j_fin (c_call (d + 4)) 222 17 [some (jR 109), some (jI x), some (jI (boxC b (pN K) N k))] [] (hH L m) = some (some (jI (losF K b a j k)), hH L m') ∧ kpt (fun c z => c = 141) m m' := by
  have n5 := ok.2.1
  intro j
  induction j with
  | zero =>
    intro k hk m w
    have e : boxC b (pN K) N k = -1 := by unfold boxC; rw [if_neg (by omega)]
    rw [e, T222_17, if_pos (by omega)]
    exact ⟨m, rfl, kpt_rfl⟩
  | succ j ih =>
    intro k hk m w0
    obtain ⟨w, h3, -⟩ := hc m w0
    have bd := boxD_r hb.1 (pN K) k
    have bd9 : d9 (pN K) (boxD b (pN K) k) := fun q hq => by have := bd q hq; omega
    have e : boxC b (pN K) N k = horF 10 (boxD b (pN K) k) (pN K) := by unfold boxC; rw [if_pos (by omega)]
    have c := cst_R ok bd9
    obtain ⟨m1, q1, q2, q3⟩ := Q212 (d := d + 2) (L := L) w.2.1 n5 bd9
    have w10 : Q m1 := hQ m m1 w0 q2
    obtain ⟨w1, h31, hc1⟩ := hc m1 w10
    obtain ⟨m2, p1, p2⟩ := Q216 (d := d + 1) (L := L) (m := m1) hb n5 w1.2.1 h31 bd
    rw [boxC_s hb.1 hN (by omega)] at p1
    have go : ∃ m', ((c_call (d + 4) 216 [jR 109, jI (horF 10 (boxD b (pN K) k) (pN K))] (hH L m1)).bind fun z => j_fin (c_call (d + 4)) 222 48 [some (jR 109), some (jI x), some (jI (horF 10 (boxD b (pN K) k) (pN K)))] (z.1.toList ++ []) z.2) = some (some (jI (losF K b a j (k + 1))), hH L m') ∧ kpt (fun c z => c = 141) m m' := by
      obtain ⟨m3, t1, t2⟩ := ih (k + 1) (by omega) m2 (hQ m1 m2 w10 p2)
      rw [show c_call (d + 4) 216 _ _ = _ from p1]
      simp only [Option.bind_some, Option.toList_some, List.cons_append, List.nil_append]
      rw [T222_48]
      exact ⟨m3, t1, kpt_tr (kpt_tr q2 p2) t2⟩
    have l := L221 (d := d) (L := L) (δ := boxD b (pN K) k) (a := a) (x := x) w1.2.1 n5 q3 hc1 (pN K) 0 (by omega)
    have l' : c_call (d + 4) 221 [jR 109, jI x] (hH L m1) = some (some (jI (bI (a (pN K) < byS a (boxD b (pN K) k) (pN K)))), hH L m1) := (E221 (d := d + 3)).trans (T221_0.trans l)
    rw [e, T222_17, if_neg (by omega), show c_call (d + 4) 212 _ _ = _ from q1]
    simp only [Option.bind_some, Option.toList_some, List.cons_append, List.nil_append, Option.toList_none]
    rw [T222_26, l']
    simp only [Option.bind_some, Option.toList_some, List.cons_append, List.nil_append]
    rw [T222_31]
    unfold losF
    by_cases e2 : a (pN K) < byS a (boxD b (pN K) k) (pN K)
    · rw [bI_t e2, if_neg (by decide), Q215 w1 ok bd9 q3]
      simp only [Option.bind_some, Option.toList_some, List.cons_append, List.nil_append]
      rw [T222_38]
      have br := brkF_r K (boxD b (pN K) k) (pR K)
      by_cases e3 : brkF K (boxD b (pN K) k) (pR K) = 0
      · rw [if_pos e3, if_pos ⟨br.2.2.mp e3, e2⟩]
        exact ⟨m1, rfl, q2⟩
      · rw [if_neg e3, if_neg (fun h => e3 (br.2.2.mpr h.1))]
        exact go
    · rw [bI_f e2, if_pos rfl, if_neg (fun h => e2 h.2)]
      exact go
