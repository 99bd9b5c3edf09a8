/-! nth. -/
def nthV (s : NS) (k : Nat) : Int := if k < s.1 then s.2.2 k else -5
theorem L110 {d L : Nat} {K : PK} {b : Int} {N x : Nat} (hx : x < 20) (hb : 0 ≤ b ∧ b ≤ 6) (hN : (N : Int) = (b + 1) ^ (pN K)) (hN2 : N ≤ 16807) : ∀ (j k : Nat), k + j = N → ∀ m : j_M0, vP 155 K m → (∀ i : Nat, i < 6 → m 1 i = tenF i) → (k < N → wkR K b (boxD b (pN K) k) m) → nsC (nthF K b k) m → ∃ m', j_fin (c_call (d + 4)) 110 49 [some (jR 2), some (jI x), some (jI j)] [] (hH L m) = some (some (jI (nthV (nthF K b N) x)), hH L m') ∧ kpt (fun c z => 86 ≤ c ∧ c ≤ 92) m m' := by
  intro j
  induction j with
  | zero =>
    intro k hk m w ht s g
    have e : k = N := by omega
    subst e
    rw [T110_49, if_neg (by omega), g.1]
    unfold nthV
    by_cases e : x < (nthF K b k).1
    · have h := (g.2 x (by omega)).1
      simp only [Nat.reduceAdd] at h
      rw [if_pos (by omega), if_pos (by omega), Int.toNat_natCast, h, if_pos e]
      exact ⟨m, rfl, kpt_rfl⟩
    · rw [if_neg (by omega), if_neg e]
      exact ⟨m, rfl, kpt_rfl⟩
  | succ j ih =>
    intro k hk m w ht s0 g
    have s := s0 (by omega)
    have o := nthF_o hb hN k (by omega)
    have go : ∀ m1 : j_M0, kpt (fun c z => 86 ≤ c ∧ c ≤ 92) m m1 → wkR K b (boxD b (pN K) k) m1 → nsC (nthF K b (k + 1)) m1 → ∃ m', j_fin (c_call (d + 4)) 110 84 [some (jR 2), some (jI x), some (jI ((j + 1 : Nat) : Int))] [] (hH L m1) = some (some (jI (nthV (nthF K b N) x)), hH L m') ∧ kpt (fun c z => 86 ≤ c ∧ c ≤ 92) m m' := by
      intro m1 g1 s1 n1
      have w1 : vP 155 K m1 := vP_k w (fun c z h h' => kpt_at g1 (by omega))
      have ht1 : ∀ i : Nat, i < 6 → m1 1 i = tenF i := fun i hi => (kpt_at g1 (by omega)).trans (ht i hi)
      obtain ⟨m2, q1, q2, q3⟩ := Q82 (d := d) (L := L) hb w1 ht1 s1 (boxD_r hb.1 (pN K) k)
      obtain ⟨m3, t1, t2⟩ := ih (k + 1) (by omega) m2 (vP_k w1 (fun c z h h' => kpt_at q2 (by omega))) (fun i hi => (kpt_at q2 (by omega)).trans (ht1 i hi)) (fun _ => q3) (shD_k n1 (fun c z h h' => kpt_at q2 (by omega)))
      rw [T110_84, q1]
      simp only [Option.bind_some, Option.toList_some, List.cons_append, List.nil_append, Option.toList_none]
      rw [T110_91, w32_id (by omega) (by omega), show ((j + 1 : Nat) : Int) + (-1) = (j : Int) by omega]
      exact ⟨m3, t1, kpt_tr (kpt_tr g1 (kpt_w q2 (fun c z h => by omega))) t2⟩
    obtain ⟨f, h1, h2⟩ := Q84 (d := d + 3) (L := L) w s
    rw [T110_49, if_pos (by omega), show c_call (d + 4) 84 _ (hH L m) = _ from h1]
    simp only [Option.bind_some, Option.toList_some, List.cons_append, List.nil_append]
    rw [T110_60]
    rcases h2 with ⟨rfl, h2⟩ | ⟨rfl, h2⟩
    · have e : nthF K b (k + 1) = nsI (nthF K b k) (cstF (pC K) (boxD b (pN K) k) (pN K)) (horF 10 (boxD b (pN K) k) (pN K)) := by
        rw [nthF, if_pos h2]
      obtain ⟨m1, q1, q2, q3⟩ := Q26 (d := d + 1) (L := L) (cost := cstF (pC K) (boxD b (pN K) k) (pN K)) g o
      rw [if_neg (by decide), s.1, s.2.1, show c_call (d + 4) 26 _ (hH L m) = _ from q1]
      simp only [Option.bind_some, Option.toList_some, List.cons_append, List.nil_append, Option.toList_none]
      exact go m1 (kpt_w q2 (fun c z h => by omega)) (wkR_k s (fun c z h h' => kpt_at q2 (by omega))) (by rw [e]; exact q3)
    · have e : nthF K b (k + 1) = nthF K b k := by
        rw [nthF, if_neg h2]
      rw [if_pos rfl]
      exact go m kpt_rfl s (by rw [e]; exact g)
/-! the model's nth -/
def nsM (K1 : Nat) (s : NS) (m : j_M0) : Prop := ∀ i : Nat, i < min s.1 K1 → m 142 i = s.2.2 i ∧ m 143 i = s.2.1 i
theorem L218i {d L M k many : Nat} {x c : Nat → Int} {code cost : Int} (hM : M < 20) (hk : k < 20) (hmany : many ≤ 20) (hx : ∀ i : Nat, i < M → x i < code) : ∀ (j : Nat) (m : j_M0), j ≤ M → (∀ i : Nat, i < j → m 142 i = x i ∧ m 143 i = c i) → (∀ i : Nat, j < i → i ≤ M → m 142 i = x (i - 1) ∧ m 143 i = c (i - 1)) → ∃ (m' : j_M0) (p' : Int), j_fin (c_call (d + 1)) 218 68 [some (jR 109), some (jI k), some (jI many), some (jI code), some (jI cost), some (jI j)] [] (hH L m) = ((c_call (d + 1) 216 [jR 109, jI code] (hH L m')).bind fun z => j_fin (c_call (d + 1)) 218 157 [some (jR 109), some (jI k), some (jI (min (many + 1) (k + 1) : Nat)), some (jI code), some (jI cost), some (jI p')] (z.1.toList ++ []) z.2) ∧ kpt (fun b _ => 142 ≤ b ∧ b ≤ 143) m m' ∧ ∀ i : Nat, i ≤ M → m' 142 i = insA x (posL cost code c x j) code i ∧ m' 143 i = insA c (posL cost code c x j) cost i := by
  have fin : ∀ (j : Nat) (m : j_M0), j ≤ M → (∀ i : Nat, i < j → m 142 i = x i ∧ m 143 i = c i) → (∀ i : Nat, j < i → i ≤ M → m 142 i = x (i - 1) ∧ m 143 i = c (i - 1)) → ∃ (m' : j_M0) (p' : Int), ((c_call (d + 1) 268 [jI (w32 ((many : Int) + 1)), jI (w32 ((k : Int) + 1))] (hH L (j_up (j_up m 142 j code) 143 j cost))).bind fun z => j_fin (c_call (d + 1)) 218 151 [some (jR 109), some (jI k), some (jI many), some (jI code), some (jI cost), some (jI j)] (z.1.toList ++ []) z.2) = ((c_call (d + 1) 216 [jR 109, jI code] (hH L m')).bind fun z => j_fin (c_call (d + 1)) 218 157 [some (jR 109), some (jI k), some (jI (min (many + 1) (k + 1) : Nat)), some (jI code), some (jI cost), some (jI p')] (z.1.toList ++ []) z.2) ∧ kpt (fun b _ => 142 ≤ b ∧ b ≤ 143) m m' ∧ ∀ i : Nat, i ≤ M → m' 142 i = insA x j code i ∧ m' 143 i = insA c j cost i := by
    intro j m hj h1 h2
    refine ⟨j_up (j_up m 142 j code) 143 j cost, (j : Int), ?_, kpt_tr (kpt_up (by omega)) (kpt_up (by omega)), fun i hi => ?_⟩
    · rw [nat1 (by omega), nat1 (by omega), Q268]
      simp only [Option.bind_some, Option.toList_some, List.cons_append, List.nil_append]
      rw [T218_151, show min (((many + 1 : Nat) : Int)) ((k + 1 : Nat) : Int) = ((min (many + 1) (k + 1) : Nat) : Int) by omega]
    · simp (disch := omega) only [up_ne, up_at]
      by_cases e2 : i = j
      · simp only [if_pos e2, insA_eq e2]
        exact ⟨trivial, trivial⟩
      · simp only [if_neg e2]
        by_cases e3 : i < j
        · simp only [insA_lt e3]
          exact h1 i e3
        · simp only [insA_gt (show j < i by omega)]
          exact h2 i (by omega) hi
  intro j
  induction j with
  | zero =>
    intro m hj h1 h2
    rw [T218_68, if_neg (by omega), if_pos (by omega), if_pos (by omega), Int.toNat_natCast]
    exact fin 0 m hj h1 h2
  | succ j ih =>
    intro m hj h1 h2
    have hj1 := h1 j (by omega)
    have e0 : w32 (((j + 1 : Nat) : Int) - 1) = (j : Int) := by
      rw [w32_id (by omega) (by omega)]
      omega
    have hxj := hx j (by omega)
    rw [T218_68, if_pos (by omega), e0, if_pos (by omega), Int.toNat_natCast, hj1.2]
    unfold posL
    by_cases e : cost < c j
    · rw [if_pos e, if_pos (Or.inl e), if_pos (by omega), if_pos (by omega), if_pos (by omega), if_pos (by omega)]
      simp (disch := omega) only [Int.toNat_natCast, up_ne, hj1.1, hj1.2]
      rw [w32_id (by omega) (by omega), show ((j + 1 : Nat) : Int) + (-1) = (j : Int) by omega]
      obtain ⟨m', p', t1, t2, t3⟩ := ih (j_up (j_up m 142 (j + 1) (x j)) 143 (j + 1) (c j)) (by omega) (fun i hi => by
        simp (disch := omega) only [up_ne, up_nj]
        exact h1 i (by omega)) (fun i hi hi2 => by
        simp (disch := omega) only [up_ne, up_at]
        by_cases e2 : i = j + 1
        · subst e2
          simp only [if_true, Nat.add_sub_cancel]
          exact ⟨trivial, trivial⟩
        · simp only [if_neg e2]
          exact h2 i (by omega) hi2)
      exact ⟨m', p', t1, kpt_tr (kpt_tr (kpt_up (by omega)) (kpt_up (by omega))) t2, t3⟩
    · have e' : ¬ (cost < c j ∨ (cost = c j ∧ code < x j)) := by omega
      rw [if_neg e, if_neg e', if_pos (by omega), if_pos (by omega), Int.toNat_natCast]
      exact fin (j + 1) m hj h1 h2
theorem L218 {d L : Nat} {K : PK} {b : Int} {N x : Nat} (hx : x < 20) (ok : pOK K) (hb : 0 ≤ b ∧ b ≤ 6) (hN : (N : Int) = (b + 1) ^ (pN K)) (hN2 : N ≤ 16807) : ∀ (j k : Nat), k + j = N → ∀ (m : j_M0) (o4 o5 : Option j_V), vG K m → m 110 3 = b → nsM (x + 1) (nthF K b k) m → ∃ m', j_fin (c_call (d + 4)) 218 19 [some (jR 109), some (jI x), some (jI (min (nthF K b k).1 (x + 1) : Nat)), some (jI (boxC b (pN K) N k)), o4, o5] [] (hH L m) = some (some (jI (nthV (nthF K b N) x)), hH L m') ∧ kpt (fun c z => 141 ≤ c ∧ c ≤ 143) m m' := by
  have n5 := ok.2.1
  intro j
  induction j with
  | zero =>
    intro k hk m o4 o5 w h3 g
    have e : boxC b (pN K) N k = -1 := by unfold boxC; rw [if_neg (by omega)]
    have ek : k = N := by omega
    subst ek
    rw [e, T218_19, if_pos (by omega)]
    unfold nthV
    by_cases e : x < (nthF K b k).1
    · rw [if_pos (by omega), if_pos (by omega), Int.toNat_natCast, (g x (by omega)).1, if_pos e]
      exact ⟨m, rfl, kpt_rfl⟩
    · rw [if_neg (by omega), if_neg e]
      exact ⟨m, rfl, kpt_rfl⟩
  | succ j ih =>
    intro k hk m o4 o5 w h3 g
    have o := nthF_o hb hN k (by omega)
    have bd := boxD_r hb.1 (pN K) k
    have bd9 : d9 (pN K) (boxD b (pN K) k) := fun q hq => by have := bd q hq; omega
    have e : boxC b (pN K) N k = horF 10 (boxD b (pN K) k) (pN K) := by unfold boxC; rw [if_pos (by omega)]
    have c := cst_R ok bd9
    obtain ⟨p1, p2, p3⟩ := nsO_p o (cstF (pC K) (boxD b (pN K) k) (pN K))
    obtain ⟨b1, b2, b3⟩ := posL_b (cstF (pC K) (boxD b (pN K) k) (pN K)) (horF 10 (boxD b (pN K) k) (pN K)) (nthF K b k).2.1 (nthF K b k).2.2 (nthF K b k).1
    obtain ⟨m1, q1, q2, q3⟩ := Q213 (d := d + 1) (L := L) w ok bd9
    have w1 : vG K m1 := vG_k w (fun z => kpt_at q2 (by omega))
    have h31 : m1 110 3 = b := (kpt_at q2 (by omega)).trans h3
    have g1 : nsM (x + 1) (nthF K b k) m1 := fun i hi => ⟨(kpt_at q2 (by omega)).trans (g i hi).1, (kpt_at q2 (by omega)).trans (g i hi).2⟩
    have br := brkF_r K (boxD b (pN K) k) (pR K)
    have e1 : obyF K (boxD b (pN K) k) → nthF K b (k + 1) = nsI (nthF K b k) (cstF (pC K) (boxD b (pN K) k) (pN K)) (horF 10 (boxD b (pN K) k) (pN K)) := fun h => by rw [nthF, if_pos h]
    have e2 : ¬ obyF K (boxD b (pN K) k) → nthF K b (k + 1) = nthF K b k := fun h => by rw [nthF, if_neg h]
    have e3 : (nsI (nthF K b k) (cstF (pC K) (boxD b (pN K) k) (pN K)) (horF 10 (boxD b (pN K) k) (pN K))).1 = (nthF K b k).1 + 1 := rfl
    have e4 : (nsI (nthF K b k) (cstF (pC K) (boxD b (pN K) k) (pN K)) (horF 10 (boxD b (pN K) k) (pN K))).2.1 = insA (nthF K b k).2.1 (posL (cstF (pC K) (boxD b (pN K) k) (pN K)) (horF 10 (boxD b (pN K) k) (pN K)) (nthF K b k).2.1 (nthF K b k).2.2 (nthF K b k).1) (cstF (pC K) (boxD b (pN K) k) (pN K)) := rfl
    have e5 : (nsI (nthF K b k) (cstF (pC K) (boxD b (pN K) k) (pN K)) (horF 10 (boxD b (pN K) k) (pN K))).2.2 = insA (nthF K b k).2.2 (posL (cstF (pC K) (boxD b (pN K) k) (pN K)) (horF 10 (boxD b (pN K) k) (pN K)) (nthF K b k).2.1 (nthF K b k).2.2 (nthF K b k).1) (horF 10 (boxD b (pN K) k) (pN K)) := rfl
    have go : ∀ (m2 : j_M0) (mn : Nat) (o4' o5' : Option j_V), kpt (fun c z => 141 ≤ c ∧ c ≤ 143) m m2 → nsM (x + 1) (nthF K b (k + 1)) m2 → mn = min (nthF K b (k + 1)).1 (x + 1) → ∃ m', ((c_call (d + 4) 216 [jR 109, jI (horF 10 (boxD b (pN K) k) (pN K))] (hH L m2)).bind fun z => j_fin (c_call (d + 4)) 218 157 [some (jR 109), some (jI x), some (jI mn), some (jI (horF 10 (boxD b (pN K) k) (pN K))), some (jI (cstF (pC K) (boxD b (pN K) k) (pN K))), o5'] (z.1.toList ++ []) z.2) = some (some (jI (nthV (nthF K b N) x)), hH L m') ∧ kpt (fun c z => 141 ≤ c ∧ c ≤ 143) m m' := by
      intro m2 mn o4' o5' g2 n2 hmn
      have w2 : vG K m2 := vG_k w (fun z => kpt_at g2 (by omega))
      obtain ⟨m3, t1, t2⟩ := Q216 (d := d + 1) (L := L) (m := m2) hb n5 w2.2.1 ((kpt_at g2 (by omega)).trans h3) bd
      rw [boxC_s hb.1 hN (by omega)] at t1
      obtain ⟨m4, r1, r2⟩ := ih (k + 1) (by omega) m3 (some (jI (cstF (pC K) (boxD b (pN K) k) (pN K)))) o5' (vG_k w2 (fun z => kpt_at t2 (by omega))) ((kpt_at t2 (by omega)).trans ((kpt_at g2 (by omega)).trans h3)) (fun i hi => ⟨(kpt_at t2 (by omega)).trans (n2 i hi).1, (kpt_at t2 (by omega)).trans (n2 i hi).2⟩)
      rw [show c_call (d + 4) 216 _ _ = _ from t1]
      simp only [Option.bind_some, Option.toList_some, List.cons_append, List.nil_append]
      rw [T218_157, hmn]
      exact ⟨m4, r1, kpt_tr (kpt_tr g2 (kpt_w t2 (fun c z h => by omega))) r2⟩
    have skip : obyF K (boxD b (pN K) k) → x < (nthF K b k).1 → ¬ cstF (pC K) (boxD b (pN K) k) (pN K) < (nthF K b k).2.1 x → nsM (x + 1) (nthF K b (k + 1)) m1 ∧ min (nthF K b k).1 (x + 1) = min (nthF K b (k + 1)).1 (x + 1) := by
      intro h a1 a2
      have hp : x < posL (cstF (pC K) (boxD b (pN K) k) (pN K)) (horF 10 (boxD b (pN K) k) (pN K)) (nthF K b k).2.1 (nthF K b k).2.2 (nthF K b k).1 := by
        rcases Nat.lt_or_ge x (posL (cstF (pC K) (boxD b (pN K) k) (pN K)) (horF 10 (boxD b (pN K) k) (pN K)) (nthF K b k).2.1 (nthF K b k).2.2 (nthF K b k).1) with a | a
        · exact a
        · exact absurd (p2 x a a1) a2
      unfold nsM
      rw [e1 h, e3, e4, e5]
      refine ⟨fun i hi => ?_, by omega⟩
      rw [insA_lt (by omega), insA_lt (by omega)]
      exact g1 i (by omega)
    have ins : obyF K (boxD b (pN K) k) → (x < (nthF K b k).1 → cstF (pC K) (boxD b (pN K) k) (pN K) < (nthF K b k).2.1 x) → ∃ m', j_fin (c_call (d + 4)) 218 68 [some (jR 109), some (jI x), some (jI (min (nthF K b k).1 (x + 1) : Nat)), some (jI (horF 10 (boxD b (pN K) k) (pN K))), some (jI (cstF (pC K) (boxD b (pN K) k) (pN K))), some (jI (min (nthF K b k).1 x : Nat))] [] (hH L m1) = some (some (jI (nthV (nthF K b N) x)), hH L m') ∧ kpt (fun c z => 141 ≤ c ∧ c ≤ 143) m m' := by
      intro h a
      obtain ⟨m2, p', r1, r2, r3⟩ := L218i (d := d + 3) (L := L) (M := min (nthF K b k).1 x) (k := x) (many := min (nthF K b k).1 (x + 1)) (x := (nthF K b k).2.2) (c := (nthF K b k).2.1) (code := horF 10 (boxD b (pN K) k) (pN K)) (cost := cstF (pC K) (boxD b (pN K) k) (pN K)) (by omega) hx (by omega) (fun i hi => o.2 i (by omega)) (min (nthF K b k).1 x) m1 (Nat.le_refl _) (fun i hi => g1 i (by omega)) (fun i h h' => by omega)
      have hp : posL (cstF (pC K) (boxD b (pN K) k) (pN K)) (horF 10 (boxD b (pN K) k) (pN K)) (nthF K b k).2.1 (nthF K b k).2.2 (min (nthF K b k).1 x) = posL (cstF (pC K) (boxD b (pN K) k) (pN K)) (horF 10 (boxD b (pN K) k) (pN K)) (nthF K b k).2.1 (nthF K b k).2.2 (nthF K b k).1 := by
        rcases Nat.lt_or_ge x (nthF K b k).1 with a1 | a1
        · have a2 := a a1
          refine posL_u _ ?_ (fun i h h' => b2 i h (by omega)) b3
          rcases Nat.lt_or_ge x (posL (cstF (pC K) (boxD b (pN K) k) (pN K)) (horF 10 (boxD b (pN K) k) (pN K)) (nthF K b k).2.1 (nthF K b k).2.2 (nthF K b k).1) with a3 | a3
          · have := p3 x a3
            omega
          · omega
        · rw [show min (nthF K b k).1 x = (nthF K b k).1 by omega]
      rw [hp] at r3
      rw [show j_fin (c_call (d + 4)) 218 68 _ _ (hH L m1) = _ from r1]
      refine go m2 _ none _ (kpt_tr (kpt_w q2 (fun c z h => by omega)) (kpt_w r2 (fun c z h => by omega))) ?_ ?_
      · unfold nsM
        rw [e1 h, e3, e4, e5]
        exact fun i hi => r3 i (by omega)
      · rw [e1 h, e3]
        omega
    have q215 := Q215 (d := d) (L := L) w1 ok bd9 q3
    have cut : (x < (nthF K b k).1 → cstF (pC K) (boxD b (pN K) k) (pN K) < (nthF K b k).2.1 x) → ∃ m', ((c_call (d + 4) 215 [jR 109] (hH L m1)).bind fun z => j_fin (c_call (d + 4)) 218 50 [some (jR 109), some (jI x), some (jI (min (nthF K b k).1 (x + 1) : Nat)), some (jI (horF 10 (boxD b (pN K) k) (pN K))), some (jI (cstF (pC K) (boxD b (pN K) k) (pN K))), o5] (z.1.toList ++ []) z.2) = some (some (jI (nthV (nthF K b N) x)), hH L m') ∧ kpt (fun c z => 141 ≤ c ∧ c ≤ 143) m m' := by
      intro a
      rw [q215]
      simp only [Option.bind_some, Option.toList_some, List.cons_append, List.nil_append]
      rw [T218_50]
      by_cases h : obyF K (boxD b (pN K) k)
      · have hz := br.2.2.mpr h
        have i1 := ins h a
        rw [if_neg (by omega)]
        by_cases a1 : x < (nthF K b k).1
        · rw [if_pos (by omega)]
          rw [show min (nthF K b k).1 x = x by omega] at i1
          exact i1
        · rw [if_neg (by omega)]
          rw [show min (nthF K b k).1 x = min (nthF K b k).1 (x + 1) by omega] at i1
          exact i1
      · have hz : ¬ brkF K (boxD b (pN K) k) (pR K) = 0 := fun h' => h (br.2.2.mp h')
        rw [if_pos (by omega)]
        exact go m1 _ none o5 (kpt_w q2 (fun c z h => by omega)) (by rw [e2 h]; exact g1) (by rw [e2 h])
    rw [e, T218_19, if_neg (by omega), q1]
    simp only [Option.bind_some, Option.toList_some, List.cons_append, List.nil_append]
    rw [T218_28]
    by_cases a1 : x < (nthF K b k).1
    · rw [if_pos (by omega), if_pos (by omega), Int.toNat_natCast, (g1 x (by omega)).2]
      by_cases a2 : cstF (pC K) (boxD b (pN K) k) (pN K) < (nthF K b k).2.1 x
      · rw [if_pos a2]
        exact cut (fun _ => a2)
      · rw [if_neg a2]
        by_cases h : obyF K (boxD b (pN K) k)
        · obtain ⟨z1, z2⟩ := skip h a1 a2
          exact go m1 _ none o5 (kpt_w q2 (fun c z h => by omega)) z1 z2
        · exact go m1 _ none o5 (kpt_w q2 (fun c z h => by omega)) (by rw [e2 h]; exact g1) (by rw [e2 h])
    · rw [if_neg (by omega)]
      exact cut (fun h => absurd h a1)
theorem PA110 {L : Nat} {xs : Nat → Int32} {m : j_M0} (w : Rel xs m) (x : Int) : PA L xs 110 218 [jI x] m := by
  by_cases g : 0 ≤ x ∧ x ≤ 19
  · obtain ⟨x, rfl⟩ : ∃ k : Nat, x = k := ⟨_, (Int.toNat_of_nonneg (by omega)).symm⟩
    obtain ⟨hb, e34, ok⟩ := Rel_b w
    have wP := Rel_vP w
    have ht := w.1.2
    generalize hK : pkG (m 110) = K at ok wP
    have n5 := ok.2.1
    obtain ⟨N, hN, hN1, hN2⟩ := boxN hb n5
    have wP0 : vP 4 K (j_up m 89 0 0) := vP_k wP (fun c z h h' => up_ne (by omega))
    obtain ⟨m1, q1, q2, q3, q4, q5⟩ := Q81 (d := 6) (L := L) (K := K) (m := j_up m 89 0 0) hb wP0
    obtain ⟨m2, p1, p2⟩ := L110 (d := 5) (L := L) (K := K) (b := m 110 3) (x := x) (by omega) hb hN hN2 N 0 (by omega) m1 q5 (fun i hi => (kpt_at q2 (by omega)).trans ((up_ne (by omega)).trans (ht i hi))) (fun _ => q3) ⟨(kpt_at q2 (by omega)).trans (up_eq rfl), fun i hi => absurd hi (by
      show ¬ i < min 0 20
      omega)⟩
    have g3 : kpt sc m m2 := kpt_tr (kpt_up (by unfold sc; omega)) (kpt_tr (kpt_w q2 (fun c z h => by unfold sc; omega)) (kpt_w p2 (fun c z h => by unfold sc; omega)))
    have w2 : Rel xs m2 := Rel_k w g3
    have e110 := kpt_110 g3
    have wG : vG K m2 := by rw [← hK, ← e110]; exact Rel_vG w2
    obtain ⟨m3, t1, t2⟩ := L218 (d := 5) (L := L) (K := K) (b := m 110 3) (x := x) (by omega) ok hb hN hN2 N 0 (by omega) m2 none none wG (by rw [e110]) (fun i hi => absurd hi (by
      show ¬ i < min 0 (x + 1)
      omega))
    rw [boxC_0 hN1] at t1
    refine ⟨jI (nthV (nthF K (m 110 3) N) x), m2, m3, ?_, ?_, Rel_k w2 (kpt_w t2 (fun c z h => by unfold sc; omega))⟩
    · refine (E110 (d := 9)).trans ?_
      rw [T110_0, if_neg (by omega), if_pos (by omega), E22, T22_0_89]
      simp only [Option.bind_some, Option.toList_some, List.cons_append, List.nil_append, Option.toList_none]
      rw [T110_20, show (j_up m 89 0 0) 3 4 = m 110 3 from (up_ne (by omega)).trans e34, q1]
      simp only [Option.bind_some, Option.toList_some, List.cons_append, List.nil_append, Option.toList_none]
      rw [T110_41, q4, ← hN]
      exact p1
    · refine (E218 (d := 9)).trans ?_
      rw [T218_0, Q150]
      simp only [Option.bind_some, Option.toList_some, List.cons_append, List.nil_append]
      rw [bI_t g, T218_9, if_neg (by decide)]
      exact t1
  · refine PA_r w (v := jI (-2)) ((E110 (d := 9)).trans ?_) ((E218 (d := 9)).trans ?_)
    · rw [T110_0]
      by_cases h : x < 0
      · rw [if_pos h]
      · rw [if_neg h, if_neg (by omega)]
    · rw [T218_0, Q150]
      simp only [Option.bind_some, Option.toList_some, List.cons_append, List.nil_append]
      rw [bI_f g, T218_9, if_pos rfl]
