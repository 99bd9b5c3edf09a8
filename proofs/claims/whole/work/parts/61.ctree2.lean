/-! The class branches. -/
theorem cpy_b {m : j_M0} {a sp b dp n j : Nat} : j_cpy m a sp b dp n b j = if dp ≤ j ∧ j < dp + n then m a (sp + (j - dp)) else m b j := by unfold j_cpy; rw [if_pos rfl]
theorem Q76 {d L : Nat} {n : Nat} {t : TS} {m : j_M0} (s : sC n t m) (hN : sN t < 40) {k : Nat} (hk : k < sN t) (h0 : 0 ≤ sd t k ∧ sd t k ≤ (k : Int)) : ∃ m', c_call (d + 1) 76 [jR 68, jI k] (hH L m) = some (none, hH L m') ∧ kpt (fun b z => b = 69 ∧ z = sN t ∨ (b = 80 ∨ b = 81) ∧ 5 * sN t ≤ z) m m' ∧ m' 69 (sN t) = sd t k + 1 ∧ ∀ q : Nat, q < 5 → m' 80 (5 * sN t + q) = sl t k q ∧ m' 81 (5 * sN t + q) = sh t k q := by
  obtain ⟨s1, s2, s3, s4, s5, s6, s7, s8, s9, s10⟩ := s
  rw [E76, T76_0]
  simp (disch := omega) only [s1, up_ne, cpy_ne, w32_id, Int.toNat_natCast, s3 k hk, show ((k : Int) * 5).toNat = 5 * k by omega, show ((sN t : Int) * 5).toNat = 5 * sN t by omega]
  rw [if_pos (by omega), if_pos (by omega), if_pos (by omega), if_pos (by omega)]
  refine ⟨_, rfl, fun b z => ?_, ?_, fun q hq => ⟨?_, ?_⟩⟩
  · by_cases e1 : b = 81
    · subst e1
      by_cases e2 : 5 * sN t ≤ z
      · exact Or.inl (by omega)
      · right
        rw [cpy_b, if_neg (by omega), cpy_ne (by omega), up_ne (by omega)]
    · rw [cpy_ne e1]
      by_cases e2 : b = 80
      · subst e2
        by_cases e3 : 5 * sN t ≤ z
        · exact Or.inl (by omega)
        · right
          rw [cpy_b, if_neg (by omega), up_ne (by omega)]
      · rw [cpy_ne e2]
        by_cases e3 : b = 69 ∧ z = sN t
        · exact Or.inl (Or.inl e3)
        · right
          by_cases e4 : b = 69
          · subst e4; exact up_nj (by omega)
          · exact up_ne e4
  · rw [cpy_ne (by omega), cpy_ne (by omega), up_eq rfl]
  · rw [cpy_ne (by omega), cpy_b, if_pos (by omega), up_ne (by omega), show 5 * k + (5 * sN t + q - 5 * sN t) = 5 * k + q by omega]
    exact s5 k q hk hq
  · rw [cpy_b, if_pos (by omega), cpy_ne (by omega), up_ne (by omega), show 5 * k + (5 * sN t + q - 5 * sN t) = 5 * k + q by omega]
    exact s6 k q hk hq
theorem sC_j {n : Nat} {t : TS} {m m' : j_M0} (s : sC n t m) (hn : n ≤ 5) (k : ∀ b z, (b = 68 → m' b z = m b z) ∧ (b = 69 → z < sN t → m' b z = m b z) ∧ (b = 70 ∨ b = 80 ∨ b = 81 → z < 5 * sN t → m' b z = m b z) ∧ (82 ≤ b → b ≤ 85 → m' b z = m b z)) : sC n t m' := by
  obtain ⟨s1, s2, s3, s4, s5, s6, s7, s8, s9, s10⟩ := s
  refine ⟨((k 68 0).1 rfl).trans s1, ((k 68 1).1 rfl).trans s2, fun i h => ((k 69 i).2.1 rfl h).trans (s3 i h), fun i p h h' => ((k 70 _).2.2.1 (by omega) (by omega)).trans (s4 i p h h'), fun i p h h' => ((k 80 _).2.2.1 (by omega) (by omega)).trans (s5 i p h h'), fun i p h h' => ((k 81 _).2.2.1 (by omega) (by omega)).trans (s6 i p h h'), fun i h => ((k 82 i).2.2.2 (by omega) (by omega)).trans (s7 i h), fun i h => ((k 83 i).2.2.2 (by omega) (by omega)).trans (s8 i h), fun i h => ((k 84 i).2.2.2 (by omega) (by omega)).trans (s9 i h), fun i h => ((k 85 i).2.2.2 (by omega) (by omega)).trans (s10 i h)⟩
theorem Q75 {d L : Nat} {K : PK} {t : TS} {m : j_M0} (w : vP 4 K m) (s : sC (pN K) t m) (si : sI K t) {k p : Nat} (hk : k < sN t) (hp : p < pN K) (hpp : partP (sT t k) = (p : Int)) (hw : 0 ≤ whoF t k p ∧ whoF t k p ≤ 1000000000) : ∃ m', c_call (d + 6) 75 [jR 68, jR 4, jI k] (hH L m) = some (some (jI (if (splF K t k p).1 = true then 1 else 0)), hH L m') ∧ kpt (fun b _ => 68 ≤ b ∧ b ≤ 85) m m' ∧ sC (pN K) (splF K t k p).2 m' := by
  have ok := vP_ok w
  have n5 := ok.2.1
  have i1 := si.1
  have hd := si.2.2.2.1 k hk
  have hb := si.2.2.2.2.1 k hk
  have s1 := s.1
  have s4 := s.2.2.2.1 k p hk hp
  have s9 := s.2.2.2.2.2.2.2.2.1 k hk
  rw [E75, T75_0, if_pos (by omega), Int.toNat_natCast, s9, hpp, s1]
  simp (disch := omega) only [w32_id, show ((k : Int) * 5 + (p : Int)).toNat = 5 * k + p by omega, s4]
  rw [if_pos (by omega)]
  unfold splF
  by_cases hN : sN t < 40
  · rw [if_pos (by omega), if_pos hN]
    obtain ⟨m1, q1, q2, q3, q4⟩ := Q76 (d := d + 4) (L := L) s hN hk hd
    rw [show c_call (d + 5) 76 _ _ = _ from q1]
    simp only [Option.bind_some, Option.toList_some, List.cons_append, List.nil_append, Option.toList_none]
    have y1 : m1 68 0 = sN t := (kpt_at q2 (by omega)).trans s1
    rw [T75_35, y1]
    simp (disch := omega) only [w32_id, show ((sN t : Int) * 5 + (p : Int)).toNat = 5 * sN t + p by omega]
    rw [if_pos (by omega)]
    have w1 : vP 4 K (j_up m1 81 (5 * sN t + p) (whoF t k p)) := vP_k w (fun b z h h' => (up_ne (by omega)).trans (kpt_at q2 (by omega)))
    have c1 : sC (pN K) t (j_up m1 81 (5 * sN t + p) (whoF t k p)) := sC_j s n5 (fun b z => ⟨fun h => (up_ne (by omega)).trans (kpt_at q2 (by omega)), fun h h' => (up_ne (by omega)).trans (kpt_at q2 (by omega)), fun h h' => by
      by_cases e : b = 81
      · subst e
        rw [up_nj (by omega), kpt_at q2 (by omega)]
      · rw [up_ne e, kpt_at q2 (by omega)], fun h h' => (up_ne (by omega)).trans (kpt_at q2 (by omega))⟩)
    obtain ⟨m2, p1, p2, p3⟩ := Q77 (d := d) (L := L) w1 c1 si hN (d0 := sd t k + 1) (l := sl t k) (h := setL (sh t k) p (whoF t k p)) (setL_h hb hw) ((up_ne (by omega)).trans q3) (fun q hq => ⟨(up_ne (by omega)).trans (q4 q hq).1, by
      unfold setL
      rw [up_at]
      by_cases e : q = p
      · subst e; rw [if_pos rfl, if_pos rfl]
      · rw [if_neg (by omega), if_neg e]; exact (q4 q hq).2⟩)
    rw [p1]
    simp only [Option.bind_some, Option.toList_some, List.cons_append, List.nil_append]
    rw [T75_55]
    have g2 : kpt (fun b _ => 68 ≤ b ∧ b ≤ 85) m m2 := kpt_tr (kpt_tr (kpt_w q2 (fun b z h => by omega)) (kpt_up (by omega))) p2
    by_cases e1 : (relR K (sl t k) (setL (sh t k) p (whoF t k p))).1 = -6
    · rw [if_pos e1, if_pos rfl, if_pos e1]
      exact ⟨m2, rfl, g2, p3⟩
    · have k68 : m2 68 0 = ((sN t + 1 : Nat) : Int) := p3.1
      rw [if_neg e1, if_neg (by decide), k68]
      simp only [if_neg e1]
      by_cases e2 : sN t + 1 < 40
      · rw [if_pos (by omega), if_pos e2]
        have si1 := addN_p ok si hN (d0 := sd t k + 1) (by omega) (setL_h (p := p) hb hw)
        have hNa : sN (addN K t (sd t k + 1) (sl t k) (setL (sh t k) p (whoF t k p))) = sN t + 1 := rfl
        have e5 : ∀ (γ : Type) (x y : γ), (if k = sN t then x else y) = y := fun γ x y => if_neg (by omega)
        have hda : sd (addN K t (sd t k + 1) (sl t k) (setL (sh t k) p (whoF t k p))) k = sd t k := e5 _ _ _
        have hla : sl (addN K t (sd t k + 1) (sl t k) (setL (sh t k) p (whoF t k p))) k = sl t k := e5 _ _ _
        have hha : sh (addN K t (sd t k + 1) (sl t k) (setL (sh t k) p (whoF t k p))) k = sh t k := e5 _ _ _
        generalize hta : addN K t (sd t k + 1) (sl t k) (setL (sh t k) p (whoF t k p)) = ta at p3 si1 hNa hda hla hha ⊢
        obtain ⟨m3, t1, t2, t3, t4⟩ := Q76 (d := d + 4) (L := L) p3 (by omega) (show k < sN ta by omega) (by rw [hda]; exact hd)
        rw [hda] at t3
        rw [hla, hha] at t4
        rw [show c_call (d + 5) 76 _ _ = _ from t1]
        simp only [Option.bind_some, Option.toList_some, List.cons_append, List.nil_append, Option.toList_none]
        have y3 : m3 68 0 = sN ta := (kpt_at t2 (by omega)).trans p3.1
        rw [T75_76, y3]
        simp (disch := omega) only [w32_id, w64_id, show ((sN ta : Int) * 5 + (p : Int)).toNat = 5 * sN ta + p by omega]
        rw [if_pos (by omega)]
        have w3 : vP 4 K (j_up m3 80 (5 * sN ta + p) (whoF t k p + 1)) := vP_k w1 (fun b z h h' => (up_ne (by omega)).trans ((kpt_at t2 (by omega)).trans (kpt_at p2 (by omega))))
        have c3 : sC (pN K) ta (j_up m3 80 (5 * sN ta + p) (whoF t k p + 1)) := sC_j p3 n5 (fun b z => ⟨fun h => (up_ne (by omega)).trans (kpt_at t2 (by omega)), fun h h' => (up_ne (by omega)).trans (kpt_at t2 (by omega)), fun h h' => by
          by_cases e : b = 80
          · subst e
            rw [up_nj (by omega), kpt_at t2 (by omega)]
          · rw [up_ne e, kpt_at t2 (by omega)], fun h h' => (up_ne (by omega)).trans (kpt_at t2 (by omega))⟩)
        obtain ⟨m4, r1, r2, r3⟩ := Q77 (d := d) (L := L) w3 c3 si1 (by omega) (d0 := sd t k + 1) (l := setL (sl t k) p (whoF t k p + 1)) (h := sh t k) (setL_l hb hw) ((up_ne (by omega)).trans t3) (fun q hq => ⟨by
          unfold setL
          rw [up_at]
          by_cases e : q = p
          · subst e; rw [if_pos rfl, if_pos rfl]
          · rw [if_neg (by omega), if_neg e]; exact (t4 q hq).1, (up_ne (by omega)).trans (t4 q hq).2⟩)
        rw [r1]
        simp only [Option.bind_some, Option.toList_some, List.cons_append, List.nil_append]
        rw [T75_98, if_pos (by split <;> omega)]
        refine ⟨m4, ?_, kpt_tr g2 (kpt_tr (kpt_tr (kpt_w t2 (fun b z h => by omega)) (kpt_up (by omega))) r2), r3⟩
        by_cases e6 : (relR K (setL (sl t k) p (whoF t k p + 1)) (sh t k)).1 = -6
        · rw [if_pos e6, if_neg (by rw [decide_eq_true_eq]; exact fun h => h e6)]
        · rw [if_neg e6, if_pos (by rw [decide_eq_true_eq]; exact e6)]
      · rw [if_neg (by omega), if_neg e2]
        exact ⟨m2, rfl, g2, p3⟩
  · rw [if_neg (by omega), if_neg hN]
    exact ⟨m, rfl, kpt_rfl, s⟩
theorem L78 {C : Nat → List j_V → j_H → Option j_Z} {L : Nat} {K : PK} {t : TS} {m : j_M0} (s : sC (pN K) t m) (si : sI K t) : ∀ j k : Nat, k + j = sN t → j_fin C 78 4 [some (jR 68), some (jI (hopF t k)), some (jI k)] [] (hH L m) = some (some (jI (hopF t (sN t))), hH L m) := by
  have i1 := si.1
  have s1 := s.1
  intro j
  induction j with
  | zero =>
    intro k hk
    rw [T78_4, if_neg (by omega), show k = sN t by omega]
  | succ j ih =>
    intro k hk
    have ih' := ih (k + 1) (by omega)
    have hb := hopF_b t k
    have k85 := s.2.2.2.2.2.2.2.2.2 k (by omega)
    have k82 := s.2.2.2.2.2.2.1 k (by omega)
    have k83 := s.2.2.2.2.2.2.2.1 k (by omega)
    rw [T78_4, if_pos (by omega), if_pos (by omega), nat1 (by omega), Int.toNat_natCast, k85, k82, k83]
    rw [hopF] at ih'
    by_cases e1 : sw t k = 0
    · rw [if_pos e1]
      rw [if_neg (fun h => h.1 e1)] at ih'
      exact ih'
    · rw [if_neg e1]
      by_cases e2 : hopF t k < 0
      · rw [if_pos e2]
        rw [if_pos ⟨e1, Or.inl e2⟩] at ih'
        exact ih'
      · obtain ⟨f, hf⟩ : ∃ f : Nat, hopF t k = f := ⟨_, (Int.toNat_of_nonneg (by omega)).symm⟩
        have h82 := s.2.2.2.2.2.2.1 f (by omega)
        have h83 := s.2.2.2.2.2.2.2.1 f (by omega)
        have a1 := (si.2.2.2.2.2 k (by omega)).1
        have a2 := (si.2.2.2.2.2 f (by omega)).1
        have b1 := a1.2.2.2.2.1
        have b2 := a1.2.2.2.2.2.1
        have b3 := a1.2.2.2.2.2.2.1
        have b4 := a1.2.2.2.2.2.2.2.1
        have c1 := a2.2.2.2.2.1
        have c2 := a2.2.2.2.2.2.1
        have c3 := a2.2.2.2.2.2.2.1
        have c4 := a2.2.2.2.2.2.2.2.1
        have p1 := mul_r (x := tB (sT t k)) (y := tD (sT t f)) (a := 1000000000) (b := 1000000000) (by omega) (by omega) (by omega) (by omega)
        have p2 := mul_r (x := tB (sT t f)) (y := tD (sT t k)) (a := 1000000000) (b := 1000000000) (by omega) (by omega) (by omega) (by omega)
        rw [if_neg e2]
        rw [hf] at ih' ⊢
        rw [if_pos (by omega), if_pos (by omega), if_pos (by omega), if_pos (by omega), Int.toNat_natCast, h82, h83, w64_id (by omega) (by omega), w64_id (by omega) (by omega)]
        rw [Int.toNat_natCast] at ih'
        simp only [cmp_lt]
        by_cases e3 : tB (sT t k) * tD (sT t f) < tB (sT t f) * tD (sT t k)
        · rw [if_pos e3]
          rw [if_pos ⟨e1, Or.inr e3⟩] at ih'
          exact ih'
        · rw [if_neg e3]
          rw [if_neg (fun h => by
            rcases h.2 with h | h
            · omega
            · exact e3 h)] at ih'
          exact ih'
theorem Q78 {d L : Nat} {K : PK} {t : TS} {m : j_M0} (s : sC (pN K) t m) (si : sI K t) : c_call (d + 1) 78 [jR 68] (hH L m) = some (some (jI (hopF t (sN t))), hH L m) := by
  rw [E78, T78_0]
  exact L78 s si (sN t) 0 (by omega)
theorem splF_p {K : PK} (ok : pOK K) {t : TS} (si : sI K t) {k p : Nat} (hk : k < sN t) (hw : 0 ≤ whoF t k p ∧ whoF t k p ≤ 1000000000) : sI K (splF K t k p).2 ∧ ((splF K t k p).1 = true → sN (splF K t k p).2 = sN t + 2) := by
  have hd := si.2.2.2.1 k hk
  have hb := si.2.2.2.2.1 k hk
  unfold splF
  split
  · rename_i hN
    have si1 := addN_p ok si hN (d0 := sd t k + 1) (by omega) (setL_h (p := p) hb hw)
    dsimp only
    split
    · exact ⟨si1, fun h => by cases h⟩
    · split
      · rename_i hN2
        refine ⟨addN_p ok si1 hN2 ⟨by omega, ?_⟩ (setL_l hb hw), fun _ => rfl⟩
        show sd t k + 1 ≤ ((sN t + 1 : Nat) : Int)
        omega
      · exact ⟨si1, fun h => by cases h⟩
  · exact ⟨si, fun h => by cases h⟩
theorem groF_p {K : PK} (ok : pOK K) : ∀ (f : Nat) (t : TS), sI K t → sI K (groF K f t).2 ∧ ((groF K f t).1 = -6 ∨ (groF K f t).1 = -5 ∨ (0 ≤ (groF K f t).1 ∧ (groF K f t).1 < (sN (groF K f t).2 : Int) ∧ sw (groF K f t).2 (groF K f t).1.toNat ≠ 0)) := by
  intro f
  induction f with
  | zero => intro t si; exact ⟨si, Or.inl rfl⟩
  | succ f ih =>
    intro t si
    have hb := hopF_b t (sN t)
    unfold groF
    split
    · exact ⟨si, Or.inr (Or.inl rfl)⟩
    · split
      · exact ⟨si, Or.inr (Or.inr (by
          show 0 ≤ hopF t (sN t) ∧ hopF t (sN t) < (sN t : Int) ∧ sw t (hopF t (sN t)).toNat ≠ 0
          omega))⟩
      · rename_i e1 e2
        have hb2 : 0 ≤ hopF t (sN t) ∧ hopF t (sN t) < (sN t : Int) ∧ sw t (hopF t (sN t)).toNat ≠ 0 := by omega
        have nk := si.2.2.2.2.2 (hopF t (sN t)).toNat (by omega)
        have pb := partP_b (sT t (hopF t (sN t)).toNat)
        have hw := whoF_r si (k := (hopF t (sN t)).toNat) (p := (partP (sT t (hopF t (sN t)).toNat)).toNat) (by omega) (by have := ok.2.1; have := nk.2.1; omega) hb2.2.2
        have sp := splF_p ok (offN_p si (hopF t (sN t)).toNat) (k := (hopF t (sN t)).toNat) (p := (partP (sT t (hopF t (sN t)).toNat)).toNat) (show (hopF t (sN t)).toNat < sN t by omega) ⟨hw.1, hw.2.1⟩
        split
        · exact ih _ sp.1
        · exact ⟨sp.1, Or.inl rfl⟩
theorem L74 {d L : Nat} {K : PK} : ∀ (f u : Nat) (t : TS) (m : j_M0) (o3 : Option j_V), sN t + 2 * f = 43 → u + f = 21 → vP 4 K m → sC (pN K) t m → sI K t → ∃ m', j_fin (c_call (d + 6)) 74 59 [some (jR 68), some (jR 4), some (jI u), o3] [] (hH L m) = some (some (jI (groF K f t).1), hH L m') ∧ kpt (fun b _ => 68 ≤ b ∧ b ≤ 85) m m' ∧ sC (pN K) (groF K f t).2 m' := by
  intro f
  induction f with
  | zero =>
    intro u t m o3 h hu w s si
    have := si.1
    omega
  | succ f ih =>
    intro u t m o3 h hu w s si
    have ok := vP_ok w
    have n5 := ok.2.1
    have i1 := si.1
    have hb := hopF_b t (sN t)
    rw [T74_59, if_neg (by omega), show c_call (d + 6) 78 _ _ = _ from Q78 (d := d + 5) s si]
    simp only [Option.bind_some, Option.toList_some, List.cons_append, List.nil_append]
    rw [T74_69]
    unfold groF
    by_cases e1 : hopF t (sN t) < 0
    · rw [if_pos e1, if_pos e1]
      exact ⟨m, rfl, kpt_rfl, s⟩
    · rw [if_neg e1, if_neg e1]
      obtain ⟨k, hk⟩ : ∃ k : Nat, hopF t (sN t) = k := ⟨_, (Int.toNat_of_nonneg (by omega)).symm⟩
      rw [hk] at hb e1 ⊢
      rw [Int.toNat_natCast] at hb ⊢
      have k84 := s.2.2.2.2.2.2.2.2.1 k (by omega)
      rw [if_pos (by omega), k84]
      by_cases e2 : partP (sT t k) < 0
      · rw [if_pos e2, if_pos e2]
        exact ⟨m, rfl, kpt_rfl, s⟩
      · rw [if_neg e2, if_neg e2, if_pos (by omega)]
        obtain ⟨p, hp⟩ : ∃ p : Nat, partP (sT t k) = p := ⟨_, (Int.toNat_of_nonneg (by omega)).symm⟩
        have nk := si.2.2.2.2.2 k (by omega)
        have pb := partP_b (sT t k)
        have hpn : p < pN K := by have := nk.2.1; omega
        rw [hp, Int.toNat_natCast]
        have hw := whoF_r si (k := k) (p := p) (by omega) (by omega) (by omega)
        have so : sC (pN K) (offN t k) (j_up m 85 k 0) := by
          obtain ⟨s1, s2, s3, s4, s5, s6, s7, s8, s9, s10⟩ := s
          unfold sC
          simp (disch := omega) only [up_ne]
          refine ⟨s1, s2, s3, s4, s5, s6, s7, s8, s9, fun i hi => ?_⟩
          show _ = (if i = k then 0 else sw t i)
          rw [up_at]
          split
          · rfl
          · exact s10 i hi
        have oo := offN_p si k
        obtain ⟨m1, q1, q2, q3⟩ := Q75 (d := d) (L := L) (t := offN t k) (k := k) (p := p) (m := j_up m 85 k 0) (vP_k w (fun b z h h' => up_ne (by omega))) so oo (show k < sN t by omega) hpn hp ⟨hw.1, hw.2.1⟩
        rw [q1]
        simp only [Option.bind_some, Option.toList_some, List.cons_append, List.nil_append]
        rw [T74_101]
        have g1 : kpt (fun b _ => 68 ≤ b ∧ b ≤ 85) m m1 := kpt_tr (kpt_up (by omega)) q2
        have sp := splF_p ok oo (k := k) (p := p) (show k < sN t by omega) ⟨hw.1, hw.2.1⟩
        by_cases e3 : (splF K (offN t k) k p).1 = true
        · rw [if_pos e3, if_neg (by decide), if_pos e3, nat1 (by omega)]
          have hN2 : sN (splF K (offN t k) k p).2 = sN t + 2 := sp.2 e3
          obtain ⟨m2, t1, t2, t3⟩ := ih (u + 1) (splF K (offN t k) k p).2 m1 (some (jI k)) (by omega) (by omega) (vP_k w (fun b z h h' => kpt_at g1 (by omega))) q3 sp.1
          exact ⟨m2, t1, kpt_tr g1 t2, t3⟩
        · rw [if_neg e3, if_pos rfl, if_neg e3]
          exact ⟨m1, rfl, g1, q3⟩
theorem L74a {C : Nat → List j_V → j_H → Option j_Z} {L : Nat} : ∀ j k : Nat, k + j = 5 → ∀ m : j_M0, (∀ q : Nat, q < k → m 80 q = 0 ∧ m 81 q = -1) → ∃ m', j_fin C 74 19 [some (jR 68), some (jR 4), some (jI k), none] [] (hH L m) = j_fin C 74 19 [some (jR 68), some (jR 4), some (jI (5 : Nat)), none] [] (hH L m') ∧ kpt (fun b _ => b = 80 ∨ b = 81) m m' ∧ ∀ q : Nat, q < 5 → m' 80 q = 0 ∧ m' 81 q = -1 := by
  intro j
  induction j with
  | zero =>
    intro k hk m h
    have : k = 5 := by omega
    subst this
    exact ⟨m, rfl, kpt_rfl, h⟩
  | succ j ih =>
    intro k hk m h
    rw [T74_19, if_pos (by omega), if_pos (by omega), if_pos (by omega), nat1 (by omega), Int.toNat_natCast]
    obtain ⟨m', t1, t2, t3⟩ := ih (k + 1) (by omega) (j_up (j_up m 80 k 0) 81 k (-1)) (fun q hq => by
      rw [up_ne (by omega), up_at, up_at, up_ne (by omega)]
      by_cases e : q = k
      · rw [if_pos e, if_pos e]; exact ⟨rfl, rfl⟩
      · rw [if_neg e, if_neg e]; exact h q (by omega))
    exact ⟨m', t1, kpt_tr (kpt_tr (kpt_up (Or.inl rfl)) (kpt_up (Or.inr rfl))) t2, t3⟩
theorem Q74 {d L : Nat} {K : PK} {m : j_M0} (w : vP 4 K m) : ∃ m', c_call (d + 7) 74 [jR 68, jR 4] (hH L m) = some (some (jI (braF K).1), hH L m') ∧ kpt (fun b _ => 68 ≤ b ∧ b ≤ 85) m m' ∧ sC (pN K) (braF K).2 m' := by
  have ok := vP_ok w
  rw [E74, T74_0]
  obtain ⟨m1, q1, q2, q3⟩ := L74a (C := c_call (d + 6)) (L := L) 5 0 (by omega) (j_up (j_up (j_up m 68 0 0) 68 1 0) 69 0 0) (fun q hq => absurd hq (Nat.not_lt_zero q))
  have q1' : j_fin (c_call (d + 6)) 74 19 [some (jR 68), some (jR 4), some (jI 0), none] [] (hH L (j_up (j_up (j_up m 68 0 0) 68 1 0) 69 0 0)) = _ := q1
  rw [q1', T74_19, if_neg (by omega)]
  have y1 : ∀ b z, ¬ (68 ≤ b ∧ b ≤ 85) → m1 b z = m b z := fun b z h => by
    rw [kpt_at q2 (by omega)]
    simp (disch := omega) only [up_ne]
  have a0 : m1 68 0 = 0 := by rw [kpt_at q2 (by omega), up_ne (by omega), up_nj (by omega), up_eq rfl]
  have a1 : m1 68 1 = 0 := by rw [kpt_at q2 (by omega), up_ne (by omega), up_eq rfl]
  have a2 : m1 69 0 = 0 := by rw [kpt_at q2 (by omega), up_eq rfl]
  have c0 : sC (pN K) t00 m1 := ⟨a0, a1, fun k h => absurd h (Nat.not_lt_zero k), fun k p h => absurd h (Nat.not_lt_zero k), fun k p h => absurd h (Nat.not_lt_zero k), fun k p h => absurd h (Nat.not_lt_zero k), fun k h => absurd h (Nat.not_lt_zero k), fun k h => absurd h (Nat.not_lt_zero k), fun k h => absurd h (Nat.not_lt_zero k), fun k h => absurd h (Nat.not_lt_zero k)⟩
  have w1 : vP 4 K m1 := vP_k w (fun b z h h' => y1 _ _ (by omega))
  obtain ⟨m2, p1, p2, p3⟩ := Q77 (d := d + 1) (L := L) w1 c0 (t00_p K) (by decide) (d0 := 0) (l := fun _ => 0) (h := fun _ => -1) b0_ok a2 (fun q hq => by
    show m1 80 (5 * 0 + q) = 0 ∧ m1 81 (5 * 0 + q) = -1
    rw [Nat.mul_zero, Nat.zero_add]
    exact q3 q hq)
  have p3' : sC (pN K) (t01 K) m2 := p3
  have g2 : kpt (fun b _ => 68 ≤ b ∧ b ≤ 85) m m2 := fun b z => by
    by_cases e : 68 ≤ b ∧ b ≤ 85
    · exact Or.inl e
    · right; rw [kpt_at p2 e, y1 _ _ e]
  rw [show c_call (d + 6) 77 _ _ = _ from p1]
  simp only [Option.bind_some, Option.toList_some, List.cons_append, List.nil_append]
  rw [T74_51]
  unfold braF
  by_cases e : (relR K (fun _ => 0) (fun _ => -1)).1 = -6
  · rw [if_pos e, if_pos rfl, if_pos e]
    exact ⟨m2, rfl, g2, p3'⟩
  · rw [if_neg e, if_neg (by decide), if_neg e]
    obtain ⟨m3, t1, t2, t3⟩ := L74 (d := d) (L := L) (K := K) 21 0 (t01 K) m2 none (by rfl) (by omega) (vP_k w (fun b z h h' => kpt_at g2 (by omega))) p3' (t01_p ok)
    exact ⟨m3, t1, kpt_tr g2 t2, t3⟩
