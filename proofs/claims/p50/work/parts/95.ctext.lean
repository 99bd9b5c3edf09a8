/-! The class reads a term, a bound. -/
/-- the class's text is t -/
def tC' (t : Nat → Int) (N : Nat) (m : j_M0) : Prop := m 93 0 = N ∧ ∀ i : Nat, i < N → m 94 i = t i
theorem tC_k {t : Nat → Int} {N : Nat} {m m' : j_M0} (h : tC' t N m) (k : ∀ b z, (b = 93 ∧ z = 0) ∨ b = 94 → m' b z = m b z) : tC' t N m' := ⟨(k _ _ (Or.inl ⟨rfl, rfl⟩)).trans h.1, fun i hi => (k _ _ (Or.inr rfl)).trans (h.2 i hi)⟩
theorem Q67 {d : Nat} {L : j_B} {t : Nat → Int} {N k : Nat} {m : j_M0} (o : txO t N) (h : tC' t N m) (h3 : m 93 3 = k) : c_call (d + 1) 67 [jR 93] (hH L m) = some (some (jI (chT t N k)), hH L m) := by
  have o1 := o.1
  rw [E67, T67_0, h.1, h3]
  unfold chT
  by_cases e : k < N
  · rw [if_pos (by omega), if_pos (by omega), if_pos e, Int.toNat_natCast, h.2 k e]
  · rw [if_neg (by omega), if_neg e]
theorem Q68 {d : Nat} {L : j_B} {t : Nat → Int} {N k : Nat} {m : j_M0} {x : Int} (o : txO t N) (h : tC' t N m) (h3 : m 93 3 = k) (hk : k ≤ N) : c_call (d + 2) 68 [jR 93, jI x] (hH L m) = if chT t N k = x then some (some (jI 1), hH L (j_up m 93 3 ((k + 1 : Nat) : Int))) else some (some (jI 0), hH L m) := by
  have o1 := o.1
  rw [E68, T68_0, Q67 o h h3]
  simp only [Option.bind_some, Option.toList_some, List.cons_append, List.nil_append]
  rw [T68_4, h3, nat1 (by omega)]
theorem Q69 {d : Nat} {L : j_B} {t : Nat → Int} {N k : Nat} {m : j_M0} (o : txO t N) (h : tC' t N m) (h3 : m 93 3 = k) : c_call (d + 2) 69 [jR 93] (hH L m) = some (some (jI (bI (48 ≤ chT t N k ∧ chT t N k ≤ 57))), hH L m) := by
  rw [E69, T69_0, Q67 o h h3]
  simp only [Option.bind_some, Option.toList_some, List.cons_append, List.nil_append]
  rw [T69_4]
  by_cases e : chT t N k < 48
  · rw [if_pos e, bI_f (by omega)]
  · rw [if_neg e, Q67 o h h3]
    simp only [Option.bind_some, Option.toList_some, List.cons_append, List.nil_append]
    rw [T69_13]
    by_cases e2 : 57 < chT t N k
    · rw [if_pos e2, bI_f (by omega)]
    · rw [if_neg e2, bI_t (by omega)]
/-- the class's factors of clause c -/
def fC (c : Nat) (S : Nat → Int) (m : j_M0) : Prop := ∀ p : Nat, p < 5 → m 97 (5 * c + p) = S (7 * c + 2 + p)
def WC (c : Nat) (b z : Nat) : Prop := (b = 93 ∧ z = 3) ∨ (b = 97 ∧ 5 * c ≤ z ∧ z < 5 * c + 5)
theorem Q71e {d : Nat} {L : j_B} {t : Nat → Int} {N n c k : Nat} {x s : Int} {S : Nat → Int} {m : j_M0} (o : txO t N) (h : tC' t N m) (h1 : m 93 1 = c) (h3 : m 93 3 = tmK t N k) (h4 : m 93 4 = n) (hc : c < 4) (hn : n ≤ 5) (hk : k ≤ N) (hs : (x = 0 ∧ s = 1) ∨ (x ≠ 0 ∧ s = -1)) (f : facR S c) (fc : fC c S m) : ∃ m', j_fin (c_call (d + 1)) 71 31 [some (jR 93), some (jI x), some (jI (tmV t N k)), none, none] [jI (chT t N (tmK t N k))] (hH L m) = some (some (jI (if (tmF t N n c s k S).1 = true then 1 else 0)), hH L m') ∧ kpt (WC c) m m' ∧ m' 93 3 = (tmF t N n c s k S).2.1 ∧ ((tmF t N n c s k S).1 = true → fC c (tmF t N n c s k S).2.2 m') := by
  have o1 := o.1
  have kk := tmK_p (t := t) hk
  have cr := chT_r o (tmK t N k)
  have vr := tmV_r t N k
  have w1 : w32 (chT t N (tmK t N k) - 97) = chT t N (tmK t N k) - 97 := w32_id (by omega) (by omega)
  unfold tmF
  by_cases e : 97 ≤ chT t N (tmK t N k) ∧ chT t N (tmK t N k) ≤ 96 + (n : Int)
  · obtain ⟨p, hp⟩ : ∃ p : Nat, chT t N (tmK t N k) - 97 = p := ⟨_, (Int.toNat_of_nonneg (by omega)).symm⟩
    have w2 : True → w32 (w32 ((c : Int) * 5) + (p : Int)) = 5 * (c : Int) + p := fun _ => by rw [w32_id (x := (c : Int) * 5) (by omega) (by omega), w32_id (by omega) (by omega)]; omega
    have j2 : (5 * (c : Int) + (p : Int)).toNat = 5 * c + p := by omega
    have fp := f p (by omega)
    have kn := chT_k (t := t) (N := N) (k := tmK t N k) (by omega)
    rw [if_pos e, T71_31, w1, h4, h1, hp, Int.toNat_natCast, if_neg (by omega), if_pos (by omega), w2 trivial, if_pos (by omega), j2, fc p (by omega)]
    have main : ∀ y : Int, y = S (7 * c + 2 + p) + s * tmV t N k → ∃ m', ((c_call (d + 1) 140 [jI y] (hH L m)).bind fun z => j_fin (c_call (d + 1)) 71 80 [some (jR 93), some (jI x), some (jI (tmV t N k)), some (jI (p : Int)), some (jI y)] (z.1.toList ++ []) z.2) = some (some (jI (if (if -9 ≤ S (7 * c + 2 + p) + s * tmV t N k ∧ S (7 * c + 2 + p) + s * tmV t N k ≤ 9 then ((true, tmK t N k + 1, setL S (7 * c + 2 + p) (S (7 * c + 2 + p) + s * tmV t N k)) : Bool × Nat × (Nat → Int)) else (false, tmK t N k, S)).1 = true then 1 else 0)), hH L m') ∧ kpt (WC c) m m' ∧ m' 93 3 = (if -9 ≤ S (7 * c + 2 + p) + s * tmV t N k ∧ S (7 * c + 2 + p) + s * tmV t N k ≤ 9 then ((true, tmK t N k + 1, setL S (7 * c + 2 + p) (S (7 * c + 2 + p) + s * tmV t N k)) : Bool × Nat × (Nat → Int)) else (false, tmK t N k, S)).2.1 ∧ ((if -9 ≤ S (7 * c + 2 + p) + s * tmV t N k ∧ S (7 * c + 2 + p) + s * tmV t N k ≤ 9 then ((true, tmK t N k + 1, setL S (7 * c + 2 + p) (S (7 * c + 2 + p) + s * tmV t N k)) : Bool × Nat × (Nat → Int)) else (false, tmK t N k, S)).1 = true → fC c (if -9 ≤ S (7 * c + 2 + p) + s * tmV t N k ∧ S (7 * c + 2 + p) + s * tmV t N k ≤ 9 then ((true, tmK t N k + 1, setL S (7 * c + 2 + p) (S (7 * c + 2 + p) + s * tmV t N k)) : Bool × Nat × (Nat → Int)) else (false, tmK t N k, S)).2.2 m') := fun y hy => by
      rw [← hy, Q140 (d := d)]
      simp only [Option.bind_some, Option.toList_some, List.cons_append, List.nil_append]
      rw [T71_80]
      by_cases e2 : -9 ≤ y ∧ y ≤ 9
      · rw [bI_t e2, if_neg (by decide), h1, w2 trivial, if_pos (by omega), j2, up_ne (show 93 ≠ 97 by omega), h3, nat1 (by omega), if_pos e2]
        refine ⟨_, rfl, kpt_tr (kpt_up (by unfold WC; omega)) (kpt_up (by unfold WC; omega)), by rw [up_eq rfl], fun _ q hq => ?_⟩
        show _ = setL S (7 * c + 2 + p) y (7 * c + 2 + q)
        rw [up_ne (by omega), up_at]
        by_cases e3 : q = p
        · subst e3
          rw [if_pos rfl, setL_eq]
        · rw [if_neg (by omega), setL_ne (by omega)]
          exact fc q hq
      · rw [bI_f e2, if_pos rfl, if_neg e2]
        exact ⟨m, rfl, kpt_rfl, h3, fun h => absurd (show false = true from h) (by decide)⟩
    rcases hs with ⟨hx, hs⟩ | ⟨hx, hs⟩
    · rw [if_pos hx, w32_id (x := S (7 * c + 2 + p) + tmV t N k) (by omega) (by omega)]
      exact main _ (by rw [hs]; omega)
    · rw [if_neg hx, w32_id (x := -(tmV t N k)) (by omega) (by omega), w32_id (x := S (7 * c + 2 + p) + -(tmV t N k)) (by omega) (by omega)]
      exact main _ (by rw [hs]; omega)
  · rw [if_neg e, T71_31, w1, h4]
    refine ⟨m, ?_, kpt_rfl, h3, fun h => absurd (show false = true from h) (by decide)⟩
    by_cases e2 : chT t N (tmK t N k) - 97 < 0
    · rw [if_pos e2]
      rfl
    · rw [if_neg e2, if_neg (by omega)]
      rfl
theorem Q71 {d : Nat} {L : j_B} {t : Nat → Int} {N n c k : Nat} {x s : Int} {S : Nat → Int} {m : j_M0} (o : txO t N) (h : tC' t N m) (h1 : m 93 1 = c) (h3 : m 93 3 = k) (h4 : m 93 4 = n) (hc : c < 4) (hn : n ≤ 5) (hk : k ≤ N) (hs : (x = 0 ∧ s = 1) ∨ (x ≠ 0 ∧ s = -1)) (f : facR S c) (fc : fC c S m) : ∃ m', c_call (d + 3) 71 [jR 93, jI x] (hH L m) = some (some (jI (if (tmF t N n c s k S).1 = true then 1 else 0)), hH L m') ∧ kpt (WC c) m m' ∧ m' 93 3 = (tmF t N n c s k S).2.1 ∧ ((tmF t N n c s k S).1 = true → fC c (tmF t N n c s k S).2.2 m') := by
  have o1 := o.1
  rw [E71, T71_0, Q69 o h h3]
  simp only [Option.bind_some, Option.toList_some, List.cons_append, List.nil_append]
  rw [T71_6]
  by_cases e : 48 ≤ chT t N k ∧ chT t N k ≤ 57
  · have kn := chT_k (t := t) (N := N) (k := k) (by omega)
    have ek : tmK t N k = k + 1 := if_pos e
    have ev : tmV t N k = chT t N k - 48 := if_pos e
    have h3' : (j_up m 93 3 ((k + 1 : Nat) : Int)) 93 3 = ((tmK t N k : Nat) : Int) := by rw [up_eq rfl, ek]
    have h' : tC' t N (j_up m 93 3 ((k + 1 : Nat) : Int)) := tC_k h (fun b z g => by
      by_cases g2 : b = 93
      · subst g2
        exact up_nj (by omega)
      · exact up_ne g2)
    obtain ⟨m1, t1, t2, t3, t4⟩ := Q71e (d := d + 1) (L := L) (x := x) (s := s) (m := j_up m 93 3 ((k + 1 : Nat) : Int)) o h' (by rw [up_nj (by omega)]; exact h1) h3' (by rw [up_nj (by omega)]; exact h4) hc hn hk hs f (fun p hp => (up_ne (by omega)).trans (fc p hp))
    rw [bI_t e, if_neg (by decide), Q67 o h h3]
    simp only [Option.bind_some, Option.toList_some, List.cons_append, List.nil_append]
    rw [T71_13, h3, nat1 (by omega), Q67 o h' h3', w32_id (by omega) (by omega), ← ev]
    simp only [Option.bind_some, Option.toList_some, List.cons_append, List.nil_append]
    exact ⟨m1, t1, kpt_tr (kpt_up (by unfold WC; omega)) t2, t3, t4⟩
  · have ek : tmK t N k = k := if_neg e
    have ev : tmV t N k = 1 := if_neg e
    have h3' : m 93 3 = ((tmK t N k : Nat) : Int) := by rw [ek]; exact h3
    obtain ⟨m1, t1, t2, t3, t4⟩ := Q71e (d := d + 1) (L := L) (x := x) (s := s) o h h1 h3' h4 hc hn hk hs f fc
    rw [ev] at t1
    rw [bI_f e, if_pos rfl, Q67 o h h3']
    simp only [Option.bind_some, Option.toList_some, List.cons_append, List.nil_append]
    exact ⟨m1, t1, t2, t3, t4⟩
/-! a bound -/
theorem L72 {d : Nat} {L : j_B} {t : Nat → Int} {N c : Nat} {x s : Int} (o : txO t N) (hc : c < 4) (hs : (x = 0 ∧ s = 1) ∨ (x ≠ 0 ∧ s = -1)) : ∀ (j k : Nat) (v : Int) (m : j_M0), j ≤ 3 → tC' t N m → m 93 1 = c → m 93 3 = k → k ≤ N → (0 ≤ v ∧ v + 1 ≤ tnP (3 - j)) → (j = 3 → 48 ≤ chT t N k ∧ chT t N k ≤ 57) → ∃ m', j_fin (c_call (d + 2)) 72 4 [some (jR 93), some (jI x), some (jI v), some (jI ((3 - j : Nat) : Int))] [] (hH L m) = some (some (jI (if (bnL t N s j k v).1 = true then 1 else 0)), hH L m') ∧ kpt (fun b z => (b = 93 ∧ z = 3) ∨ (b = 96 ∧ z = c)) m m' ∧ m' 93 3 = (bnL t N s j k v).2.1 ∧ ((bnL t N s j k v).1 = true → m' 96 c = s * (bnL t N s j k v).2.2) := by
  have o1 := o.1
  have fin : ∀ (j k : Nat) (v : Int) (m : j_M0), j ≤ 3 → j ≠ 3 → m 93 1 = c → m 93 3 = k → (0 ≤ v ∧ v ≤ 1000) → ∃ m', (if x = 0 then if 0 ≤ m 93 1 ∧ m 93 1 < 4 then if 0 < ((3 - j : Nat) : Int) then some (some (jI 1), hH L (j_up m 96 (m 93 1).toNat v)) else some (some (jI 0), hH L (j_up m 96 (m 93 1).toNat v)) else none else if 0 ≤ m 93 1 ∧ m 93 1 < 4 then if 0 < ((3 - j : Nat) : Int) then some (some (jI 1), hH L (j_up m 96 (m 93 1).toNat (w32 (-v)))) else some (some (jI 0), hH L (j_up m 96 (m 93 1).toNat (w32 (-v)))) else none) = some (some (jI 1), hH L m') ∧ kpt (fun b z => (b = 93 ∧ z = 3) ∨ (b = 96 ∧ z = c)) m m' ∧ m' 93 3 = k ∧ m' 96 c = s * v := fun j k v m hj hj3 h1 h3 hv => by
    have p : 0 < ((3 - j : Nat) : Int) := by omega
    have c1 : 0 ≤ m 93 1 ∧ m 93 1 < 4 := by omega
    have ec : (m 93 1).toNat = c := by omega
    rcases hs with ⟨hx, hs⟩ | ⟨hx, hs⟩
    · rw [if_pos hx, if_pos c1, if_pos p, ec]
      exact ⟨_, rfl, kpt_up (by omega), by rw [up_ne (by omega)]; exact h3, by rw [up_eq rfl, hs]; omega⟩
    · rw [if_neg hx, if_pos c1, if_pos p, ec, w32_id (by omega) (by omega)]
      exact ⟨_, rfl, kpt_up (by omega), by rw [up_ne (by omega)]; exact h3, by rw [up_eq rfl, hs]; omega⟩
  intro j
  induction j with
  | zero =>
    intro k v m hj h h1 h3 hk hv hf
    have e3 : tnP (3 - 0) = 1000 := rfl
    rw [T72_4, if_neg (by omega)]
    unfold bnL
    rw [if_pos rfl]
    obtain ⟨m', t1, t2, t3, t4⟩ := fin 0 k v m (by omega) (by omega) h1 h3 (by omega)
    exact ⟨m', t1, t2, t3, fun _ => t4⟩
  | succ j ih =>
    intro k v m hj h h1 h3 hk hv hf
    have e3 : tnP (3 - j) = 10 * tnP (3 - (j + 1)) := by
      rw [show 3 - j = 3 - (j + 1) + 1 by omega]
      rfl
    have e4 : tnP (3 - (j + 1)) ≤ 100 := by
      rcases (show j = 0 ∨ j = 1 ∨ j = 2 by omega) with rfl | rfl | rfl
      · exact Int.le_refl 100
      · exact (by decide : (10 : Int) ≤ 100)
      · exact (by decide : (1 : Int) ≤ 100)
    rw [T72_4, if_pos (by omega), Q69 o h h3]
    simp only [Option.bind_some, Option.toList_some, List.cons_append, List.nil_append]
    rw [T72_13]
    unfold bnL
    by_cases e : 48 ≤ chT t N k ∧ chT t N k ≤ 57
    · have kn := chT_k (t := t) (N := N) (k := k) (by omega)
      have y1 : True → w32 (w32 (w32 (v * 10) + chT t N k) - 48) = 10 * v + (chT t N k - 48) := fun _ => by
        rw [w32_id (x := v * 10) (by omega) (by omega), w32_id (x := v * 10 + chT t N k) (by omega) (by omega), w32_id (by omega) (by omega)]
        omega
      rw [bI_t e, if_neg (by decide), if_pos e, Q67 o h h3]
      simp only [Option.bind_some, Option.toList_some, List.cons_append, List.nil_append]
      rw [T72_24, y1 trivial, h3, nat1 (k := k) (by omega)]
      have st : (s < 0 ∧ 99 < 10 * v + (chT t N k - 48)) ∨ ¬ (s < 0 ∧ 99 < 10 * v + (chT t N k - 48)) := Classical.em _
      have go : ¬ (s < 0 ∧ 99 < 10 * v + (chT t N k - 48)) → ∃ m', j_fin (c_call (d + 2)) 72 4 [some (jR 93), some (jI x), some (jI (10 * v + (chT t N k - 48))), some (jI (w32 (((3 - (j + 1) : Nat) : Int) + 1)))] [] (hH L (j_up m 93 3 ((k + 1 : Nat) : Int))) = some (some (jI (if (bnL t N s j (k + 1) (10 * v + (chT t N k - 48))).1 = true then 1 else 0)), hH L m') ∧ kpt (fun b z => (b = 93 ∧ z = 3) ∨ (b = 96 ∧ z = c)) m m' ∧ m' 93 3 = (bnL t N s j (k + 1) (10 * v + (chT t N k - 48))).2.1 ∧ ((bnL t N s j (k + 1) (10 * v + (chT t N k - 48))).1 = true → m' 96 c = s * (bnL t N s j (k + 1) (10 * v + (chT t N k - 48))).2.2) := fun _ => by
        obtain ⟨m', t1, t2, t3⟩ := ih (k + 1) (10 * v + (chT t N k - 48)) (j_up m 93 3 ((k + 1 : Nat) : Int)) (by omega) (tC_k h (fun b z g => by
          by_cases g2 : b = 93
          · subst g2
            exact up_nj (by omega)
          · exact up_ne g2)) (by rw [up_nj (by omega)]; exact h1) (up_eq rfl) (by omega) (by omega) (fun e => by omega)
        rw [show w32 (((3 - (j + 1) : Nat) : Int) + 1) = ((3 - j : Nat) : Int) by rw [w32_id (by omega) (by omega)]; omega]
        exact ⟨m', t1, kpt_tr (kpt_up (by omega)) t2, t3⟩
      rcases hs with ⟨hx, hs⟩ | ⟨hx, hs⟩
      · rw [if_pos hx]
        have nn : ¬ (s < 0 ∧ 99 < 10 * v + (chT t N k - 48)) := by omega
        rw [if_neg nn]
        exact go nn
      · rw [if_neg hx]
        by_cases e5 : 99 < 10 * v + (chT t N k - 48)
        · rw [if_pos (show s < 0 ∧ 99 < 10 * v + (chT t N k - 48) by omega)]
          simp only [w32_id (x := -(10 * v + (chT t N k - 48))) (by omega) (by omega)]
          rw [if_pos (by omega)]
          exact ⟨m, rfl, kpt_rfl, h3, fun h => absurd (show false = true from h) (by decide)⟩
        · have nn : ¬ (s < 0 ∧ 99 < 10 * v + (chT t N k - 48)) := fun h => e5 h.2
          rw [if_neg nn]
          simp only [w32_id (x := -(10 * v + (chT t N k - 48))) (by omega) (by omega)]
          rw [if_neg (by omega)]
          exact go nn
    · have hj3 : j + 1 ≠ 3 := fun e5 => e (hf e5)
      rw [bI_f e, if_pos rfl, if_neg e, if_pos rfl]
      obtain ⟨m', t1, t2, t3, t4⟩ := fin (j + 1) k v m hj hj3 h1 h3 (by omega)
      exact ⟨m', t1, t2, t3, fun _ => t4⟩
theorem Q72 {d : Nat} {L : j_B} {t : Nat → Int} {N c k : Nat} {x : Int} {m : j_M0} (o : txO t N) (hc : c < 4) (h : tC' t N m) (h1 : m 93 1 = c) (h3 : m 93 3 = ((miK t N k : Nat) : Int)) (hk : k ≤ N) (hx : x = if chT t N k = 45 then 1 else 0) : ∃ m', c_call (d + 3) 72 [jR 93, jI x] (hH L m) = some (some (jI (if (bdF t N k).1 = true then 1 else 0)), hH L m') ∧ kpt (fun b z => (b = 93 ∧ z = 3) ∨ (b = 96 ∧ z = c)) m m' ∧ m' 93 3 = (bdF t N k).2.1 ∧ ((bdF t N k).1 = true → m' 96 c = miS t N k * (bdF t N k).2.2) := by
  have a := miK_p (t := t) hk
  have hs : (x = 0 ∧ miS t N k = 1) ∨ (x ≠ 0 ∧ miS t N k = -1) := by
    unfold miS
    by_cases e : chT t N k = 45
    · rw [if_pos e] at hx ⊢
      exact Or.inr ⟨by omega, rfl⟩
    · rw [if_neg e] at hx ⊢
      exact Or.inl ⟨hx, rfl⟩
  rw [E72, T72_0]
  unfold bdF
  by_cases e : 48 ≤ chT t N (miK t N k) ∧ chT t N (miK t N k) ≤ 57
  · rw [if_pos e]
    exact L72 (d := d) (L := L) o hc hs 3 (miK t N k) 0 m (by omega) h h1 h3 a.2 ⟨by omega, by decide⟩ (fun _ => e)
  · rw [if_neg e, T72_4, if_pos (by decide), Q69 o h h3]
    simp only [Option.bind_some, Option.toList_some, List.cons_append, List.nil_append]
    rw [T72_13, bI_f e, if_pos rfl, h1]
    rcases hs with ⟨hx, -⟩ | ⟨hx, -⟩
    · rw [if_pos hx, if_pos (by omega), if_neg (by decide), Int.toNat_natCast]
      exact ⟨_, rfl, kpt_up (by omega), by rw [up_ne (by omega)]; exact h3, fun h => absurd (show false = true from h) (by decide)⟩
    · rw [if_neg hx, if_pos (by omega), if_neg (by decide), Int.toNat_natCast]
      exact ⟨_, rfl, kpt_up (by omega), by rw [up_ne (by omega)]; exact h3, fun h => absurd (show false = true from h) (by decide)⟩
