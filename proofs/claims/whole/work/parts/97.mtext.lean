/-! Faults; the model reads a term. -/
/-- the class's clauses, c of them -/
def cC (c : Nat) (S : Nat → Int) (m : j_M0) : Prop := ∀ q : Nat, q < c → m 95 q = S (7 * q) ∧ m 96 q = S (7 * q + 1) ∧ fC q S m
def WF (b z : Nat) : Prop := (b = 93 ∧ (z = 1 ∨ z = 3)) ∨ b = 95 ∨ b = 96 ∨ b = 97
theorem tC_F {t : Nat → Int} {N : Nat} {m m' : j_M0} (h : tC' t N m) (k : kpt WF m m') : tC' t N m' := tC_k h (fun b z g => kpt_at k (by unfold WF; omega))
theorem L65 {d L : Nat} {t : Nat → Int} {N n : Nat} {x1 : Int} (o : txO t N) (hn : n ≤ 5) : ∀ (r c k : Nat) (S : Nat → Int) (m : j_M0), r + c = 4 → tC' t N m → m 93 1 = c → m 93 3 = k → m 93 4 = n → k ≤ N → cC c S m → ∃ m', j_fin (c_call (d + 4)) 65 17 [some (jR 93), some (jI x1), some (jI c)] [] (hH L m) = some (some (jI (if (alF t N n r c k S).1 = true then -1 else (((alF t N n r c k S).2.1 : Nat) : Int))), hH L m') ∧ kpt WF m m' ∧ ((alF t N n r c k S).1 = true → m' 93 1 = (alF t N n r c k S).2.2.1 ∧ cC (alF t N n r c k S).2.2.1 (alF t N n r c k S).2.2.2 m') := by
  have o1 := o.1
  intro r
  induction r with
  | zero =>
    intro c k S m hr h h1 h3 h4 hk hS
    rw [T65_17, if_neg (by omega), h3]
    refine ⟨m, rfl, kpt_rfl, fun g => absurd (show false = true from g) (by decide)⟩
  | succ r ih =>
    intro c k S m hr h h1 h3 h4 hk hS
    obtain ⟨m1, t1, t2, t3, t4⟩ := Q70 (d := d) (L := L) (S := S) o (show c < 4 by omega) hn h h1 h3 h4 hk
    obtain ⟨p1, p2⟩ := clF_p (t := t) (N := N) (n := n) (c := c) (S := S) hn hk
    have k1 : kpt WF m m1 := kpt_w t2 (fun b z h => by unfold WL at h; unfold WF; omega)
    rw [T65_17, if_pos (by omega), t1]
    simp only [Option.bind_some, Option.toList_some, List.cons_append, List.nil_append]
    rw [T65_26]
    unfold alF
    by_cases e1 : (clF t N n c k S).1 = true
    · obtain ⟨y1, y2, y3⟩ := t4 e1
      obtain ⟨-, p3⟩ := p2 e1
      rw [if_pos e1, if_pos e1, if_neg (by decide)]
      generalize clF t N n c k S = R at t1 t3 t4 p1 p2 e1 y1 y2 y3 p3 ⊢
      have b1 : m1 93 1 = c := (kpt_at t2 (by unfold WL; omega)).trans h1
      obtain ⟨m2, hm2⟩ : ∃ m2, m2 = j_up m1 93 1 ((c + 1 : Nat) : Int) := ⟨_, rfl⟩
      have g1 : m2 93 1 = ((c + 1 : Nat) : Int) := by rw [hm2, up_eq rfl]
      have g3 : m2 93 3 = ((R.2.1 : Nat) : Int) := by rw [hm2, up_nj (by omega)]; exact t3
      have g4 : m2 93 4 = n := by rw [hm2, up_nj (by omega)]; exact (kpt_at t2 (by unfold WL; omega)).trans h4
      have g0 : m2 93 0 = N := by rw [hm2, up_nj (by omega)]; exact (kpt_at t2 (by unfold WL; omega)).trans h.1
      have k2 : kpt WF m m2 := by rw [hm2]; exact kpt_tr k1 (kpt_up (by unfold WF; omega))
      have h2 := tC_F h k2
      have hS2 : cC (c + 1) R.2.2 m2 := fun q hq => by
        have a : ∀ b z : Nat, b ≠ 93 → m2 b z = m1 b z := fun b z hb => by rw [hm2, up_ne hb]
        by_cases e : q = c
        · subst e
          refine ⟨(a _ _ (by omega)).trans y1, (a _ _ (by omega)).trans y2, fun p hp => (a _ _ (by omega)).trans (y3 p hp)⟩
        · obtain ⟨s1, s2, s3⟩ := hS q (by omega)
          refine ⟨?_, ?_, fun p hp => ?_⟩
          · rw [a _ _ (by omega), kpt_at t2 (by unfold WL; omega), p3 _ (by omega)]; exact s1
          · rw [a _ _ (by omega), kpt_at t2 (by unfold WL; omega), p3 _ (by omega)]; exact s2
          · rw [a _ _ (by omega), kpt_at t2 (by unfold WL; omega), p3 _ (by omega)]; exact s3 p hp
      rw [b1, nat1 (by omega), ← hm2, g3, g0, g1]
      by_cases e2 : N ≤ R.2.1
      · rw [if_neg (by omega), if_pos e2]
        exact ⟨m2, rfl, k2, fun _ => ⟨g1, hS2⟩⟩
      · rw [if_pos (by omega), if_neg e2]
        by_cases e3 : r = 0
        · have ne1 : ¬ (r ≠ 0 ∧ chT t N R.2.1 = 59) := fun g => g.1 e3
          rw [if_pos (by omega)]
          simp only [if_neg ne1]
          exact ⟨m2, rfl, k2, fun g => absurd (show false = true from g) (by decide)⟩
        · have q68 : c_call (d + 4) 68 [jR 93, jI 59] (hH L m2) = _ := Q68 (d := d + 2) o h2 g3 (by omega)
          rw [if_neg (by omega), q68]
          by_cases e4 : chT t N R.2.1 = 59
          · have ye1 : r ≠ 0 ∧ chT t N R.2.1 = 59 := ⟨e3, e4⟩
            rw [if_pos e4]
            simp only [if_pos ye1, Option.bind_some, Option.toList_some, List.cons_append, List.nil_append]
            rw [T65_71, if_neg (by decide), nat1 (by omega)]
            obtain ⟨m3, u1, u2, u3⟩ := ih (c + 1) (R.2.1 + 1) R.2.2 (j_up m2 93 3 ((R.2.1 + 1 : Nat) : Int)) (by omega) (tC_3 h2) (by rw [up_nj (by omega)]; exact g1) (up_eq rfl) (by rw [up_nj (by omega)]; exact g4) (by omega) (fun q hq => by
              obtain ⟨s1, s2, s3⟩ := hS2 q hq
              exact ⟨(up_ne (by omega)).trans s1, (up_ne (by omega)).trans s2, fun p hp => (up_ne (by omega)).trans (s3 p hp)⟩)
            exact ⟨m3, u1, kpt_tr k2 (kpt_tr (kpt_up (by unfold WF; omega)) u2), u3⟩
          · have ne1 : ¬ (r ≠ 0 ∧ chT t N R.2.1 = 59) := fun g => e4 g.2
            rw [if_neg e4]
            simp only [if_neg ne1, Option.bind_some, Option.toList_some, List.cons_append, List.nil_append]
            rw [T65_71, if_pos rfl, g3]
            exact ⟨m2, rfl, k2, fun g => absurd (show false = true from g) (by decide)⟩
    · rw [if_neg e1, if_pos rfl, if_neg e1, t3]
      exact ⟨m1, rfl, k1, fun g => absurd (show false = true from g) (by decide)⟩
theorem Q65 {d L : Nat} {t : Nat → Int} {N n : Nat} {S : Nat → Int} {m : j_M0} (o : txO t N) (hn : n ≤ 5) (h : tC' t N m) : ∃ m', c_call (d + 5) 65 [jR 93, jI n] (hH L m) = some (some (jI (if (alF t N n 4 0 0 S).1 = true then -1 else (((alF t N n 4 0 0 S).2.1 : Nat) : Int))), hH L m') ∧ kpt (fun b z => b = 93 ∧ z ≠ 0 ∨ b = 95 ∨ b = 96 ∨ b = 97) m m' ∧ ((alF t N n 4 0 0 S).1 = true → m' 93 1 = (alF t N n 4 0 0 S).2.2.1 ∧ cC (alF t N n 4 0 0 S).2.2.1 (alF t N n 4 0 0 S).2.2.2 m') := by
  have k0 : kpt (fun b z => b = 93 ∧ z ≠ 0 ∨ b = 95 ∨ b = 96 ∨ b = 97) m (j_up (j_up (j_up m 93 4 n) 93 3 0) 93 1 0) := kpt_tr (kpt_tr (kpt_up (by omega)) (kpt_up (by omega))) (kpt_up (by omega))
  obtain ⟨m1, t1, t2, t3⟩ := L65 (d := d) (L := L) (x1 := n) o hn 4 0 0 S (j_up (j_up (j_up m 93 4 n) 93 3 0) 93 1 0) (by omega) (tC_k h (fun b z g => kpt_at k0 (by omega))) (up_eq rfl) (by rw [up_nj (by omega), up_eq rfl]; rfl) (by rw [up_nj (by omega), up_nj (by omega), up_eq rfl]) (Nat.zero_le N) (fun q hq => absurd hq (Nat.not_lt_zero q))
  refine ⟨m1, ?_, kpt_tr k0 (kpt_w t2 (fun b z h => by unfold WF at h; omega)), t3⟩
  rw [E65, T65_0]
  exact t1
/-! the model's -/
def tM (t : Nat → Int) (N : Nat) (m : j_M0) : Prop := m 109 6 = N ∧ ∀ i : Nat, i < N → m 113 i = t i
theorem tM_k {t : Nat → Int} {N : Nat} {m m' : j_M0} (h : tM t N m) (k : ∀ b z, (b = 109 ∧ z = 6) ∨ b = 113 → m' b z = m b z) : tM t N m' := ⟨(k _ _ (Or.inl ⟨rfl, rfl⟩)).trans h.1, fun i hi => (k _ _ (Or.inr rfl)).trans (h.2 i hi)⟩
theorem tM_7 {t : Nat → Int} {N : Nat} {m : j_M0} {v : Int} (h : tM t N m) : tM t N (j_up m 109 7 v) := tM_k h (fun b z g => by
  by_cases g2 : b = 109
  · subst g2
    exact up_nj (by omega)
  · exact up_ne g2)
def WT (b z : Nat) : Prop := (b = 109 ∧ z = 7) ∨ b = 114
theorem tM_W {t : Nat → Int} {N : Nat} {m m' : j_M0} (h : tM t N m) (k : kpt WT m m') : tM t N m' := tM_k h (fun b z g => kpt_at k (by unfold WT; omega))
def sM' (S : Nat → Int) (m : j_M0) : Prop := ∀ i : Nat, i < 28 → m 114 i = S i
theorem Q168 {d L : Nat} {t : Nat → Int} {N k : Nat} {m : j_M0} (o : txO t N) (h : tM t N m) (h3 : m 109 7 = k) : c_call (d + 1) 168 [jR 109] (hH L m) = some (some (jI (chT t N k)), hH L m) := by
  have o1 := o.1
  rw [E168, T168_0, h.1, h3]
  unfold chT
  by_cases e : k < N
  · rw [if_pos (by omega), if_pos (by omega), if_pos e, Int.toNat_natCast, h.2 k e]
  · rw [if_neg (by omega), if_neg e]
theorem Q169 {d L : Nat} {t : Nat → Int} {N k : Nat} {m : j_M0} {x : Int} (o : txO t N) (h : tM t N m) (h3 : m 109 7 = k) (hk : k ≤ N) : c_call (d + 2) 169 [jR 109, jI x] (hH L m) = if chT t N k = x then some (some (jI 1), hH L (j_up m 109 7 ((k + 1 : Nat) : Int))) else some (some (jI 0), hH L m) := by
  have o1 := o.1
  rw [E169, T169_0, Q168 o h h3]
  simp only [Option.bind_some, Option.toList_some, List.cons_append, List.nil_append]
  rw [T169_4, h3, nat1 (by omega)]
theorem Q170 {d L : Nat} {t : Nat → Int} {N k : Nat} {m : j_M0} (o : txO t N) (h : tM t N m) (h3 : m 109 7 = k) : c_call (d + 2) 170 [jR 109] (hH L m) = some (some (jI (bI (48 ≤ chT t N k ∧ chT t N k ≤ 57))), hH L m) := by
  rw [E170, T170_0, Q168 o h h3]
  simp only [Option.bind_some, Option.toList_some, List.cons_append, List.nil_append]
  rw [T170_4, Q150]
  simp only [Option.bind_some, Option.toList_some, List.cons_append, List.nil_append]
  rw [T170_14, if_pos]
  unfold bI
  split
  · exact Or.inr rfl
  · exact Or.inl rfl
theorem Q171e {d L : Nat} {t : Nat → Int} {N n c k : Nat} {s : Int} {S : Nat → Int} {m : j_M0} (o : txO t N) (h : tM t N m) (h0 : m 110 0 = n) (h3 : m 109 7 = ((tmK t N k : Nat) : Int)) (hc : c < 4) (hn1 : 1 ≤ n) (hn : n ≤ 5) (hk : k ≤ N) (hs : s = 1 ∨ s = -1) (f : facR S c) (fm : sM' S m) : ∃ m', j_fin (c_call (d + 2)) 171 31 [some (jR 109), some (jI (7 * (c : Int))), some (jI s), some (jI (tmV t N k)), none] [jI (chT t N (tmK t N k))] (hH L m) = some (some (jI (if (tmF t N n c s k S).1 = true then 1 else 0)), hH L m') ∧ kpt WT m m' ∧ m' 109 7 = (tmF t N n c s k S).2.1 ∧ ((tmF t N n c s k S).1 = true → sM' (tmF t N n c s k S).2.2 m') := by
  have o1 := o.1
  have kk := tmK_p (t := t) hk
  have cr := chT_r o (tmK t N k)
  have vr := tmV_r t N k
  have q168 : c_call (d + 2) 168 [jR 109] (hH L m) = _ := Q168 (d := d + 1) o h h3
  have w97 : w32 (w32 (97 + (n : Int)) - 1) = 96 + (n : Int) := by rw [w32_id (x := 97 + (n : Int)) (by omega) (by omega), w32_id (by omega) (by omega)]; omega
  rw [T171_31, Q151, h0]
  simp only [Option.bind_some, Option.toList_some, List.cons_append, List.nil_append]
  rw [T171_41, w97, Q150]
  simp only [Option.bind_some, Option.toList_some, List.cons_append, List.nil_append]
  rw [T171_48]
  unfold tmF
  by_cases e : 97 ≤ chT t N (tmK t N k) ∧ chT t N (tmK t N k) ≤ 96 + (n : Int)
  · have kn := chT_k (t := t) (N := N) (k := tmK t N k) (by omega)
    obtain ⟨p, hp⟩ : ∃ p : Nat, chT t N (tmK t N k) - 97 = p := ⟨_, (Int.toNat_of_nonneg (by omega)).symm⟩
    have fp := f p (by omega)
    have w2 : True → w32 (w32 (w32 (7 * (c : Int) + 2) + chT t N (tmK t N k)) - 97) = 7 * (c : Int) + 2 + p := fun _ => by
      rw [w32_id (x := 7 * (c : Int) + 2) (by omega) (by omega), w32_id (x := 7 * (c : Int) + 2 + chT t N (tmK t N k)) (by omega) (by omega), w32_id (by omega) (by omega)]
      omega
    have j2 : (7 * (c : Int) + 2 + (p : Int)).toNat = 7 * c + 2 + p := by omega
    have sv : w32 (s * tmV t N k) = s * tmV t N k := by
      rcases hs with rfl | rfl
      · rw [w32_id (by omega) (by omega)]
      · rw [w32_id (by omega) (by omega)]
    have sr : -9 ≤ s * tmV t N k ∧ s * tmV t N k ≤ 9 := by
      rcases hs with rfl | rfl <;> omega
    have fpm := fm (7 * c + 2 + p) (by omega)
    obtain ⟨y, hy⟩ : ∃ y : Int, y = S (7 * c + 2 + p) + s * tmV t N k := ⟨_, rfl⟩
    have w4 : True → w32 (S (7 * c + 2 + p) + s * tmV t N k) = y := fun _ => by rw [w32_id (by omega) (by omega), hy]
    have ci : 0 ≤ 7 * (c : Int) + 2 + p ∧ 7 * (c : Int) + 2 + p < 28 := by omega
    rw [bI_t e, if_neg (by decide), q168]
    simp only [Option.bind_some, Option.toList_some, List.cons_append, List.nil_append]
    rw [T171_60, w2 trivial, if_pos ci, if_pos ci, if_pos ci, j2, fpm, sv, w4 trivial, up_eq rfl, Q150]
    simp only [Option.bind_some, Option.toList_some, List.cons_append, List.nil_append]
    rw [T171_96, up_ne (show 109 ≠ 114 by omega), h3, nat1 (by omega), if_pos e, hp, Int.toNat_natCast, ← hy]
    by_cases e2 : -9 ≤ y ∧ y ≤ 9
    · rw [bI_t e2, if_neg (by decide), if_pos e2]
      refine ⟨_, rfl, kpt_tr (kpt_up (by unfold WT; omega)) (kpt_up (by unfold WT; omega)), up_eq rfl, fun _ i hi => ?_⟩
      show _ = setL S (7 * c + 2 + p) y i
      rw [up_ne (by omega), up_at]
      by_cases e3 : i = 7 * c + 2 + p
      · rw [if_pos e3, e3, setL_eq]
      · rw [if_neg e3, setL_ne e3]
        exact fm i hi
    · rw [bI_f e2, if_pos rfl, if_neg e2]
      exact ⟨_, rfl, kpt_up (by unfold WT; omega), by rw [up_ne (by omega)]; exact h3, fun h => absurd (show false = true from h) (by decide)⟩
  · rw [bI_f e, if_pos rfl, if_neg e]
    exact ⟨m, rfl, kpt_rfl, h3, fun h => absurd (show false = true from h) (by decide)⟩
theorem Q171 {d L : Nat} {t : Nat → Int} {N n c k : Nat} {s : Int} {S : Nat → Int} {m : j_M0} (o : txO t N) (h : tM t N m) (h0 : m 110 0 = n) (h3 : m 109 7 = k) (hc : c < 4) (hn1 : 1 ≤ n) (hn : n ≤ 5) (hk : k ≤ N) (hs : s = 1 ∨ s = -1) (f : facR S c) (fm : sM' S m) : ∃ m', c_call (d + 3) 171 [jR 109, jI (7 * (c : Int)), jI s] (hH L m) = some (some (jI (if (tmF t N n c s k S).1 = true then 1 else 0)), hH L m') ∧ kpt WT m m' ∧ m' 109 7 = (tmF t N n c s k S).2.1 ∧ ((tmF t N n c s k S).1 = true → sM' (tmF t N n c s k S).2.2 m') := by
  have o1 := o.1
  rw [E171, T171_0, Q170 o h h3]
  simp only [Option.bind_some, Option.toList_some, List.cons_append, List.nil_append]
  rw [T171_6]
  by_cases e : 48 ≤ chT t N k ∧ chT t N k ≤ 57
  · have kn := chT_k (t := t) (N := N) (k := k) (by omega)
    have ek : tmK t N k = k + 1 := if_pos e
    have ev : tmV t N k = chT t N k - 48 := if_pos e
    have h3' : (j_up m 109 7 ((k + 1 : Nat) : Int)) 109 7 = ((tmK t N k : Nat) : Int) := by rw [up_eq rfl, ek]
    have h' : tM t N (j_up m 109 7 ((k + 1 : Nat) : Int)) := tM_7 h
    obtain ⟨m1, t1, t2, t3, t4⟩ := Q171e (d := d) (L := L) (s := s) (m := j_up m 109 7 ((k + 1 : Nat) : Int)) o h' (by rw [up_ne (by omega)]; exact h0) h3' hc hn1 hn hk hs f (fun i hi => (up_ne (by omega)).trans (fm i hi))
    rw [bI_t e, if_neg (by decide), show c_call (d + 2) 168 _ (hH L m) = _ from Q168 (d := d + 1) o h h3]
    simp only [Option.bind_some, Option.toList_some, List.cons_append, List.nil_append]
    rw [T171_13, h3, nat1 (by omega), show c_call (d + 2) 168 _ (hH L (j_up m 109 7 ((k + 1 : Nat) : Int))) = _ from Q168 (d := d + 1) o h' h3', w32_id (by omega) (by omega), ← ev]
    simp only [Option.bind_some, Option.toList_some, List.cons_append, List.nil_append]
    exact ⟨m1, t1, kpt_tr (kpt_up (by unfold WT; omega)) t2, t3, t4⟩
  · have ek : tmK t N k = k := if_neg e
    have ev : tmV t N k = 1 := if_neg e
    have h3' : m 109 7 = ((tmK t N k : Nat) : Int) := by rw [ek]; exact h3
    obtain ⟨m1, t1, t2, t3, t4⟩ := Q171e (d := d) (L := L) (s := s) o h h0 h3' hc hn1 hn hk hs f fm
    rw [ev] at t1
    rw [bI_f e, if_pos rfl, show c_call (d + 2) 168 _ (hH L m) = _ from Q168 (d := d + 1) o h h3']
    simp only [Option.bind_some, Option.toList_some, List.cons_append, List.nil_append]
    exact ⟨m1, t1, t2, t3, t4⟩
/-- with no more signs than fuel, the fuel doesn't matter -/
theorem L172 {d L : Nat} {t : Nat → Int} {N n c : Nat} (o : txO t N) (hc : c < 4) (hn1 : 1 ≤ n) (hn : n ≤ 5) : ∀ (u k : Nat) (S : Nat → Int) (m : j_M0) (o2 : Option j_V), N ≤ k + u → tM t N m → m 110 0 = n → m 109 7 = k → k ≤ N → facR S c → sM' S m → ∃ m', j_fin (c_call (d + 3)) 172 24 [some (jR 109), some (jI (7 * (c : Int))), o2] [] (hH L m) = some (some (jI (if (smL t N n c u k S).1 = true then 1 else 0)), hH L m') ∧ kpt WT m m' ∧ m' 109 7 = (smL t N n c u k S).2.1 ∧ ((smL t N n c u k S).1 = true → sM' (smL t N n c u k S).2.2 m') := by
  have o1 := o.1
  intro u
  induction u with
  | zero =>
    intro k S m o2 hu h h0 h3 hk f fm
    have q168 : c_call (d + 3) 168 [jR 109] (hH L m) = _ := Q168 (d := d + 2) o h h3
    have e := chT_n (t := t) (show N ≤ k by omega)
    rw [e] at q168
    rw [T172_24, q168]
    simp only [Option.bind_some, Option.toList_some, List.cons_append, List.nil_append]
    rw [T172_28, if_neg (by decide), q168]
    simp only [Option.bind_some, Option.toList_some, List.cons_append, List.nil_append]
    rw [T172_37, if_neg (by decide)]
    exact ⟨m, rfl, kpt_rfl, h3, fun _ => fm⟩
  | succ u ih =>
    intro k S m o2 hu h h0 h3 hk f fm
    have q168 : c_call (d + 3) 168 [jR 109] (hH L m) = _ := Q168 (d := d + 2) o h h3
    rw [T172_24, q168]
    simp only [Option.bind_some, Option.toList_some, List.cons_append, List.nil_append]
    rw [T172_28]
    unfold smL
    by_cases e : chT t N k = 43 ∨ chT t N k = 45
    · have kn := chT_k (t := t) (N := N) (k := k) (by omega)
      rw [if_pos e]
      obtain ⟨s, hss⟩ : ∃ s : Int, s = (if chT t N k = 45 then -1 else 1) := ⟨_, rfl⟩
      have hs : s = 1 ∨ s = -1 := by
        by_cases g : chT t N k = 45
        · rw [if_pos g] at hss; exact Or.inr hss
        · rw [if_neg g] at hss; exact Or.inl hss
      obtain ⟨m1, hm1⟩ : ∃ m1, m1 = j_up m 109 7 ((k + 1 : Nat) : Int) := ⟨_, rfl⟩
      have h' : tM t N m1 := by rw [hm1]; exact tM_7 h
      have g0 : m1 110 0 = n := by rw [hm1, up_ne (by omega)]; exact h0
      have g3 : m1 109 7 = ((k + 1 : Nat) : Int) := by rw [hm1, up_eq rfl]
      have gf : sM' S m1 := fun i hi => by rw [hm1, up_ne (by omega)]; exact fm i hi
      have k1 : kpt WT m m1 := by rw [hm1]; exact kpt_up (by unfold WT; omega)
      obtain ⟨m2, t1, t2, t3, t4⟩ := Q171 (d := d) (L := L) (s := s) o h' g0 g3 hc hn1 hn (by omega) hs f gf
      obtain ⟨p1, p2, p3, p4⟩ := tmF_p (t := t) (N := N) (n := n) (c := c) (k := k + 1) (s := s) (S := S) (by omega) hn f
      rw [← hss]
      have k2 : kpt WT m m2 := kpt_tr k1 t2
      have rest : ∃ m', j_fin (c_call (d + 3)) 172 46 [some (jR 109), some (jI (7 * (c : Int))), o2] [jI (chT t N k)] (hH L m) = some (some (jI (if (if (tmF t N n c s (k + 1) S).1 = true then smL t N n c u (tmF t N n c s (k + 1) S).2.1 (tmF t N n c s (k + 1) S).2.2 else (false, (tmF t N n c s (k + 1) S).2.1, S)).1 = true then 1 else 0)), hH L m') ∧ kpt WT m m' ∧ m' 109 7 = (if (tmF t N n c s (k + 1) S).1 = true then smL t N n c u (tmF t N n c s (k + 1) S).2.1 (tmF t N n c s (k + 1) S).2.2 else (false, (tmF t N n c s (k + 1) S).2.1, S)).2.1 ∧ ((if (tmF t N n c s (k + 1) S).1 = true then smL t N n c u (tmF t N n c s (k + 1) S).2.1 (tmF t N n c s (k + 1) S).2.2 else (false, (tmF t N n c s (k + 1) S).2.1, S)).1 = true → sM' (if (tmF t N n c s (k + 1) S).1 = true then smL t N n c u (tmF t N n c s (k + 1) S).2.1 (tmF t N n c s (k + 1) S).2.2 else (false, (tmF t N n c s (k + 1) S).2.1, S)).2.2 m') := by
        have st : j_fin (c_call (d + 3)) 172 46 [some (jR 109), some (jI (7 * (c : Int))), o2] [jI (chT t N k)] (hH L m) = j_fin (c_call (d + 3)) 172 73 [some (jR 109), some (jI (7 * (c : Int))), some (jI s)] [jI (if (tmF t N n c s (k + 1) S).1 = true then 1 else 0)] (hH L m2) := by
          rw [T172_46, h3, nat1 (by omega), ← hm1]
          by_cases g : chT t N k = 43
          · rw [if_neg (show ¬ chT t N k = 45 by omega)] at hss
            subst hss
            rw [if_pos g, t1]
            simp only [Option.bind_some, Option.toList_some, List.cons_append, List.nil_append]
          · rw [if_pos (show chT t N k = 45 by omega)] at hss
            subst hss
            rw [if_neg g, t1]
            simp only [Option.bind_some, Option.toList_some, List.cons_append, List.nil_append]
        rw [st, T172_73]
        by_cases e3 : (tmF t N n c s (k + 1) S).1 = true
        · simp only [if_pos e3]
          rw [if_neg (by decide)]
          obtain ⟨m3, u1, u2, u3, u4⟩ := ih _ _ m2 (some (jI s)) (by omega) (tM_W h k2) ((kpt_at t2 (by unfold WT; omega)).trans g0) t3 p2 (p3 e3).2 (t4 e3)
          exact ⟨m3, u1, kpt_tr k2 u2, u3, u4⟩
        · simp only [if_neg e3, if_true, Bool.false_eq_true, if_false]
          exact ⟨m2, rfl, k2, t3, fun g => absurd g (by decide)⟩
      by_cases g : chT t N k = 43
      · rw [if_pos g, q168]
        simp only [Option.bind_some, Option.toList_some, List.cons_append, List.nil_append]
        exact rest
      · rw [if_neg g, q168]
        simp only [Option.bind_some, Option.toList_some, List.cons_append, List.nil_append]
        rw [T172_37, if_pos (show chT t N k = 45 by omega), q168]
        simp only [Option.bind_some, Option.toList_some, List.cons_append, List.nil_append]
        exact rest
    · rw [if_neg e, if_neg (fun g => e (Or.inl g)), q168]
      simp only [Option.bind_some, Option.toList_some, List.cons_append, List.nil_append]
      rw [T172_37, if_neg (fun g => e (Or.inr g))]
      exact ⟨m, rfl, kpt_rfl, h3, fun _ => fm⟩
