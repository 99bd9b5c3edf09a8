/-! The model reads a text. -/
theorem miS_r (t : Nat → Int) (N k : Nat) : miS t N k = 1 ∨ miS t N k = -1 := by
  unfold miS
  split
  · exact Or.inr rfl
  · exact Or.inl rfl
/-- a minus, taken or not -/
theorem Q169m {d L : Nat} {t : Nat → Int} {N k : Nat} {m : j_M0} (o : txO t N) (h : tM t N m) (h3 : m 109 7 = k) (hk : k ≤ N) : ∃ m', c_call (d + 2) 169 [jR 109, jI 45] (hH L m) = some (some (jI (if miS t N k = 1 then 0 else 1)), hH L m') ∧ kpt (fun b z => b = 109 ∧ z = 7) m m' ∧ m' 109 7 = ((miK t N k : Nat) : Int) := by
  rw [Q169 (d := d) (L := L) (x := 45) o h h3 hk]
  unfold miS miK
  by_cases e : chT t N k = 45
  · rw [if_pos e, if_pos e, if_pos e, if_neg (by decide)]
    exact ⟨_, rfl, kpt_up ⟨rfl, rfl⟩, up_eq rfl⟩
  · rw [if_neg e, if_neg e, if_neg e, if_pos rfl]
    exact ⟨m, rfl, kpt_rfl, h3⟩
theorem Q172 {d L : Nat} {t : Nat → Int} {N n c k : Nat} {S : Nat → Int} {m : j_M0} (o : txO t N) (hc : c < 4) (hn1 : 1 ≤ n) (hn : n ≤ 5) (h : tM t N m) (h0 : m 110 0 = n) (h3 : m 109 7 = k) (hk : k ≤ N) (f : facR S c) (fm : sM' S m) : ∃ m', c_call (d + 4) 172 [jR 109, jI (7 * (c : Int))] (hH L m) = some (some (jI (if (smF t N n c k S).1 = true then 1 else 0)), hH L m') ∧ kpt WT m m' ∧ m' 109 7 = (smF t N n c k S).2.1 ∧ ((smF t N n c k S).1 = true → sM' (smF t N n c k S).2.2 m') := by
  have o1 := o.1
  obtain ⟨m1, a1, a2, a3⟩ := Q169m (d := d + 1) (L := L) o h h3 hk
  have mk := miK_p (t := t) hk
  have k1 : kpt WT m m1 := kpt_w a2 (fun b z h => Or.inl h)
  have g0 : m1 110 0 = n := (kpt_at a2 (by omega)).trans h0
  have gf : sM' S m1 := fun i hi => (kpt_at a2 (by omega)).trans (fm i hi)
  obtain ⟨m2, t1, t2, t3, t4⟩ := Q171 (d := d) (L := L) (s := miS t N k) o (tM_W h k1) g0 a3 hc hn1 hn mk.2 (miS_r t N k) f gf
  obtain ⟨p1, p2, p3, p4⟩ := tmF_p (t := t) (N := N) (n := n) (c := c) (k := miK t N k) (s := miS t N k) (S := S) mk.2 hn f
  have k2 : kpt WT m m2 := kpt_tr k1 t2
  have st : c_call (d + 4) 172 [jR 109, jI (7 * (c : Int))] (hH L m) = j_fin (c_call (d + 3)) 172 19 [some (jR 109), some (jI (7 * (c : Int))), none] [jI (if (tmF t N n c (miS t N k) (miK t N k) S).1 = true then 1 else 0)] (hH L m2) := by
    rw [E172, T172_0, show c_call (d + 3) 169 _ (hH L m) = _ from a1]
    simp only [Option.bind_some, Option.toList_some, List.cons_append, List.nil_append]
    rw [T172_8]
    rcases miS_r t N k with g | g
    · rw [g] at t1 ⊢
      rw [if_pos (by decide), t1]
      simp only [Option.bind_some, Option.toList_some, List.cons_append, List.nil_append]
    · rw [g] at t1 ⊢
      rw [if_neg (by decide), t1]
      simp only [Option.bind_some, Option.toList_some, List.cons_append, List.nil_append]
  rw [st, T172_19]
  unfold smF
  by_cases e : (tmF t N n c (miS t N k) (miK t N k) S).1 = true
  · simp only [if_pos e]
    rw [if_neg (by decide)]
    obtain ⟨m3, u1, u2, u3, u4⟩ := L172 (d := d) (L := L) o hc hn1 hn 80 _ _ m2 none (by omega) (tM_W h k2) ((kpt_at t2 (by unfold WT; omega)).trans g0) t3 p2 (p3 e).2 (t4 e)
    exact ⟨m3, u1, kpt_tr k2 u2, u3, u4⟩
  · simp only [if_neg e, if_true, Bool.false_eq_true, if_false]
    exact ⟨m2, rfl, k2, t3, fun g => absurd g (by decide)⟩
theorem L173 {d L : Nat} {t : Nat → Int} {N c : Nat} {s : Int} {S : Nat → Int} (o : txO t N) (hc : c < 4) (hs : s = 1 ∨ s = -1) : ∀ (j k : Nat) (v : Int) (m : j_M0), j ≤ 3 → tM t N m → m 109 7 = k → k ≤ N → (0 ≤ v ∧ v + 1 ≤ tnP (3 - j)) → sM' S m → ∃ m', j_fin (c_call (d + 2)) 173 29 [some (jR 109), some (jI (7 * (c : Int))), some (jI s), some (jI v), some (jI ((3 - j : Nat) : Int))] [] (hH L m) = some (some (jI (if (bnL t N s j k v).1 = true then 1 else 0)), hH L m') ∧ kpt WT m m' ∧ m' 109 7 = (bnL t N s j k v).2.1 ∧ ((bnL t N s j k v).1 = true → sM' (setL S (7 * c + 1) (s * (bnL t N s j k v).2.2)) m') := by
  have o1 := o.1
  have fin : ∀ (k : Nat) (v : Int) (m : j_M0), m 109 7 = k → (0 ≤ v ∧ v ≤ 1000) → sM' S m → ∃ m', (if 0 ≤ w32 (7 * (c : Int) + 1) ∧ w32 (7 * (c : Int) + 1) < 28 then some (some (jI 1), hH L (j_up m 114 (w32 (7 * (c : Int) + 1)).toNat (w32 (s * v)))) else none) = some (some (jI 1), hH L m') ∧ kpt WT m m' ∧ m' 109 7 = k ∧ sM' (setL S (7 * c + 1) (s * v)) m' := fun k v m h3 hv fm => by
    have w1 : True → w32 (7 * (c : Int) + 1) = 7 * (c : Int) + 1 := fun _ => w32_id (by omega) (by omega)
    have sv : w32 (s * v) = s * v := by
      rcases hs with rfl | rfl
      · rw [w32_id (by omega) (by omega)]
      · rw [w32_id (by omega) (by omega)]
    rw [w1 trivial, if_pos (by omega), sv, show (7 * (c : Int) + 1).toNat = 7 * c + 1 by omega]
    refine ⟨_, rfl, kpt_up (Or.inr rfl), by rw [up_ne (by omega)]; exact h3, fun i hi => ?_⟩
    rw [up_at]
    by_cases e : i = 7 * c + 1
    · rw [if_pos e, e, setL_eq]
    · rw [if_neg e, setL_ne e]; exact fm i hi
  intro j
  induction j with
  | zero =>
    intro k v m hj h h3 hk hv fm
    have e3 : tnP (3 - 0) = 1000 := rfl
    rw [T173_29, if_neg (by omega)]
    unfold bnL
    rw [if_pos rfl]
    obtain ⟨m', t1, t2, t3, t4⟩ := fin k v m h3 (by omega) fm
    exact ⟨m', t1, t2, t3, fun _ => t4⟩
  | succ j ih =>
    intro k v m hj h h3 hk hv fm
    have e3 : tnP (3 - j) = 10 * tnP (3 - (j + 1)) := by
      rw [show 3 - j = 3 - (j + 1) + 1 by omega]
      rfl
    have e4 : tnP (3 - (j + 1)) ≤ 100 := by
      rcases (show j = 0 ∨ j = 1 ∨ j = 2 by omega) with rfl | rfl | rfl
      · exact Int.le_refl 100
      · exact (by decide : (10 : Int) ≤ 100)
      · exact (by decide : (1 : Int) ≤ 100)
    rw [T173_29, if_pos (by omega), Q170 o h h3]
    simp only [Option.bind_some, Option.toList_some, List.cons_append, List.nil_append]
    rw [T173_39]
    unfold bnL
    by_cases e : 48 ≤ chT t N k ∧ chT t N k ≤ 57
    · have kn := chT_k (t := t) (N := N) (k := k) (by omega)
      have y1 : True → w32 (w32 (w32 (10 * v) + chT t N k) - 48) = 10 * v + (chT t N k - 48) := fun _ => by
        rw [w32_id (x := 10 * v) (by omega) (by omega), w32_id (x := 10 * v + chT t N k) (by omega) (by omega), w32_id (by omega) (by omega)]
        omega
      rw [bI_t e, if_neg (by decide), if_pos e, show c_call (d + 2) 168 _ (hH L m) = _ from Q168 (d := d + 1) o h h3]
      simp only [Option.bind_some, Option.toList_some, List.cons_append, List.nil_append]
      rw [T173_50, y1 trivial, h3, nat1 (k := k) (by omega)]
      have go : ∃ m', j_fin (c_call (d + 2)) 173 29 [some (jR 109), some (jI (7 * (c : Int))), some (jI s), some (jI (10 * v + (chT t N k - 48))), some (jI (w32 (((3 - (j + 1) : Nat) : Int) + 1)))] [] (hH L (j_up m 109 7 ((k + 1 : Nat) : Int))) = some (some (jI (if (bnL t N s j (k + 1) (10 * v + (chT t N k - 48))).1 = true then 1 else 0)), hH L m') ∧ kpt WT m m' ∧ m' 109 7 = (bnL t N s j (k + 1) (10 * v + (chT t N k - 48))).2.1 ∧ ((bnL t N s j (k + 1) (10 * v + (chT t N k - 48))).1 = true → sM' (setL S (7 * c + 1) (s * (bnL t N s j (k + 1) (10 * v + (chT t N k - 48))).2.2)) m') := by
        obtain ⟨m', t1, t2, t3⟩ := ih (k + 1) (10 * v + (chT t N k - 48)) (j_up m 109 7 ((k + 1 : Nat) : Int)) (by omega) (tM_7 h) (up_eq rfl) (by omega) (by omega) (fun i hi => (up_ne (by omega)).trans (fm i hi))
        rw [show w32 (((3 - (j + 1) : Nat) : Int) + 1) = ((3 - j : Nat) : Int) by rw [w32_id (by omega) (by omega)]; omega]
        exact ⟨m', t1, kpt_tr (kpt_up (Or.inl ⟨rfl, rfl⟩)) t2, t3⟩
      by_cases e5 : s < 0
      · rw [if_pos e5]
        by_cases e6 : 99 < 10 * v + (chT t N k - 48)
        · rw [if_pos e6, if_pos (show s < 0 ∧ 99 < 10 * v + (chT t N k - 48) from ⟨e5, e6⟩)]
          exact ⟨m, rfl, kpt_rfl, h3, fun h => absurd (show false = true from h) (by decide)⟩
        · rw [if_neg e6, if_neg (show ¬ (s < 0 ∧ 99 < 10 * v + (chT t N k - 48)) from fun h => e6 h.2)]
          exact go
      · rw [if_neg e5, if_neg (show ¬ (s < 0 ∧ 99 < 10 * v + (chT t N k - 48)) from fun h => e5 h.1)]
        exact go
    · rw [bI_f e, if_pos rfl, if_neg e, if_pos rfl]
      obtain ⟨m', t1, t2, t3, t4⟩ := fin k v m h3 (by omega) fm
      exact ⟨m', t1, t2, t3, fun _ => t4⟩
theorem Q173 {d L : Nat} {t : Nat → Int} {N c k : Nat} {S : Nat → Int} {m : j_M0} (o : txO t N) (hc : c < 4) (h : tM t N m) (h3 : m 109 7 = k) (hk : k ≤ N) (fm : sM' S m) : ∃ m', c_call (d + 3) 173 [jR 109, jI (7 * (c : Int))] (hH L m) = some (some (jI (if (bdF t N k).1 = true then 1 else 0)), hH L m') ∧ kpt WT m m' ∧ m' 109 7 = (bdF t N k).2.1 ∧ ((bdF t N k).1 = true → sM' (setL S (7 * c + 1) (miS t N k * (bdF t N k).2.2)) m') := by
  have o1 := o.1
  obtain ⟨m1, a1, a2, a3⟩ := Q169m (d := d) (L := L) o h h3 hk
  have mk := miK_p (t := t) hk
  have k1 : kpt WT m m1 := kpt_w a2 (fun b z h => Or.inl h)
  have h' := tM_W h k1
  have gf : sM' S m1 := fun i hi => (kpt_at a2 (by omega)).trans (fm i hi)
  have st : c_call (d + 3) 173 [jR 109, jI (7 * (c : Int))] (hH L m) = j_fin (c_call (d + 2)) 173 19 [some (jR 109), some (jI (7 * (c : Int))), some (jI (miS t N k)), none, none] [jI (bI (48 ≤ chT t N (miK t N k) ∧ chT t N (miK t N k) ≤ 57))] (hH L m1) := by
    rw [E173, T173_0, a1]
    simp only [Option.bind_some, Option.toList_some, List.cons_append, List.nil_append]
    rw [T173_6, Q170 o h' a3]
    simp only [Option.bind_some, Option.toList_some, List.cons_append, List.nil_append]
    rcases miS_r t N k with g | g
    · rw [g, if_pos (by decide)]
    · rw [g, if_neg (by decide)]
  rw [st, T173_19]
  unfold bdF
  by_cases e : 48 ≤ chT t N (miK t N k) ∧ chT t N (miK t N k) ≤ 57
  · rw [bI_t e, if_neg (by decide), if_pos e]
    obtain ⟨m2, t1, t2, t3, t4⟩ := L173 (d := d) (L := L) (S := S) o hc (miS_r t N k) 3 (miK t N k) 0 m1 (by omega) h' a3 mk.2 ⟨by omega, by decide⟩ gf
    exact ⟨m2, t1, kpt_tr k1 t2, t3, t4⟩
  · rw [bI_f e, if_pos rfl, if_neg e]
    exact ⟨m1, rfl, k1, a3, fun h => absurd (show false = true from h) (by decide)⟩
theorem L174 {C : Nat → List j_V → j_H → Option j_Z} {L c : Nat} {S : Nat → Int} (hc : c < 4) : ∀ j k : Nat, k + j = 7 → ∀ m : j_M0, (∀ i : Nat, i < 28 → m 114 i = if 7 * c ≤ i ∧ i < 7 * c + k then 0 else S i) → ∃ m', j_fin C 174 2 [some (jR 109), some (jI (7 * (c : Int))), some (jI k)] [] (hH L m) = ((C 172 [jR 109, jI (7 * (c : Int))] (hH L m')).bind fun z => j_fin C 174 28 [some (jR 109), some (jI (7 * (c : Int))), some (jI (7 : Nat))] (z.1.toList ++ []) z.2) ∧ kpt (fun b _ => b = 114) m m' ∧ sM' (zeT S c) m' := by
  intro j
  induction j with
  | zero =>
    intro k hk m h
    have ek : k = 7 := by omega
    subst ek
    rw [T174_2, if_neg (by omega)]
    exact ⟨m, rfl, kpt_rfl, h⟩
  | succ j ih =>
    intro k hk m h
    have w2 : True → w32 (7 * (c : Int) + (k : Int)) = 7 * (c : Int) + k := fun _ => w32_id (by omega) (by omega)
    rw [T174_2, if_pos (by omega), w2 trivial, if_pos (by omega), show (7 * (c : Int) + (k : Int)).toNat = 7 * c + k by omega, nat1 (k := k) (by omega)]
    obtain ⟨m', t1, t2, t3⟩ := ih (k + 1) (by omega) (j_up m 114 (7 * c + k) 0) (fun i hi => by
      rw [up_at]
      by_cases e : i = 7 * c + k
      · rw [if_pos e, if_pos (by omega)]
      · rw [if_neg e, h i hi]
        by_cases e2 : 7 * c ≤ i ∧ i < 7 * c + k
        · rw [if_pos e2, if_pos (by omega)]
        · rw [if_neg e2, if_neg (by omega)])
    exact ⟨m', t1, kpt_tr (kpt_up rfl) t2, t3⟩
theorem Q174 {d L : Nat} {t : Nat → Int} {N n c k : Nat} {S : Nat → Int} {m : j_M0} (o : txO t N) (hc : c < 4) (hn1 : 1 ≤ n) (hn : n ≤ 5) (h : tM t N m) (h0 : m 110 0 = n) (h3 : m 109 7 = k) (hk : k ≤ N) (fm : sM' S m) : ∃ m', c_call (d + 5) 174 [jR 109, jI (7 * (c : Int))] (hH L m) = some (some (jI (if (clF t N n c k S).1 = true then 1 else 0)), hH L m') ∧ kpt WT m m' ∧ m' 109 7 = (clF t N n c k S).2.1 ∧ ((clF t N n c k S).1 = true → sM' (clF t N n c k S).2.2 m') := by
  have o1 := o.1
  obtain ⟨m1, a1, a2, a3⟩ := L174 (C := c_call (d + 4)) (L := L) (S := S) hc 7 0 (by omega) m (fun i hi => by rw [if_neg (by omega)]; exact fm i hi)
  have a1' : j_fin (c_call (d + 4)) 174 2 [some (jR 109), some (jI (7 * (c : Int))), some (jI 0)] [] (hH L m) = _ := a1
  have k1 : kpt WT m m1 := kpt_w a2 (fun b z h => Or.inr h)
  obtain ⟨m2, b1, b2, b3, b4⟩ := Q172 (d := d) (L := L) o hc hn1 hn (tM_W h k1) ((kpt_at a2 (by omega)).trans h0) ((kpt_at a2 (by omega)).trans h3) hk (zeT_f S c) a3
  obtain ⟨v1, v2, v3⟩ := smF_p (t := t) (N := N) (n := n) (c := c) hn hk (zeT_f S c)
  have k2 : kpt WT m m2 := kpt_tr k1 b2
  have h2 := tM_W h k2
  rw [E174, T174_0, a1', b1]
  simp only [Option.bind_some, Option.toList_some, List.cons_append, List.nil_append]
  rw [T174_28]
  unfold clF
  generalize smF t N n c k (zeT S c) = R at b1 b3 b4 v1 v2 v3 ⊢
  by_cases e1 : R.1 = true
  · simp only [if_pos e1]
    rw [if_neg (by decide)]
    have fm2 := b4 e1
    have q168 : c_call (d + 4) 168 [jR 109] (hH L m2) = _ := Q168 (d := d + 3) o h2 b3
    rw [q168]
    simp only [Option.bind_some, Option.toList_some, List.cons_append, List.nil_append]
    rw [T174_37]
    by_cases e2 : chT t N R.2.1 = 62 ∨ chT t N R.2.1 = 60
    · have kn := chT_k (t := t) (N := N) (k := R.2.1) (by omega)
      obtain ⟨so, hso⟩ : ∃ so : Int, so = if chT t N R.2.1 = 62 then 0 else 1 := ⟨_, rfl⟩
      obtain ⟨m3, hm3⟩ : ∃ m3, m3 = j_up (j_up m2 114 (7 * c) so) 109 7 ((R.2.1 + 1 : Nat) : Int) := ⟨_, rfl⟩
      have h3' : tM t N m3 := by rw [hm3]; exact tM_7 (tM_k h2 (fun b z g => up_ne (by omega)))
      have k3 : kpt WT m m3 := by rw [hm3]; exact kpt_tr k2 (kpt_tr (kpt_up (Or.inr rfl)) (kpt_up (Or.inl ⟨rfl, rfl⟩)))
      have fm3 : sM' (setL R.2.2 (7 * c) so) m3 := fun i hi => by
        rw [hm3, up_ne (by omega), up_at]
        by_cases e : i = 7 * c
        · rw [if_pos e, e, setL_eq]
        · rw [if_neg e, setL_ne e]; exact fm2 i hi
      obtain ⟨m4, c1, c2, c3, c4⟩ := Q173 (d := d + 1) (L := L) (S := setL R.2.2 (7 * c) so) o hc h3' (show m3 109 7 = ((R.2.1 + 1 : Nat) : Int) by rw [hm3, up_eq rfl]) (by omega) fm3
      have end62 : j_fin (c_call (d + 4)) 174 62 [some (jR 109), some (jI (7 * (c : Int))), some (jI (7 : Nat))] [jI (chT t N R.2.1), jI (7 * (c : Int)), jR 114] (hH L m2) = some (some (jI (if (bdF t N (R.2.1 + 1)).1 = true then 1 else 0)), hH L m4) := by
        have c28 : 0 ≤ 7 * (c : Int) ∧ 7 * (c : Int) < 28 := by omega
        have w3 : w32 (j_up m2 114 (7 * c) so 109 7 + 1) = ((R.2.1 + 1 : Nat) : Int) := by rw [up_ne (by omega), b3, nat1 (by omega)]
        have j0 : (7 * (c : Int)).toNat = 7 * c := by omega
        have fin : ((c_call (d + 4) 173 [jR 109, jI (7 * (c : Int))] (hH L m3)).bind fun z => j_fin (c_call (d + 4)) 174 88 [some (jR 109), some (jI (7 * (c : Int))), some (jI (7 : Nat))] (z.1.toList ++ []) z.2) = some (some (jI (if (bdF t N (R.2.1 + 1)).1 = true then 1 else 0)), hH L m4) := by
          rw [c1]
          simp only [Option.bind_some, Option.toList_some, List.cons_append, List.nil_append]
          rw [T174_88]
          by_cases g : (bdF t N (R.2.1 + 1)).1 = true
          · rw [if_pos g, if_pos (Or.inr rfl)]
          · rw [if_neg g, if_pos (Or.inl rfl)]
        rw [T174_62]
        by_cases g : chT t N R.2.1 = 62
        · rw [if_pos g] at hso
          subst hso
          rw [if_pos g, if_pos c28, j0, w3, ← hm3]
          exact fin
        · rw [if_neg g] at hso
          subst hso
          rw [if_neg g, if_pos c28, j0, w3, ← hm3]
          exact fin
      have run : ∀ W : Option j_Z, W = some (some (jI (if (bdF t N (R.2.1 + 1)).1 = true then 1 else 0)), hH L m4) → (if chT t N R.2.1 = 62 then ((c_call (d + 4) 168 [jR 109] (hH L m2)).bind fun z => j_fin (c_call (d + 4)) 174 62 [some (jR 109), some (jI (7 * (c : Int))), some (jI (7 : Nat))] (z.1.toList ++ [jI (7 * (c : Int)), jR 114]) z.2) else ((c_call (d + 4) 168 [jR 109] (hH L m2)).bind fun z => j_fin (c_call (d + 4)) 174 46 [some (jR 109), some (jI (7 * (c : Int))), some (jI (7 : Nat))] (z.1.toList ++ []) z.2)) = W := fun W hW => by
        rw [q168, hW]
        simp only [Option.bind_some, Option.toList_some, List.cons_append, List.nil_append]
        by_cases g : chT t N R.2.1 = 62
        · rw [if_pos g]
          exact end62
        · rw [if_neg g, T174_46, if_pos (show chT t N R.2.1 = 60 by omega), q168]
          simp only [Option.bind_some, Option.toList_some, List.cons_append, List.nil_append]
          exact end62
      simp only [if_pos e2]
      by_cases g2 : (bdF t N (R.2.1 + 1)).1 = true
      · simp only [if_pos g2]
        refine ⟨m4, run _ (by rw [if_pos g2]; rfl), kpt_tr k3 c2, c3, fun _ i hi => ?_⟩
        have := c4 g2 i hi
        rw [this, hso]
      · simp only [if_neg g2, Bool.false_eq_true, if_false]
        exact ⟨m4, run _ (by rw [if_neg g2]), kpt_tr k3 c2, c3, fun g => absurd g (by decide)⟩
    · simp only [if_neg e2, Bool.false_eq_true, if_false]
      rw [if_neg (fun g => e2 (Or.inl g)), q168]
      simp only [Option.bind_some, Option.toList_some, List.cons_append, List.nil_append]
      rw [T174_46, if_neg (fun g => e2 (Or.inr g))]
      exact ⟨m2, rfl, k2, b3, fun g => absurd g (by decide)⟩
  · simp only [if_neg e1, if_true, Bool.false_eq_true, if_false]
    exact ⟨m2, rfl, k2, b3, fun g => absurd g (by decide)⟩
theorem L175 {d L : Nat} {t : Nat → Int} {N n : Nat} (o : txO t N) (hn1 : 1 ≤ n) (hn : n ≤ 5) : ∀ (r c k : Nat) (S : Nat → Int) (m : j_M0), r + 1 + c = 4 → tM t N m → m 110 0 = n → m 109 7 = k → k ≤ N → sM' S m → ∃ m', j_fin (c_call (d + 5)) 175 9 [some (jR 109), some (jI c), some (jI 1)] [] (hH L m) = some (some (jI (if (alF t N n (r + 1) c k S).1 = true then (((alF t N n (r + 1) c k S).2.2.1 : Nat) : Int) else -1)), hH L m') ∧ kpt WT m m' ∧ m' 109 7 = (alF t N n (r + 1) c k S).2.1 ∧ ((alF t N n (r + 1) c k S).1 = true → sM' (alF t N n (r + 1) c k S).2.2.2 m') := by
  have o1 := o.1
  intro r
  induction r with
  | zero =>
    intro c k S m hr h h0 h3 hk fm
    have ec : c = 3 := by omega
    subst ec
    obtain ⟨m1, t1, t2, t3, t4⟩ := Q174 (d := d) (L := L) (S := S) o (show 3 < 4 by omega) hn1 hn h h0 h3 hk fm
    obtain ⟨p1, p2⟩ := clF_p (t := t) (N := N) (n := n) (c := 3) (S := S) hn hk
    have t1' : c_call (d + 5) 174 [jR 109, jI 21] (hH L m) = _ := t1
    have h6 := (tM_W h t2).1
    rw [T175_9, if_neg (by decide), if_pos (by decide), show w32 (7 * ((3 : Nat) : Int)) = 21 from rfl, t1']
    simp only [Option.bind_some, Option.toList_some, List.cons_append, List.nil_append]
    rw [T175_26, show w32 (((3 : Nat) : Int) + 1) = 4 from rfl]
    unfold alF
    generalize clF t N n 3 k S = R at t1 t3 t4 p1 p2 ⊢
    by_cases e1 : R.1 = true
    · simp only [if_pos e1]
      rw [if_neg (by decide), if_neg (by decide), T175_9, if_pos rfl, t3, h6]
      by_cases e2 : N ≤ R.2.1
      · simp only [if_pos e2]
        rw [if_pos (show ((R.2.1 : Nat) : Int) = N by omega)]
        exact ⟨m1, rfl, t2, t3, fun _ => t4 e1⟩
      · simp only [if_neg e2]
        rw [if_neg (show ¬ ((R.2.1 : Nat) : Int) = N by omega)]
        have ne1 : ¬ (0 ≠ 0 ∧ chT t N R.2.1 = 59) := fun g => g.1 rfl
        simp only [if_neg ne1, Bool.false_eq_true, if_false]
        exact ⟨m1, rfl, t2, t3, fun g => absurd g (by decide)⟩
    · simp only [if_neg e1, if_true, Bool.false_eq_true, if_false]
      exact ⟨m1, rfl, t2, t3, fun g => absurd g (by decide)⟩
  | succ r ih =>
    intro c k S m hr h h0 h3 hk fm
    obtain ⟨m1, t1, t2, t3, t4⟩ := Q174 (d := d) (L := L) (S := S) o (show c < 4 by omega) hn1 hn h h0 h3 hk fm
    obtain ⟨p1, p2⟩ := clF_p (t := t) (N := N) (n := n) (c := c) (S := S) hn hk
    have h1 := tM_W h t2
    have h6 := h1.1
    have w7 : w32 (7 * (c : Int)) = 7 * (c : Int) := w32_id (by omega) (by omega)
    rw [T175_9, if_neg (by decide), if_pos (by omega), w7, t1]
    simp only [Option.bind_some, Option.toList_some, List.cons_append, List.nil_append]
    rw [T175_26, nat1 (by omega)]
    unfold alF
    generalize clF t N n c k S = R at t1 t3 t4 p1 p2 ⊢
    by_cases e1 : R.1 = true
    · simp only [if_pos e1]
      have q169 : c_call (d + 5) 169 [jR 109, jI 59] (hH L m1) = _ := Q169 (d := d + 3) (x := 59) o h1 t3 p1
      rw [if_neg (by decide), if_pos (by omega), q169]
      by_cases e4 : chT t N R.2.1 = 59
      · have kn := chT_k (t := t) (N := N) (k := R.2.1) (by omega)
        have ye1 : r + 1 ≠ 0 ∧ chT t N R.2.1 = 59 := ⟨by omega, e4⟩
        have e2 : ¬ N ≤ R.2.1 := by omega
        rw [if_pos e4]
        simp only [Option.bind_some, Option.toList_some, List.cons_append, List.nil_append]
        simp only [if_neg e2, if_pos ye1]
        rw [T175_45, if_neg (by decide)]
        obtain ⟨m2, u1, u2, u3, u4⟩ := ih (c + 1) (R.2.1 + 1) R.2.2 (j_up m1 109 7 ((R.2.1 + 1 : Nat) : Int)) (by omega) (tM_7 h1) (by rw [up_ne (by omega)]; exact (kpt_at t2 (by unfold WT; omega)).trans h0) (up_eq rfl) (by omega) (fun i hi => (up_ne (by omega)).trans (t4 e1 i hi))
        exact ⟨m2, u1, kpt_tr t2 (kpt_tr (kpt_up (Or.inl ⟨rfl, rfl⟩)) u2), u3, u4⟩
      · have ne1 : ¬ (r + 1 ≠ 0 ∧ chT t N R.2.1 = 59) := fun g => e4 g.2
        rw [if_neg e4]
        simp only [Option.bind_some, Option.toList_some, List.cons_append, List.nil_append]
        rw [T175_45, if_pos rfl, T175_9, if_pos rfl, t3, h6]
        by_cases e2 : N ≤ R.2.1
        · simp only [if_pos e2]
          rw [if_pos (show ((R.2.1 : Nat) : Int) = N by omega)]
          exact ⟨m1, rfl, t2, t3, fun _ => t4 e1⟩
        · simp only [if_neg e2, if_neg ne1, Bool.false_eq_true, if_false]
          rw [if_neg (show ¬ ((R.2.1 : Nat) : Int) = N by omega)]
          exact ⟨m1, rfl, t2, t3, fun g => absurd g (by decide)⟩
    · simp only [if_neg e1, if_true, Bool.false_eq_true, if_false]
      exact ⟨m1, rfl, t2, t3, fun g => absurd g (by decide)⟩
