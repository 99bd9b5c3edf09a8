/-! The class reads a clause. -/
theorem tC_3 {t : Nat → Int} {N : Nat} {m : j_M0} {v : Int} (h : tC' t N m) : tC' t N (j_up m 93 3 v) := tC_k h (fun b z g => by
  by_cases g2 : b = 93
  · subst g2
    exact up_nj (by omega)
  · exact up_ne g2)
theorem tC_W {t : Nat → Int} {N c : Nat} {m m' : j_M0} (h : tC' t N m) (k : kpt (WC c) m m') : tC' t N m' := tC_k h (fun b z g => kpt_at k (by unfold WC; omega))
theorem L70s {d : Nat} {L : j_B} {t : Nat → Int} {N n c : Nat} (o : txO t N) (hc : c < 4) (hn : n ≤ 5) : ∀ (u k x1 : Nat) (S : Nat → Int) (m : j_M0) (o2 : Option j_V), x1 + u = 80 → tC' t N m → m 93 1 = c → m 93 3 = k → m 93 4 = n → k ≤ N → facR S c → fC c S m → ∃ m', kpt (WC c) m m' ∧ m' 93 3 = (smL t N n c u k S).2.1 ∧ ((smL t N n c u k S).1 ≠ true → j_fin (c_call (d + 3)) 70 44 [some (jR 93), some (jI x1), o2] [] (hH L m) = some (some (jI 0), hH L m')) ∧ ((smL t N n c u k S).1 = true → fC c (smL t N n c u k S).2.2 m' ∧ ∃ (y : Int) (o3 : Option j_V), j_fin (c_call (d + 3)) 70 44 [some (jR 93), some (jI x1), o2] [] (hH L m) = (c_call (d + 3) 67 [jR 93] (hH L m')).bind fun z => j_fin (c_call (d + 3)) 70 113 [some (jR 93), some (jI y), o3] (z.1.toList ++ []) z.2) := by
  have o1 := o.1
  intro u
  induction u with
  | zero =>
    intro k x1 S m o2 hx h h1 h3 h4 hk f fc
    refine ⟨m, kpt_rfl, h3, fun e => absurd rfl e, fun _ => ⟨fc, (x1 : Int), o2, ?_⟩⟩
    rw [T70_44, if_neg (by omega)]
  | succ u ih =>
    intro k x1 S m o2 hx h h1 h3 h4 hk f fc
    have q67 : c_call (d + 3) 67 [jR 93] (hH L m) = _ := Q67 (d := d + 2) o h h3
    rw [T70_44, if_pos (by omega)]
    unfold smL
    by_cases e : chT t N k = 43 ∨ chT t N k = 45
    · have kn := chT_k (t := t) (N := N) (k := k) (by omega)
      obtain ⟨m1, hm1⟩ : ∃ m1, m1 = j_up m 93 3 ((k + 1 : Nat) : Int) := ⟨_, rfl⟩
      have h' : tC' t N m1 := by rw [hm1]; exact tC_3 h
      have g1 : m1 93 1 = c := by rw [hm1, up_nj (by omega)]; exact h1
      have g3 : m1 93 3 = ((k + 1 : Nat) : Int) := by rw [hm1, up_eq rfl]
      have g4 : m1 93 4 = n := by rw [hm1, up_nj (by omega)]; exact h4
      have gf : fC c S m1 := fun p hp => by rw [hm1, up_ne (by omega)]; exact fc p hp
      have k1 : kpt (WC c) m m1 := by rw [hm1]; exact kpt_up (by unfold WC; omega)
      have to72 : ∀ W : Option j_Z, ((c_call (d + 3) 67 [jR 93] (hH L m)).bind fun z => j_fin (c_call (d + 3)) 70 72 [some (jR 93), some (jI x1), o2] (z.1.toList ++ []) z.2) = W → ((c_call (d + 3) 67 [jR 93] (hH L m)).bind fun z => j_fin (c_call (d + 3)) 70 54 [some (jR 93), some (jI x1), o2] (z.1.toList ++ []) z.2) = W := fun W hW => by
        rw [q67]
        simp only [Option.bind_some, Option.toList_some, List.cons_append, List.nil_append]
        rw [T70_54]
        by_cases e2 : chT t N k = 43
        · rw [if_pos e2]; exact hW
        · rw [if_neg e2, q67]
          simp only [Option.bind_some, Option.toList_some, List.cons_append, List.nil_append]
          rw [T70_63, if_pos (by omega)]
          exact hW
      have s72 : ∀ x : Int, x = (if chT t N k = 45 then 1 else 0) → ((c_call (d + 3) 67 [jR 93] (hH L m)).bind fun z => j_fin (c_call (d + 3)) 70 72 [some (jR 93), some (jI x1), o2] (z.1.toList ++ []) z.2) = ((c_call (d + 3) 71 [jR 93, jI x] (hH L m1)).bind fun z => j_fin (c_call (d + 3)) 70 98 [some (jR 93), some (jI x1), some (jI x)] (z.1.toList ++ []) z.2) := fun x e3 => by
        rw [q67]
        simp only [Option.bind_some, Option.toList_some, List.cons_append, List.nil_append]
        rw [T70_72, h3, nat1 (by omega), ← hm1]
        by_cases e2 : chT t N k = 45
        · rw [if_pos e2] at e3 ⊢
          rw [e3]
        · rw [if_neg e2] at e3 ⊢
          rw [e3]
      obtain ⟨x, s, hs, hss, hx2⟩ : ∃ x s : Int, ((x = 0 ∧ s = 1) ∨ (x ≠ 0 ∧ s = -1)) ∧ s = (if chT t N k = 45 then -1 else 1) ∧ x = (if chT t N k = 45 then 1 else 0) := by
        by_cases e2 : chT t N k = 45
        · exact ⟨1, -1, Or.inr ⟨by decide, rfl⟩, by rw [if_pos e2], by rw [if_pos e2]⟩
        · exact ⟨0, 1, Or.inl ⟨rfl, rfl⟩, by rw [if_neg e2], by rw [if_neg e2]⟩
      have r72 := s72 x hx2
      obtain ⟨m2, t1, t2, t3, t4⟩ := Q71 (d := d) (L := L) (m := m1) o h' g1 g3 g4 hc hn (by omega) hs f gf
      obtain ⟨p1, p2, p3, p4⟩ := tmF_p (t := t) (N := N) (n := n) (c := c) (k := k + 1) (s := s) (S := S) (by omega) hn f
      rw [if_pos e, ← hss]
      rw [t1] at r72
      simp only [Option.bind_some, Option.toList_some, List.cons_append, List.nil_append] at r72
      rw [T70_98] at r72
      by_cases e3 : (tmF t N n c s (k + 1) S).1 = true
      · rw [if_pos e3, if_neg (by decide), nat1 (by omega)] at r72
        rw [if_pos e3]
        have k2 : kpt (WC c) m m2 := kpt_tr k1 t2
        obtain ⟨m3, u1, u2, u3, u4⟩ := ih _ (x1 + 1) _ m2 (some (jI x)) (by omega) (tC_W h k2) ((kpt_at t2 (by unfold WC; omega)).trans g1) t3 ((kpt_at t2 (by unfold WC; omega)).trans g4) p2 (p3 e3).2 (t4 e3)
        refine ⟨m3, kpt_tr k2 u1, u2, fun g => ?_, fun g => ?_⟩
        · exact to72 _ (r72.trans (u3 g))
        · obtain ⟨v1, y, o3, v2⟩ := u4 g
          exact ⟨v1, y, o3, to72 _ (r72.trans v2)⟩
      · rw [if_neg e3, if_pos rfl] at r72
        rw [if_neg e3]
        exact ⟨m2, kpt_tr k1 t2, t3, fun _ => to72 _ r72, fun g => absurd (show false = true from g) (by decide)⟩
    · rw [if_neg e]
      refine ⟨m, kpt_rfl, h3, fun e => absurd rfl e, fun _ => ⟨fc, (x1 : Int), o2, ?_⟩⟩
      have st : ((c_call (d + 3) 67 [jR 93] (hH L m)).bind fun z => j_fin (c_call (d + 3)) 70 54 [some (jR 93), some (jI x1), o2] (z.1.toList ++ []) z.2) = j_fin (c_call (d + 3)) 70 54 [some (jR 93), some (jI x1), o2] [jI (chT t N k)] (hH L m) := by
        rw [q67]
        rfl
      have st2 : ((c_call (d + 3) 67 [jR 93] (hH L m)).bind fun z => j_fin (c_call (d + 3)) 70 63 [some (jR 93), some (jI x1), o2] (z.1.toList ++ []) z.2) = j_fin (c_call (d + 3)) 70 63 [some (jR 93), some (jI x1), o2] [jI (chT t N k)] (hH L m) := by
        rw [q67]
        rfl
      rw [st, T70_54, if_neg (fun g => e (Or.inl g)), st2, T70_63, if_neg (fun g => e (Or.inr g))]
theorem L70z {C : Nat → List j_V → j_H → Option j_Z} {c : Nat} {L : j_B} (hc : c < 4) : ∀ j k : Nat, k + j = 5 → ∀ m : j_M0, m 93 1 = c → (∀ q : Nat, q < k → m 97 (5 * c + q) = 0) → ∃ m', j_fin C 70 2 [some (jR 93), some (jI k), none] [] (hH L m) = ((C 68 [jR 93, jI 45] (hH L m')).bind fun z => j_fin C 70 34 [some (jR 93), some (jI (5 : Nat)), none] (z.1.toList ++ [jR 93]) z.2) ∧ kpt (fun b z => b = 97 ∧ 5 * c ≤ z ∧ z < 5 * c + 5) m m' ∧ ∀ q : Nat, q < 5 → m' 97 (5 * c + q) = 0 := by
  intro j
  induction j with
  | zero =>
    intro k hk m h1 h
    have ek : k = 5 := by omega
    subst ek
    rw [T70_2, if_neg (by omega)]
    exact ⟨m, rfl, kpt_rfl, h⟩
  | succ j ih =>
    intro k hk m h1 h
    have w2 : True → w32 (w32 ((c : Int) * 5) + (k : Int)) = 5 * (c : Int) + k := fun _ => by rw [w32_id (x := (c : Int) * 5) (by omega) (by omega), w32_id (by omega) (by omega)]; omega
    rw [T70_2, if_pos (by omega), h1, w2 trivial, if_pos (by omega), show (5 * (c : Int) + (k : Int)).toNat = 5 * c + k by omega, nat1 (k := k) (by omega)]
    obtain ⟨m', t1, t2, t3⟩ := ih (k + 1) (by omega) (j_up m 97 (5 * c + k) 0) (by rw [up_ne (by omega)]; exact h1) (fun q hq => by
      rw [up_at]
      by_cases e : q = k
      · rw [if_pos (by omega)]
      · rw [if_neg (by omega)]; exact h q (by omega))
    exact ⟨m', t1, kpt_tr (kpt_up (by omega)) t2, t3⟩
def WL (c : Nat) (b z : Nat) : Prop := (b = 93 ∧ z = 3) ∨ ((b = 95 ∨ b = 96) ∧ z = c) ∨ (b = 97 ∧ 5 * c ≤ z ∧ z < 5 * c + 5)
theorem WC_L {c : Nat} {m m' : j_M0} (k : kpt (WC c) m m') : kpt (WL c) m m' := kpt_w k (fun b z h => by unfold WC at h; unfold WL; omega)
theorem tC_L {t : Nat → Int} {N c : Nat} {m m' : j_M0} (h : tC' t N m) (k : kpt (WL c) m m') : tC' t N m' := tC_k h (fun b z g => kpt_at k (by unfold WL; omega))
/-- behind the sum -/
theorem Q70e {d : Nat} {L : j_B} {t : Nat → Int} {N n c k : Nat} {y : Int} {o3 : Option j_V} {S : Nat → Int} {m : j_M0} (o : txO t N) (hc : c < 4) (h : tC' t N m) (h1 : m 93 1 = c) (h3 : m 93 3 = k) (hk : k ≤ N) (fc : fC c S m) : ∃ m', ((c_call (d + 3) 67 [jR 93] (hH L m)).bind fun z => j_fin (c_call (d + 3)) 70 113 [some (jR 93), some (jI y), o3] (z.1.toList ++ []) z.2) = some (some (jI (if (chT t N k = 62 ∨ chT t N k = 60) ∧ (bdF t N (k + 1)).1 = true then 1 else 0)), hH L m') ∧ kpt (WL c) m m' ∧ m' 93 3 = (if chT t N k = 62 ∨ chT t N k = 60 then (((bdF t N (k + 1)).2.1 : Nat) : Int) else (k : Int)) ∧ ((chT t N k = 62 ∨ chT t N k = 60) ∧ (bdF t N (k + 1)).1 = true → m' 95 c = (if chT t N k = 62 then 0 else 1) ∧ m' 96 c = miS t N (k + 1) * (bdF t N (k + 1)).2.2 ∧ fC c S m') := by
  have o1 := o.1
  have q67 : ∀ m' : j_M0, tC' t N m' → m' 93 3 = k → c_call (d + 3) 67 [jR 93] (hH L m') = some (some (jI (chT t N k)), hH L m') := fun m' g g3 => Q67 (d := d + 2) o g g3
  rw [q67 m h h3]
  simp only [Option.bind_some, Option.toList_some, List.cons_append, List.nil_append]
  rw [T70_113]
  by_cases e : chT t N k = 62 ∨ chT t N k = 60
  · have kn := chT_k (t := t) (N := N) (k := k) (by omega)
    obtain ⟨so, hso⟩ : ∃ so : Int, so = if chT t N k = 62 then 0 else 1 := ⟨_, rfl⟩
    obtain ⟨m1, hm1⟩ : ∃ m1, m1 = j_up (j_up m 95 c so) 93 3 ((k + 1 : Nat) : Int) := ⟨_, rfl⟩
    have h' : tC' t N m1 := by rw [hm1]; exact tC_3 (tC_k h (fun b z g => up_ne (by omega)))
    have g1 : m1 93 1 = c := by rw [hm1, up_nj (by omega), up_ne (by omega)]; exact h1
    have g3 : m1 93 3 = ((k + 1 : Nat) : Int) := by rw [hm1, up_eq rfl]
    have k1 : kpt (WL c) m m1 := by rw [hm1]; exact kpt_tr (kpt_up (by unfold WL; omega)) (kpt_up (by unfold WL; omega))
    have q68 := Q68 (d := d + 1) (L := L) (x := 45) o h' g3 (by omega)
    obtain ⟨m2, hm2⟩ : ∃ m2, m2 = if chT t N (k + 1) = 45 then j_up m1 93 3 ((k + 1 + 1 : Nat) : Int) else m1 := ⟨_, rfl⟩
    have q68' : c_call (d + 3) 68 [jR 93, jI 45] (hH L m1) = some (some (jI (if chT t N (k + 1) = 45 then 1 else 0)), hH L m2) := by
      refine q68.trans ?_
      rw [hm2]
      by_cases g : chT t N (k + 1) = 45
      · rw [if_pos g, if_pos g, if_pos g]
      · rw [if_neg g, if_neg g, if_neg g]
    have k2' : kpt (fun b z => b = 93 ∧ z = 3) m1 m2 := by
      rw [hm2]
      split
      · exact kpt_up ⟨rfl, rfl⟩
      · exact kpt_rfl
    have k2 : kpt (WL c) m1 m2 := kpt_w k2' (fun b z h => Or.inl h)
    have f1 : m2 93 1 = c := (kpt_at (kpt_tr k1 k2) (by unfold WL; omega)).trans h1
    have f3 : m2 93 3 = ((miK t N (k + 1) : Nat) : Int) := by
      rw [hm2]
      unfold miK
      by_cases g : chT t N (k + 1) = 45
      · rw [if_pos g, if_pos g, up_eq rfl]
      · rw [if_neg g, if_neg g]; exact g3
    obtain ⟨m3, r1, r2, r3, r4⟩ := Q72 (d := d) (L := L) (x := if chT t N (k + 1) = 45 then 1 else 0) (m := m2) o hc (tC_L h' k2) f1 f3 (k := k + 1) (by omega) rfl
    have k3 : kpt (WL c) m m3 := kpt_tr (kpt_tr k1 k2) (kpt_w r2 (fun b z h => by unfold WL; omega))
    have end141 : j_fin (c_call (d + 3)) 70 141 [some (jR 93), some (jI y), o3] [jI (chT t N k), jI (c : Int), jR 95] (hH L m) = some (some (jI (if (bdF t N (k + 1)).1 = true then 1 else 0)), hH L m3) := by
      have c4 : 0 ≤ (c : Int) ∧ (c : Int) < 4 := by omega
      have w3 : w32 (j_up m 95 c so 93 3 + 1) = ((k + 1 : Nat) : Int) := by rw [up_ne (by omega), h3, nat1 (by omega)]
      have fin : ((c_call (d + 3) 68 [jR 93, jI 45] (hH L m1)).bind fun z => j_fin (c_call (d + 3)) 70 169 [some (jR 93), some (jI y), o3] (z.1.toList ++ [jR 93]) z.2) = some (some (jI (if (bdF t N (k + 1)).1 = true then 1 else 0)), hH L m3) := by
        rw [q68']
        simp only [Option.bind_some, Option.toList_some, List.cons_append, List.nil_append]
        rw [T70_169, r1]
        simp only [Option.bind_some, Option.toList_some, List.cons_append, List.nil_append]
        rw [T70_172]
        by_cases g : (bdF t N (k + 1)).1 = true
        · rw [if_pos g, if_pos (Or.inr rfl)]
        · rw [if_neg g, if_pos (Or.inl rfl)]
      rw [T70_141]
      by_cases g : chT t N k = 62
      · rw [if_pos g] at hso
        subst hso
        rw [if_pos g, if_pos c4, Int.toNat_natCast, w3, ← hm1]
        exact fin
      · rw [if_neg g] at hso
        subst hso
        rw [if_neg g, if_pos c4, Int.toNat_natCast, w3, ← hm1]
        exact fin
    refine ⟨m3, ?_, k3, ?_, fun g => ⟨?_, r4 g.2, fun p hp => ?_⟩⟩
    · have fin2 : (if (chT t N k = 62 ∨ chT t N k = 60) ∧ (bdF t N (k + 1)).1 = true then (1 : Int) else 0) = if (bdF t N (k + 1)).1 = true then 1 else 0 := by
        by_cases g : (bdF t N (k + 1)).1 = true
        · rw [if_pos g, if_pos ⟨e, g⟩]
        · rw [if_neg g, if_neg (fun w => g w.2)]
      rw [fin2]
      by_cases g : chT t N k = 62
      · rw [if_pos g, q67 m h h3, h1]
        exact end141
      · have g2 : chT t N k = 60 := by omega
        rw [if_neg g, q67 m h h3]
        simp only [Option.bind_some, Option.toList_some, List.cons_append, List.nil_append]
        rw [T70_122, if_pos g2, q67 m h h3, h1]
        exact end141
    · rw [if_pos e, r3]
    · rw [kpt_at r2 (by omega), kpt_at k2' (by omega), hm1, up_ne (by omega), up_eq rfl, hso]
    · rw [kpt_at r2 (by omega)]
      have a : m2 97 (5 * c + p) = m1 97 (5 * c + p) := by
        rw [hm2]
        split
        · exact up_ne (by omega)
        · rfl
      rw [a, hm1, up_ne (by omega), up_ne (by omega)]
      exact fc p hp
  · refine ⟨m, ?_, kpt_rfl, by rw [if_neg e]; exact h3, fun g => absurd g.1 e⟩
    rw [if_neg (fun g => e (Or.inl g)), q67 m h h3]
    simp only [Option.bind_some, Option.toList_some, List.cons_append, List.nil_append]
    rw [T70_122, if_neg (fun g => e (Or.inr g)), if_neg (fun g => e g.1)]
theorem Q70 {d : Nat} {L : j_B} {t : Nat → Int} {N n c k : Nat} {S : Nat → Int} {m : j_M0} (o : txO t N) (hc : c < 4) (hn : n ≤ 5) (h : tC' t N m) (h1 : m 93 1 = c) (h3 : m 93 3 = k) (h4 : m 93 4 = n) (hk : k ≤ N) : ∃ m', c_call (d + 4) 70 [jR 93] (hH L m) = some (some (jI (if (clF t N n c k S).1 = true then 1 else 0)), hH L m') ∧ kpt (WL c) m m' ∧ m' 93 3 = (clF t N n c k S).2.1 ∧ ((clF t N n c k S).1 = true → m' 95 c = (clF t N n c k S).2.2 (7 * c) ∧ m' 96 c = (clF t N n c k S).2.2 (7 * c + 1) ∧ fC c (clF t N n c k S).2.2 m') := by
  have o1 := o.1
  obtain ⟨m1, a1, a2, a3⟩ := L70z (C := c_call (d + 3)) (L := L) hc 5 0 (by omega) m h1 (fun q hq => absurd hq (Nat.not_lt_zero q))
  have k1 : kpt (WL c) m m1 := kpt_w a2 (fun b z h => by unfold WL; omega)
  have b1 : m1 93 1 = c := (kpt_at k1 (by unfold WL; omega)).trans h1
  have b3 : m1 93 3 = k := (kpt_at a2 (by omega)).trans h3
  have b4 : m1 93 4 = n := (kpt_at k1 (by unfold WL; omega)).trans h4
  have h' := tC_L h k1
  have q68 := Q68 (d := d + 1) (L := L) (x := 45) o h' b3 hk
  obtain ⟨m2, hm2⟩ : ∃ m2, m2 = if chT t N k = 45 then j_up m1 93 3 ((k + 1 : Nat) : Int) else m1 := ⟨_, rfl⟩
  have q68' : c_call (d + 3) 68 [jR 93, jI 45] (hH L m1) = some (some (jI (if chT t N k = 45 then 1 else 0)), hH L m2) := by
    refine q68.trans ?_
    rw [hm2]
    by_cases g : chT t N k = 45
    · rw [if_pos g, if_pos g, if_pos g]
    · rw [if_neg g, if_neg g, if_neg g]
  have k2 : kpt (WC c) m1 m2 := by
    rw [hm2]
    split
    · exact kpt_up (by unfold WC; omega)
    · exact kpt_rfl
  have c1 : m2 93 1 = c := (kpt_at k2 (by unfold WC; omega)).trans b1
  have c4 : m2 93 4 = n := (kpt_at k2 (by unfold WC; omega)).trans b4
  have c3 : m2 93 3 = ((miK t N k : Nat) : Int) := by
    rw [hm2]
    unfold miK
    by_cases g : chT t N k = 45
    · rw [if_pos g, if_pos g, up_eq rfl]
    · rw [if_neg g, if_neg g]; exact b3
  have cf : fC c (zeT S c) m2 := fun p hp => by
    have a : m2 97 (5 * c + p) = m1 97 (5 * c + p) := by
      rw [hm2]
      split
      · exact up_ne (by omega)
      · rfl
    rw [a, a3 p hp]
    unfold zeT
    rw [if_pos (by omega)]
  have mk := miK_p (t := t) hk
  have hs : ((if chT t N k = 45 then (1 : Int) else 0) = 0 ∧ miS t N k = 1) ∨ ((if chT t N k = 45 then (1 : Int) else 0) ≠ 0 ∧ miS t N k = -1) := by
    unfold miS
    by_cases g : chT t N k = 45
    · rw [if_pos g, if_pos g]; exact Or.inr ⟨by decide, rfl⟩
    · rw [if_neg g, if_neg g]; exact Or.inl ⟨rfl, rfl⟩
  have f0 := zeT_f S c
  obtain ⟨m3, r1, r2, r3, r4⟩ := Q71 (d := d) (L := L) (m := m2) o (tC_W h' k2) c1 c3 c4 hc hn mk.2 hs f0 cf
  obtain ⟨p1, p2, p3, p4⟩ := tmF_p (t := t) (N := N) (n := n) (c := c) (k := miK t N k) (s := miS t N k) (S := zeT S c) mk.2 hn f0
  have k3 : kpt (WC c) m1 m3 := kpt_tr k2 r2
  have a1' : j_fin (c_call (d + 3)) 70 2 [some (jR 93), some (jI 0), none] [] (hH L m) = _ := a1
  have go : c_call (d + 4) 70 [jR 93] (hH L m) = j_fin (c_call (d + 3)) 70 37 [some (jR 93), some (jI (5 : Nat)), none] [jI (if (tmF t N n c (miS t N k) (miK t N k) (zeT S c)).1 = true then 1 else 0)] (hH L m3) := by
    rw [E70, T70_0, a1', q68']
    simp only [Option.bind_some, Option.toList_some, List.cons_append, List.nil_append]
    rw [T70_34, r1]
    simp only [Option.bind_some, Option.toList_some, List.cons_append, List.nil_append]
  rw [go, T70_37]
  unfold clF smF
  by_cases e1 : (tmF t N n c (miS t N k) (miK t N k) (zeT S c)).1 = true
  · simp only [if_pos e1]
    rw [if_neg (by decide)]
    obtain ⟨m4, s1, s2, s3, s4⟩ := L70s (d := d) (L := L) o hc hn 80 _ 0 _ m3 none (by omega) (tC_W h' k3) ((kpt_at r2 (by unfold WC; omega)).trans c1) r3 ((kpt_at r2 (by unfold WC; omega)).trans c4) p2 (p3 e1).2 (r4 e1)
    obtain ⟨v1, v2, v3⟩ := smL_p (t := t) (N := N) (n := n) (c := c) hn 80 _ _ p2 (p3 e1).2
    generalize smL t N n c 80 (tmF t N n c (miS t N k) (miK t N k) (zeT S c)).2.1 (tmF t N n c (miS t N k) (miK t N k) (zeT S c)).2.2 = R at s2 s3 s4 v1 v2 v3 ⊢
    have k4 : kpt (WL c) m m4 := kpt_tr k1 (WC_L (kpt_tr k3 s1))
    by_cases e2 : R.1 = true
    · obtain ⟨w1, y, o3, w2⟩ := s4 e2
      have x1 : m4 93 1 = c := (kpt_at k4 (by unfold WL; omega)).trans h1
      obtain ⟨m5, z1, z2, z3, z4⟩ := Q70e (d := d) (L := L) (y := y) (o3 := o3) (n := n) (m := m4) o hc (tC_L h k4) x1 s2 v1 w1
      have w2' : j_fin (c_call (d + 3)) 70 44 [some (jR 93), some (jI 0), none] [] (hH L m3) = _ := w2
      refine ⟨m5, w2'.trans (z1.trans ?_), kpt_tr k4 z2, ?_, ?_⟩
      · simp only [if_pos e2]
        by_cases g1 : chT t N R.2.1 = 62 ∨ chT t N R.2.1 = 60
        · simp only [if_pos g1]
          by_cases g2 : (bdF t N (R.2.1 + 1)).1 = true
          · simp only [if_pos g2, if_pos (show (chT t N R.2.1 = 62 ∨ chT t N R.2.1 = 60) ∧ (bdF t N (R.2.1 + 1)).1 = true from ⟨g1, g2⟩)]
            rfl
          · simp only [if_neg g2, if_neg (show ¬ ((chT t N R.2.1 = 62 ∨ chT t N R.2.1 = 60) ∧ (bdF t N (R.2.1 + 1)).1 = true) from fun w => g2 w.2)]
            rfl
        · simp only [if_neg g1, if_neg (show ¬ ((chT t N R.2.1 = 62 ∨ chT t N R.2.1 = 60) ∧ (bdF t N (R.2.1 + 1)).1 = true) from fun w => g1 w.1)]
          rfl
      · rw [z3]
        simp only [if_pos e2]
        by_cases g1 : chT t N R.2.1 = 62 ∨ chT t N R.2.1 = 60
        · simp only [if_pos g1]
          by_cases g2 : (bdF t N (R.2.1 + 1)).1 = true
          · simp only [if_pos g2]
          · simp only [if_neg g2]
        · simp only [if_neg g1]
      · simp only [if_pos e2]
        by_cases g1 : chT t N R.2.1 = 62 ∨ chT t N R.2.1 = 60
        · simp only [if_pos g1]
          by_cases g2 : (bdF t N (R.2.1 + 1)).1 = true
          · simp only [if_pos g2]
            intro _
            obtain ⟨y1, y2, y3⟩ := z4 ⟨g1, g2⟩
            refine ⟨?_, ?_, fun p hp => ?_⟩
            · rw [y1, setL_ne (by omega), setL_eq]
            · rw [y2, setL_eq]
            · rw [y3 p hp, setL_ne (by omega), setL_ne (by omega)]
          · simp only [if_neg g2]
            exact fun g => absurd g (by decide)
        · simp only [if_neg g1]
          exact fun g => absurd g (by decide)
    · have w := s3 e2
      refine ⟨m4, ?_, k4, ?_, ?_⟩
      · simp only [if_neg e2]
        exact w
      · simp only [if_neg e2]
        exact s2
      · simp only [if_neg e2]
        exact fun g => absurd g (by decide)
  · simp only [if_neg e1, if_true, Bool.false_eq_true, if_false]
    exact ⟨m3, rfl, kpt_tr k1 (WC_L k3), r3, fun g => absurd g (by decide)⟩
