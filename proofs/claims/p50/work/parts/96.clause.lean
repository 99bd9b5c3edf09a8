/-! The class reads a clause. -/
theorem tC_3 {t : Nat → Int} {N : Nat} {m : j_M0} {v : Int} (h : tC' t N m) : tC' t N (j_up m 93 3 v) := tC_k h (fun b z g => by
  by_cases g2 : b = 93
  · subst g2
    exact up_nj (by omega)
  · exact up_ne g2)
theorem tC_W {t : Nat → Int} {N c : Nat} {m m' : j_M0} (h : tC' t N m) (k : kpt (WC c) m m') : tC' t N m' := tC_k h (fun b z g => kpt_at k (by unfold WC; omega))
theorem L70z {C : Nat → List j_V → j_H → Option j_Z} {c : Nat} {L : j_B} (hc : c < 4) : ∀ j k : Nat, k + j = 5 → ∀ m : j_M0, m 93 1 = c → (∀ q : Nat, q < k → m 97 (5 * c + q) = 0) → ∃ m', j_fin C 70 2 [some (jR 93), some (jI k), none] [] (hH L m) = ((C 68 [jR 93, jI 45] (hH L m')).bind fun z => j_fin C 70 34 [some (jR 93), some (jI (5 : Nat)), none] (z.1.toList ++ [jR 93]) z.2) ∧ kpt (fun b z => b = 97 ∧ 5 * c ≤ z ∧ z < 5 * c + 5) m m' ∧ ∀ q : Nat, q < 5 → m' 97 (5 * c + q) = 0 := by
  intro j
  induction j with
  | zero =>
    intro k hk m h1 h
    have ek : k = 5 := by omega
    subst ek
    rw [T70_2, if_neg (by omega)]
    exact ⟨m, rfl, kpt_rfl, h⟩
  | succ j ih =>
    intro k hk m h1 h
    have w2 : True → w32 (w32 ((c : Int) * 5) + (k : Int)) = 5 * (c : Int) + k := fun _ => by rw [w32_id (x := (c : Int) * 5) (by omega) (by omega), w32_id (by omega) (by omega)]; omega
    rw [T70_2, if_pos (by omega), h1, w2 trivial, if_pos (by omega), show (5 * (c : Int) + (k : Int)).toNat = 5 * c + k by omega, nat1 (k := k) (by omega)]
    obtain ⟨m', t1, t2, t3⟩ := ih (k + 1) (by omega) (j_up m 97 (5 * c + k) 0) (by rw [up_ne (by omega)]; exact h1) (fun q hq => by
      rw [up_at]
      by_cases e : q = k
      · rw [if_pos (by omega)]
      · rw [if_neg (by omega)]; exact h q (by omega))
    exact ⟨m', t1, kpt_tr (kpt_up (by omega)) t2, t3⟩
def WL (c : Nat) (b z : Nat) : Prop := (b = 93 ∧ z = 3) ∨ ((b = 95 ∨ b = 96) ∧ z = c) ∨ (b = 97 ∧ 5 * c ≤ z ∧ z < 5 * c + 5)
theorem WC_L {c : Nat} {m m' : j_M0} (k : kpt (WC c) m m') : kpt (WL c) m m' := kpt_w k (fun b z h => by unfold WC at h; unfold WL; omega)
theorem tC_L {t : Nat → Int} {N c : Nat} {m m' : j_M0} (h : tC' t N m) (k : kpt (WL c) m m') : tC' t N m' := tC_k h (fun b z g => kpt_at k (by unfold WL; omega))
/-- behind the sum -/
theorem Q70e {d : Nat} {L : j_B} {t : Nat → Int} {N n c k : Nat} {y : Int} {o3 : Option j_V} {S : Nat → Int} {m : j_M0} (o : txO t N) (hc : c < 4) (h : tC' t N m) (h1 : m 93 1 = c) (h3 : m 93 3 = k) (hk : k ≤ N) (fc : fC c S m) : ∃ m', ((c_call (d + 3) 67 [jR 93] (hH L m)).bind fun z => j_fin (c_call (d + 3)) 70 113 [some (jR 93), some (jI y), o3] (z.1.toList ++ []) z.2) = some (some (jI (if (chT t N k = 62 ∨ chT t N k = 60) ∧ (bdF t N (k + 1)).1 = true then 1 else 0)), hH L m') ∧ kpt (WL c) m m' ∧ m' 93 3 = (if chT t N k = 62 ∨ chT t N k = 60 then (((bdF t N (k + 1)).2.1 : Nat) : Int) else (k : Int)) ∧ ((chT t N k = 62 ∨ chT t N k = 60) ∧ (bdF t N (k + 1)).1 = true → m' 95 c = (if chT t N k = 62 then 0 else 1) ∧ m' 96 c = miS t N (k + 1) * (bdF t N (k + 1)).2.2 ∧ fC c S m') := by
  have o1 := o.1
  have q67 : ∀ m' : j_M0, tC' t N m' → m' 93 3 = k → c_call (d + 3) 67 [jR 93] (hH L m') = some (some (jI (chT t N k)), hH L m') := fun m' g g3 => Q67 (d := d + 2) o g g3
  rw [q67 m h h3]
  simp only [Option.bind_some, Option.toList_some, List.cons_append, List.nil_append]
  rw [T70_113]
  by_cases e : chT t N k = 62 ∨ chT t N k = 60
  · have kn := chT_k (t := t) (N := N) (k := k) (by omega)
    obtain ⟨so, hso⟩ : ∃ so : Int, so = if chT t N k = 62 then 0 else 1 := ⟨_, rfl⟩
    obtain ⟨m1, hm1⟩ : ∃ m1, m1 = j_up (j_up m 95 c so) 93 3 ((k + 1 : Nat) : Int) := ⟨_, rfl⟩
    have h' : tC' t N m1 := by rw [hm1]; exact tC_3 (tC_k h (fun b z g => up_ne (by omega)))
    have g1 : m1 93 1 = c := by rw [hm1, up_nj (by omega), up_ne (by omega)]; exact h1
    have g3 : m1 93 3 = ((k + 1 : Nat) : Int) := by rw [hm1, up_eq rfl]
    have k1 : kpt (WL c) m m1 := by rw [hm1]; exact kpt_tr (kpt_up (by unfold WL; omega)) (kpt_up (by unfold WL; omega))
    have q68 := Q68 (d := d + 1) (L := L) (x := 45) o h' g3 (by omega)
    obtain ⟨m2, hm2⟩ : ∃ m2, m2 = if chT t N (k + 1) = 45 then j_up m1 93 3 ((k + 1 + 1 : Nat) : Int) else m1 := ⟨_, rfl⟩
    have q68' : c_call (d + 3) 68 [jR 93, jI 45] (hH L m1) = some (some (jI (if chT t N (k + 1) = 45 then 1 else 0)), hH L m2) := by
      refine q68.trans ?_
      rw [hm2]
      by_cases g : chT t N (k + 1) = 45
      · rw [if_pos g, if_pos g, if_pos g]
      · rw [if_neg g, if_neg g, if_neg g]
    have k2' : kpt (fun b z => b = 93 ∧ z = 3) m1 m2 := by
      rw [hm2]
      split
      · exact kpt_up ⟨rfl, rfl⟩
      · exact kpt_rfl
    have k2 : kpt (WL c) m1 m2 := kpt_w k2' (fun b z h => Or.inl h)
    have f1 : m2 93 1 = c := (kpt_at (kpt_tr k1 k2) (by unfold WL; omega)).trans h1
    have f3 : m2 93 3 = ((miK t N (k + 1) : Nat) : Int) := by
      rw [hm2]
      unfold miK
      by_cases g : chT t N (k + 1) = 45
      · rw [if_pos g, if_pos g, up_eq rfl]
      · rw [if_neg g, if_neg g]; exact g3
    obtain ⟨m3, r1, r2, r3, r4⟩ := Q72 (d := d) (L := L) (x := if chT t N (k + 1) = 45 then 1 else 0) (m := m2) o hc (tC_L h' k2) f1 f3 (k := k + 1) (by omega) rfl
    have k3 : kpt (WL c) m m3 := kpt_tr (kpt_tr k1 k2) (kpt_w r2 (fun b z h => by unfold WL; omega))
    have end141 : j_fin (c_call (d + 3)) 70 141 [some (jR 93), some (jI y), o3] [jI (chT t N k), jI (c : Int), jR 95] (hH L m) = some (some (jI (if (bdF t N (k + 1)).1 = true then 1 else 0)), hH L m3) := by
      have c4 : 0 ≤ (c : Int) ∧ (c : Int) < 4 := by omega
      have w3 : w32 (j_up m 95 c so 93 3 + 1) = ((k + 1 : Nat) : Int) := by rw [up_ne (by omega), h3, nat1 (by omega)]
      have fin : ((c_call (d + 3) 68 [jR 93, jI 45] (hH L m1)).bind fun z => j_fin (c_call (d + 3)) 70 169 [some (jR 93), some (jI y), o3] (z.1.toList ++ [jR 93]) z.2) = some (some (jI (if (bdF t N (k + 1)).1 = true then 1 else 0)), hH L m3) := by
        rw [q68']
        simp only [Option.bind_some, Option.toList_some, List.cons_append, List.nil_append]
        rw [T70_169, r1]
        simp only [Option.bind_some, Option.toList_some, List.cons_append, List.nil_append]
        rw [T70_172]
        by_cases g : (bdF t N (k + 1)).1 = true
        · rw [if_pos g, if_pos (Or.inr rfl)]
        · rw [if_neg g, if_pos (Or.inl rfl)]
      rw [T70_141]
      by_cases g : chT t N k = 62
      · rw [if_pos g] at hso
        subst hso
        rw [if_pos g, if_pos c4, Int.toNat_natCast, w3, ← hm1]
        exact fin
      · rw [if_neg g] at hso
        subst hso
        rw [if_neg g, if_pos c4, Int.toNat_natCast, w3, ← hm1]
        exact fin
    refine ⟨m3, ?_, k3, ?_, fun g => ⟨?_, r4 g.2, fun p hp => ?_⟩⟩
    · have fin2 : (if (chT t N k = 62 ∨ chT t N k = 60) ∧ (bdF t N (k + 1)).1 = true then (1 : Int) else 0) = if (bdF t N (k + 1)).1 = true then 1 else 0 := by
        by_cases g : (bdF t N (k + 1)).1 = true
        · rw [if_pos g, if_pos ⟨e, g⟩]
        · rw [if_neg g, if_neg (fun w => g w.2)]
      rw [fin2]
      by_cases g : chT t N k = 62
      · rw [if_pos g, q67 m h h3, h1]
        exact end141
      · have g2 : chT t N k = 60 := by omega
        rw [if_neg g, q67 m h h3]
        simp only [Option.bind_some, Option.toList_some, List.cons_append, List.nil_append]
        rw [T70_122, if_pos g2, q67 m h h3, h1]
        exact end141
    · rw [if_pos e, r3]
    · rw [kpt_at r2 (by omega), kpt_at k2' (by omega), hm1, up_ne (by omega), up_eq rfl, hso]
    · rw [kpt_at r2 (by omega)]
      have a : m2 97 (5 * c + p) = m1 97 (5 * c + p) := by
        rw [hm2]
        split
        · exact up_ne (by omega)
        · rfl
      rw [a, hm1, up_ne (by omega), up_ne (by omega)]
      exact fc p hp
  · refine ⟨m, ?_, kpt_rfl, by rw [if_neg e]; exact h3, fun g => absurd g.1 e⟩
    rw [if_neg (fun g => e (Or.inl g)), q67 m h h3]
    simp only [Option.bind_some, Option.toList_some, List.cons_append, List.nil_append]
    rw [T70_122, if_neg (fun g => e (Or.inr g)), if_neg (fun g => e g.1)]
