/-! Repairing. -/
theorem nearF_p {T : TB} {r : Nat} (n : Nat) (h : 0 ≤ nearF T r n) : te T r (nearF T r n).toNat < 0 ∧ ∀ k : Nat, k < n → te T r k < 0 → trs T (nearF T r n).toNat * -(te T r k) ≤ trs T k * -(te T r (nearF T r n).toNat) := by
  induction n with
  | zero => unfold nearF at h; omega
  | succ n ih =>
    have hb := nearF_b T r n
    generalize hf : nearF T r (n + 1) = g at h ⊢
    unfold nearF at hf
    by_cases e : te T r n < 0
    · by_cases e2 : nearF T r n < 0
      · rw [if_pos ⟨e, Or.inl e2⟩] at hf
        subst hf
        rw [Int.toNat_natCast]
        refine ⟨e, fun k hk hn => ?_⟩
        by_cases e3 : k = n
        · subst e3; omega
        · exfalso
          have : ∀ n : Nat, nearF T r n < 0 → ∀ k : Nat, k < n → ¬ te T r k < 0 := by
            intro n
            induction n with
            | zero => intro _ k hk; omega
            | succ n ih =>
              intro hn k hk
              have hb := nearF_b T r n
              unfold nearF at hn
              split at hn
              · omega
              · by_cases e4 : k = n
                · subst e4; rename_i hh; intro h5; exact hh ⟨h5, Or.inl hn⟩
                · exact ih hn k (by omega)
          exact this n e2 k (by omega) hn
      · obtain ⟨a1, a2⟩ := ih (by omega)
        obtain ⟨f, hff⟩ : ∃ f : Nat, nearF T r n = f := ⟨_, (Int.toNat_of_nonneg (by omega)).symm⟩
        rw [hff] at hf a1 a2
        rw [Int.toNat_natCast] at hf a1 a2
        by_cases e3 : trs T n * -te T r f < trs T f * -te T r n ∨ trs T n * -te T r f = trs T f * -te T r n ∧ tos T n < tos T f
        · rw [if_pos ⟨e, Or.inr e3⟩] at hf
          subst hf
          rw [Int.toNat_natCast]
          refine ⟨e, fun k hk hn => ?_⟩
          by_cases e4 : k = n
          · subst e4; omega
          · have b1 := a2 k (by omega) hn
            have b2 : trs T n * -te T r f ≤ trs T f * -te T r n := by omega
            refine Int.le_of_mul_le_mul_right (a := -te T r f) ?_ (by omega)
            have b3 := Int.mul_le_mul_of_nonneg_right b2 (c := -te T r k) (by omega)
            have b4 := Int.mul_le_mul_of_nonneg_right b1 (c := -te T r n) (by omega)
            grind
        · rw [if_neg (fun h => by rcases h.2 with h | h; · omega
                                  · exact e3 h)] at hf
          subst hf
          rw [Int.toNat_natCast]
          refine ⟨a1, fun k hk hn => ?_⟩
          by_cases e4 : k = n
          · subst e4; omega
          · exact a2 k (by omega) hn
    · rw [if_neg (fun h => e h.1)] at hf
      subst hf
      obtain ⟨a1, a2⟩ := ih h
      refine ⟨a1, fun k hk hn => ?_⟩
      by_cases e4 : k = n
      · subst e4; exact absurd hn e
      · exact a2 k (by omega) hn
theorem lowF_p {T : TB} (n : Nat) : (0 ≤ lowF T n → tri T (lowF T n).toNat < 0) ∧ (lowF T n < 0 → ∀ i : Nat, i < n → 0 ≤ tri T i) := by
  induction n with
  | zero =>
    unfold lowF
    exact ⟨fun h => absurd h (by omega), fun _ i hi => absurd hi (by omega)⟩
  | succ n ih =>
    unfold lowF
    split
    · rename_i h
      refine ⟨fun _ => ?_, fun h => absurd h (by omega)⟩
      rw [Int.toNat_natCast]
      exact h.1
    · rename_i h
      refine ⟨ih.1, fun h2 i hi => ?_⟩
      by_cases e : i = n
      · subst e
        have : ¬ tri T i < 0 := fun h3 => h ⟨h3, Or.inl h2⟩
        omega
      · exact ih.2 h2 i (by omega)
theorem pivF_ok {T : TB} (o : tOK T) {r c : Nat} (hr : r < tR T) (hc : c < tC T) (h1 : tri T r < 0) (h2 : te T r c < 0) (h3 : ∀ k : Nat, k < tC T → te T r k < 0 → trs T c * -(te T r k) ≤ trs T k * -(te T r c)) (hp : tP T < 60) (hn : pivB T r c = true) : tOK (pivF T r c) := by
  unfold pivB at hn
  obtain ⟨n1, n2, n3⟩ := of_decide_eq_true hn
  have d1 := o.2.2.2.2.1
  have e1 := o.2.2.2.2.2.2.2.2.1 r c hr hc
  have s1 := o.2.2.2.2.2.2.2.2.2.2.1 c hc
  have b1 := o.2.2.2.2.2.2.1
  refine ⟨o.1, o.2.1, o.2.2.1, ?_, ?_, ?_, ?_, ?_, ?_, ?_, ?_, ?_, ?_⟩
  · show tP T + 1 ≤ 60
    omega
  · show 1 ≤ -(te T r c)
    omega
  · show -(te T r c) ≤ 1000000000
    omega
  · show 0 ≤ newB T r c
    unfold newB mixF
    have a1 := Int.mul_nonneg (a := -(te T r c)) (b := tB T) (by omega) b1
    have a2 := Int.mul_nonneg (a := trs T c) (b := -(tri T r)) (by omega) (by omega)
    exact ((td_r (x := -(te T r c) * tB T + -(trs T c) * tri T r) (y := tD T) (by omega)).1 (by grind)).1
  · show newB T r c ≤ 1000000000
    exact n3.2
  · intro i k hi hk
    exact (n1 i hi).1 k hk
  · intro i hi
    have := (n1 i hi).2
    show -1000000001 ≤ newI T r c i ∧ newI T r c i ≤ 1000000001
    omega
  · intro k hk
    refine ⟨?_, (n2 k hk).2⟩
    show 0 ≤ newS T r c k
    unfold newS
    split
    · exact s1.1
    · unfold mixF
      have s2 := o.2.2.2.2.2.2.2.2.2.2.1 k hk
      have a1 := Int.mul_nonneg (a := -(te T r c)) (b := trs T k) (by omega) (by omega)
      refine ((td_r (x := -(te T r c) * trs T k + trs T c * te T r k) (y := tD T) (by omega)).1 ?_).1
      by_cases e : te T r k < 0
      · have := h3 k hk e
        grind
      · have := Int.mul_nonneg (a := trs T c) (b := te T r k) (by omega) (by omega)
        omega
  · intro i hi
    show 0 ≤ (if i = r then tos T c else tow T i) ∧ (if i = r then tos T c else tow T i) < 60
    split
    · exact o.2.2.2.2.2.2.2.2.2.2.2.2 c hc
    · exact o.2.2.2.2.2.2.2.2.2.2.2.1 i hi
  · intro k hk
    show 0 ≤ (if k = c then tow T r else tos T k) ∧ (if k = c then tow T r else tos T k) < 60
    split
    · exact o.2.2.2.2.2.2.2.2.2.2.2.1 r hr
    · exact o.2.2.2.2.2.2.2.2.2.2.2.2 k hk
/-- repairing: 3 mended, 0 no mix, -6 stuck -/
def repF : Nat → TB → Int × TB
  | 0, T => (-6, T)
  | f + 1, T => if lowF T (tR T) < 0 then (3, T) else if nearF T (lowF T (tR T)).toNat (tC T) < 0 then (0, T) else if tP T < 60 ∧ pivB T (lowF T (tR T)).toNat (nearF T (lowF T (tR T)).toNat (tC T)).toNat = true then repF f (pivF T (lowF T (tR T)).toNat (nearF T (lowF T (tR T)).toNat (tC T)).toNat) else (-6, T)
theorem repF_p (f : Nat) : ∀ T : TB, tOK T → tOK (repF f T).2 ∧ tR (repF f T).2 = tR T ∧ tC (repF f T).2 = tC T ∧ tP T ≤ tP (repF f T).2 ∧ ((repF f T).1 = 3 → ∀ i : Nat, i < tR T → 0 ≤ tri (repF f T).2 i) ∧ ((repF f T).1 = 3 ∨ (repF f T).1 = 0 ∨ (repF f T).1 = -6) := by
  induction f with
  | zero =>
    intro T o
    exact ⟨o, rfl, rfl, Nat.le_refl _, fun h => absurd (show (-6 : Int) = 3 from h) (by decide), Or.inr (Or.inr rfl)⟩
  | succ f ih =>
    intro T o
    unfold repF
    split
    · exact ⟨o, rfl, rfl, Nat.le_refl _, fun _ => (lowF_p (tR T)).2 ‹_›, Or.inl rfl⟩
    · split
      · exact ⟨o, rfl, rfl, Nat.le_refl _, fun h => absurd (show (0 : Int) = 3 from h) (by decide), Or.inr (Or.inl rfl)⟩
      · split
        · rename_i a1 a2 a3
          have b1 := lowF_b T (tR T)
          have b2 := nearF_b T (lowF T (tR T)).toNat (tC T)
          have b3 := nearF_p (T := T) (r := (lowF T (tR T)).toNat) (tC T) (by omega)
          have q := ih (pivF T (lowF T (tR T)).toNat (nearF T (lowF T (tR T)).toNat (tC T)).toNat) (pivF_ok o (by omega) (by omega) ((lowF_p (tR T)).1 (by omega)) b3.1 b3.2 a3.1 a3.2)
          refine ⟨q.1, q.2.1, q.2.2.1, ?_, q.2.2.2.2.1, q.2.2.2.2.2⟩
          have : tP (pivF T (lowF T (tR T)).toNat (nearF T (lowF T (tR T)).toNat (tC T)).toNat) = tP T + 1 := rfl
          omega
        · exact ⟨o, rfl, rfl, Nat.le_refl _, fun h => absurd (show (-6 : Int) = 3 from h) (by decide), Or.inr (Or.inr rfl)⟩
theorem L45_41 {d : Nat} {L : j_B} : ∀ f t : Nat, t + f = 61 → ∀ (T : TB) (m : j_M0) (o2 o3 : Option j_V), vC 41 T m → tOK T → ∃ m', j_fin (c_call (d + 3)) 45 2 [some (jR 41), some (jI t), o2, o3] [] (hH L m) = some (some (jI (repF f T).1), hH L m') ∧ kpt (fun b _ => 41 ≤ b ∧ b ≤ 49) m m' ∧ vC 41 (repF f T).2 m' := by
  intro f
  induction f with
  | zero =>
    intro t ht T m o2 o3 v o
    rw [T45_2_41, if_pos (by omega)]
    exact ⟨m, rfl, kpt_rfl, v⟩
  | succ f ih =>
    intro t ht T m o2 o3 v o
    have b1 := lowF_b T (tR T)
    have k2 := v.2.2.1
    rw [T45_2_41, if_neg (by omega), Q46_41 v o.1]
    simp only [Option.bind_some, Option.toList_some, List.cons_append, List.nil_append]
    rw [T45_12_41]
    unfold repF
    by_cases e1 : lowF T (tR T) < 0
    · rw [if_pos e1, if_pos e1]
      exact ⟨m, rfl, kpt_rfl, v⟩
    · rw [if_neg e1, if_neg e1]
      obtain ⟨r, hr⟩ : ∃ r : Nat, lowF T (tR T) = r := ⟨_, (Int.toNat_of_nonneg (by omega)).symm⟩
      rw [hr] at b1 ⊢
      rw [Int.toNat_natCast, Q47_41 v o (by omega)]
      simp only [Option.bind_some, Option.toList_some, List.cons_append, List.nil_append]
      rw [T45_24_41]
      by_cases e2 : nearF T r (tC T) < 0
      · rw [if_pos e2, if_pos e2]
        exact ⟨m, rfl, kpt_rfl, v⟩
      · rw [if_neg e2, if_neg e2]
        have b2 := nearF_b T r (tC T)
        have b3 := nearF_p (T := T) (r := r) (tC T) (by omega)
        have b4 := (lowF_p (T := T) (tR T)).1
        obtain ⟨c, hc⟩ : ∃ c : Nat, nearF T r (tC T) = c := ⟨_, (Int.toNat_of_nonneg (by omega)).symm⟩
        rw [hc] at b2 b3 ⊢
        rw [hr] at b4
        simp only [Int.toNat_natCast] at b3 b4 ⊢
        by_cases e3 : tP T < 60
        · rw [if_pos (by omega)]
          obtain ⟨s, m', g1, g2, g3⟩ := Q49_41 (d := d) (L := L) v o (show r < tR T by omega) (show c < tC T by omega)
          rw [g1]
          simp only [Option.bind_some, Option.toList_some, List.cons_append, List.nil_append]
          rw [T45_46_41]
          rcases g3 with ⟨rfl, n1, n2⟩ | ⟨rfl, n1, n2⟩
          · rw [if_neg (by omega), if_pos ⟨e3, n1⟩, nat1 (by omega)]
            obtain ⟨m2, q1, q2, q3⟩ := ih (t + 1) (by omega) (pivF T r c) m' (some (jI r)) (some (jI c)) n2 (pivF_ok o (by omega) (by omega) (b4 (by omega)) b3.1 b3.2 e3 n1)
            exact ⟨m2, q1, kpt_tr g2 q2, q3⟩
          · rw [if_pos rfl, if_neg (fun h => by rw [n1] at h; cases h.2)]
            exact ⟨m', rfl, g2, n2⟩
        · rw [if_neg (by omega), if_neg (fun h => e3 h.1)]
          exact ⟨m, rfl, kpt_rfl, v⟩
theorem Q45_41 {d : Nat} {L : j_B} {T : TB} {m : j_M0} (v : vC 41 T m) (o : tOK T) : ∃ m', c_call (d + 4) 45 [jR 41] (hH L m) = some (some (jI (repF 61 T).1), hH L m') ∧ kpt (fun b _ => 41 ≤ b ∧ b ≤ 49) m m' ∧ vC 41 (repF 61 T).2 m' := by
  rw [E45, T45_0_41]
  exact L45_41 61 0 (by omega) T m none none v o
theorem L45_55 {d : Nat} {L : j_B} : ∀ f t : Nat, t + f = 61 → ∀ (T : TB) (m : j_M0) (o2 o3 : Option j_V), vC 55 T m → tOK T → ∃ m', j_fin (c_call (d + 3)) 45 2 [some (jR 55), some (jI t), o2, o3] [] (hH L m) = some (some (jI (repF f T).1), hH L m') ∧ kpt (fun b _ => 55 ≤ b ∧ b ≤ 63) m m' ∧ vC 55 (repF f T).2 m' := by
  intro f
  induction f with
  | zero =>
    intro t ht T m o2 o3 v o
    rw [T45_2_55, if_pos (by omega)]
    exact ⟨m, rfl, kpt_rfl, v⟩
  | succ f ih =>
    intro t ht T m o2 o3 v o
    have b1 := lowF_b T (tR T)
    have k2 := v.2.2.1
    rw [T45_2_55, if_neg (by omega), Q46_55 v o.1]
    simp only [Option.bind_some, Option.toList_some, List.cons_append, List.nil_append]
    rw [T45_12_55]
    unfold repF
    by_cases e1 : lowF T (tR T) < 0
    · rw [if_pos e1, if_pos e1]
      exact ⟨m, rfl, kpt_rfl, v⟩
    · rw [if_neg e1, if_neg e1]
      obtain ⟨r, hr⟩ : ∃ r : Nat, lowF T (tR T) = r := ⟨_, (Int.toNat_of_nonneg (by omega)).symm⟩
      rw [hr] at b1 ⊢
      rw [Int.toNat_natCast, Q47_55 v o (by omega)]
      simp only [Option.bind_some, Option.toList_some, List.cons_append, List.nil_append]
      rw [T45_24_55]
      by_cases e2 : nearF T r (tC T) < 0
      · rw [if_pos e2, if_pos e2]
        exact ⟨m, rfl, kpt_rfl, v⟩
      · rw [if_neg e2, if_neg e2]
        have b2 := nearF_b T r (tC T)
        have b3 := nearF_p (T := T) (r := r) (tC T) (by omega)
        have b4 := (lowF_p (T := T) (tR T)).1
        obtain ⟨c, hc⟩ : ∃ c : Nat, nearF T r (tC T) = c := ⟨_, (Int.toNat_of_nonneg (by omega)).symm⟩
        rw [hc] at b2 b3 ⊢
        rw [hr] at b4
        simp only [Int.toNat_natCast] at b3 b4 ⊢
        by_cases e3 : tP T < 60
        · rw [if_pos (by omega)]
          obtain ⟨s, m', g1, g2, g3⟩ := Q49_55 (d := d) (L := L) v o (show r < tR T by omega) (show c < tC T by omega)
          rw [g1]
          simp only [Option.bind_some, Option.toList_some, List.cons_append, List.nil_append]
          rw [T45_46_55]
          rcases g3 with ⟨rfl, n1, n2⟩ | ⟨rfl, n1, n2⟩
          · rw [if_neg (by omega), if_pos ⟨e3, n1⟩, nat1 (by omega)]
            obtain ⟨m2, q1, q2, q3⟩ := ih (t + 1) (by omega) (pivF T r c) m' (some (jI r)) (some (jI c)) n2 (pivF_ok o (by omega) (by omega) (b4 (by omega)) b3.1 b3.2 e3 n1)
            exact ⟨m2, q1, kpt_tr g2 q2, q3⟩
          · rw [if_pos rfl, if_neg (fun h => by rw [n1] at h; cases h.2)]
            exact ⟨m', rfl, g2, n2⟩
        · rw [if_neg (by omega), if_neg (fun h => e3 h.1)]
          exact ⟨m, rfl, kpt_rfl, v⟩
theorem Q45_55 {d : Nat} {L : j_B} {T : TB} {m : j_M0} (v : vC 55 T m) (o : tOK T) : ∃ m', c_call (d + 4) 45 [jR 55] (hH L m) = some (some (jI (repF 61 T).1), hH L m') ∧ kpt (fun b _ => 55 ≤ b ∧ b ≤ 63) m m' ∧ vC 55 (repF 61 T).2 m' := by
  rw [E45, T45_0_55]
  exact L45_55 61 0 (by omega) T m none none v o
