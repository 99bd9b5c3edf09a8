/-! The row of a cut. -/
/-- the row of a cut comes: c of its entries told -/
def midC (T : TB) (x : Int) (r c : Nat) : TB := ((tR T + 1, tC T, tP T, tB T, tD T), (fun i => if i = tR T then x else tow T i), tos T, (fun i q => if i = tR T then (if q < c then -(te T r q % tD T) else 0) else te T i q), (fun i => if i = tR T then -(tri T r % tD T) else tri T i), trs T)
theorem midC_0 (T : TB) (x : Int) (r : Nat) : tEq (addR T x (-(tri T r % tD T))) (midC T x r 0) := by
  refine ⟨rfl, rfl, rfl, rfl, rfl, fun _ _ => rfl, fun _ _ => rfl, ?_, fun _ _ => rfl, fun _ _ => rfl⟩
  intro i c _ _
  show (if i = tR T then 0 else te T i c) = (if i = tR T then (if c < 0 then -(te T r c % tD T) else 0) else te T i c)
  rw [if_neg (show ¬ c < 0 by omega)]
theorem midC_ok {T : TB} (o : tOK T) {x : Int} {r c : Nat} (hx : 0 ≤ x ∧ x < 60) (hR : tR T < 20) : tOK (midC T x r c) := by
  have d1 := o.2.2.2.2.1
  have d2 := o.2.2.2.2.2.1
  refine ⟨hR, o.2.1, o.2.2.1, o.2.2.2.1, o.2.2.2.2.1, o.2.2.2.2.2.1, o.2.2.2.2.2.2.1, o.2.2.2.2.2.2.2.1, ?_, ?_, o.2.2.2.2.2.2.2.2.2.2.1, ?_, o.2.2.2.2.2.2.2.2.2.2.2.2⟩
  · intro i q hi hq
    replace hi : i < tR T + 1 := hi
    replace hq : q < tC T := hq
    show -1000000000 ≤ (if i = tR T then (if q < c then -(te T r q % tD T) else 0) else te T i q) ∧ (if i = tR T then (if q < c then -(te T r q % tD T) else 0) else te T i q) ≤ 1000000000
    have a1 := Int.emod_nonneg (te T r q) (b := tD T) (by omega)
    have a2 := Int.emod_lt_of_pos (te T r q) (b := tD T) (by omega)
    split
    · split <;> omega
    · exact o.2.2.2.2.2.2.2.2.1 i q (by omega) hq
  · intro i hi
    replace hi : i < tR T + 1 := hi
    show -1000000001 ≤ (if i = tR T then -(tri T r % tD T) else tri T i) ∧ (if i = tR T then -(tri T r % tD T) else tri T i) ≤ 1000000001
    have a1 := Int.emod_nonneg (tri T r) (b := tD T) (by omega)
    have a2 := Int.emod_lt_of_pos (tri T r) (b := tD T) (by omega)
    split
    · omega
    · exact o.2.2.2.2.2.2.2.2.2.1 i (by omega)
  · intro i hi
    replace hi : i < tR T + 1 := hi
    show 0 ≤ (if i = tR T then x else tow T i) ∧ (if i = tR T then x else tow T i) < 60
    split
    · exact hx
    · exact o.2.2.2.2.2.2.2.2.2.2.2.1 i (by omega)
theorem L42_41 {d : Nat} {L : j_B} {T : TB} (o : tOK T) {x : Int} {r : Nat} (hx : 0 ≤ x ∧ x < 60) (hR : tR T < 20) (hr : r < tR T) : ∀ j c : Nat, c + j = tC T → ∀ m : j_M0, vC 41 (midC T x r c) m → ∃ m', j_fin (c_call (d + 2)) 42 20 [some (jR 41), some (jI x), some (jI r), some (jI (tR T)), some (jI c)] [] (hH L m) = some (none, hH L m') ∧ kpt (fun b _ => 41 ≤ b ∧ b ≤ 49) m m' ∧ vC 41 (midC T x r (tC T)) m' := by
  have o1 := o.2.2.1
  intro j
  induction j with
  | zero =>
    intro c hc m v
    have hcc : c = tC T := by omega
    subst hcc
    have k1 : m 41 1 = tC T := v.2.1
    rw [T42_20_41, if_neg (by omega)]
    exact ⟨m, rfl, kpt_rfl, v⟩
  | succ j ih =>
    intro c hc m v
    have k1 : m 41 1 = tC T := v.2.1
    have k2 : m (41 + 3) (5 * r + c) = (if r = tR T then _ else te T r c) := v.2.2.2.2.2.2.2.1 r c (show r < tR T + 1 by omega) (show c < tC T by omega)
    rw [if_neg (by omega)] at k2
    simp only [Nat.reduceAdd] at k2
    have r1 := o.2.2.2.2.2.2.2.2.1 r c hr (by omega)
    have d1 := o.2.2.2.2.1
    have d2 := o.2.2.2.2.2.1
    have a1 := Int.emod_nonneg (te T r c) (b := tD T) (by omega)
    have a2 := Int.emod_lt_of_pos (te T r c) (b := tD T) (by omega)
    have q := Q43_41 (d := d) (L := L) v (midC_ok o hx hR) (x := te T r c) (by omega) (by omega)
    have q' : c_call (d + 2) 43 [jR 41, jL (te T r c)] (hH L m) = some (some (jL (te T r c % tD T)), hH L m) := q
    rw [T42_20_41, if_pos (by omega)]
    simp (disch := omega) only [w32_id, show ((r : Int) * 5 + (c : Int)).toNat = 5 * r + c by omega, k2]
    rw [if_pos (by omega), q']
    simp only [Option.bind_some, Option.toList_some, List.cons_append, List.nil_append]
    rw [T42_54_41]
    simp (disch := omega) only [w32_id, nat1, w64_id, show ((tR T : Int) * 5 + (c : Int)).toNat = 5 * tR T + c by omega]
    rw [if_pos (by omega)]
    have v' : vC 41 (midC T x r (c + 1)) (j_up m 44 (5 * tR T + c) (-(te T r c % tD T))) := by
      obtain ⟨v1, v2, v3, v4, v5, v6, v7, v8, v9, v10⟩ := v
      unfold vC
      simp (disch := omega) only [Nat.reduceAdd, up_ne]
      refine ⟨v1, v2, v3, v4, v5, v6, v7, ?_, v9, v10⟩
      intro i q hi hq
      replace hi : i < tR T + 1 := hi
      replace hq : q < tC T := hq
      have this : m 44 (5 * i + q) = (if i = tR T then (if q < c then -(te T r q % tD T) else 0) else te T i q) := v8 i q hi hq
      show _ = (if i = tR T then (if q < c + 1 then -(te T r q % tD T) else 0) else te T i q)
      rw [up_at]
      by_cases e : i = tR T
      · rw [if_pos e] at this ⊢
        by_cases e2 : q = c
        · subst e2
          rw [if_pos (by omega), if_pos (by omega)]
        · rw [if_neg (by omega), this]
          by_cases e3 : q < c
          · rw [if_pos e3, if_pos (by omega)]
          · rw [if_neg e3, if_neg (by omega)]
      · rw [if_neg (by omega), this, if_neg e, if_neg e]
    obtain ⟨m', h1, h2, h3⟩ := ih (c + 1) (by omega) _ v'
    exact ⟨m', h1, kpt_tr (kpt_up ⟨by omega, by omega⟩) h2, h3⟩
theorem Q42_41 {d : Nat} {L : j_B} {T : TB} {m : j_M0} (v : vC 41 T m) (o : tOK T) {x : Int} {r : Nat} (hx : 0 ≤ x ∧ x < 60) (hR : tR T < 20) (hr : r < tR T) : ∃ m', c_call (d + 3) 42 [jR 41, jI x, jI r] (hH L m) = some (none, hH L m') ∧ kpt (fun b _ => 41 ≤ b ∧ b ≤ 49) m m' ∧ vC 41 (midC T x r (tC T)) m' := by
  have o1 := o.2.2.1
  have d1 := o.2.2.2.2.1
  have d2 := o.2.2.2.2.2.1
  have r1 := o.2.2.2.2.2.2.2.2.2.1 r hr
  have k2 := v.2.2.2.2.2.2.2.2.1 r hr
  simp only [Nat.reduceAdd] at k2
  have a1 := Int.emod_nonneg (tri T r) (b := tD T) (by omega)
  have a2 := Int.emod_lt_of_pos (tri T r) (b := tD T) (by omega)
  rw [E42, T42_0_41, if_pos (by omega), Int.toNat_natCast, k2, Q43_41 v o (by omega) (by omega)]
  simp only [Option.bind_some, Option.toList_some, List.cons_append, List.nil_append]
  obtain ⟨m1, g1, g2, g3⟩ := Q39_41 (d := d + 1) (L := L) v (x := x) (y := -(tri T r % tD T)) hR o1
  rw [T42_12_41, w64_id (by omega) (by omega), g1]
  simp only [Option.bind_some, Option.toList_some, List.cons_append, List.nil_append]
  rw [T42_16_41]
  obtain ⟨m2, h1, h2, h3⟩ := L42_41 (d := d) (L := L) o hx hR hr (tC T) 0 (by omega) m1 (vC_e g3 (midC_0 T x r))
  exact ⟨m2, h1, kpt_tr g2 h2, h3⟩
theorem L42_55 {d : Nat} {L : j_B} {T : TB} (o : tOK T) {x : Int} {r : Nat} (hx : 0 ≤ x ∧ x < 60) (hR : tR T < 20) (hr : r < tR T) : ∀ j c : Nat, c + j = tC T → ∀ m : j_M0, vC 55 (midC T x r c) m → ∃ m', j_fin (c_call (d + 2)) 42 20 [some (jR 55), some (jI x), some (jI r), some (jI (tR T)), some (jI c)] [] (hH L m) = some (none, hH L m') ∧ kpt (fun b _ => 55 ≤ b ∧ b ≤ 63) m m' ∧ vC 55 (midC T x r (tC T)) m' := by
  have o1 := o.2.2.1
  intro j
  induction j with
  | zero =>
    intro c hc m v
    have hcc : c = tC T := by omega
    subst hcc
    have k1 : m 55 1 = tC T := v.2.1
    rw [T42_20_55, if_neg (by omega)]
    exact ⟨m, rfl, kpt_rfl, v⟩
  | succ j ih =>
    intro c hc m v
    have k1 : m 55 1 = tC T := v.2.1
    have k2 : m (55 + 3) (5 * r + c) = (if r = tR T then _ else te T r c) := v.2.2.2.2.2.2.2.1 r c (show r < tR T + 1 by omega) (show c < tC T by omega)
    rw [if_neg (by omega)] at k2
    simp only [Nat.reduceAdd] at k2
    have r1 := o.2.2.2.2.2.2.2.2.1 r c hr (by omega)
    have d1 := o.2.2.2.2.1
    have d2 := o.2.2.2.2.2.1
    have a1 := Int.emod_nonneg (te T r c) (b := tD T) (by omega)
    have a2 := Int.emod_lt_of_pos (te T r c) (b := tD T) (by omega)
    have q := Q43_55 (d := d) (L := L) v (midC_ok o hx hR) (x := te T r c) (by omega) (by omega)
    have q' : c_call (d + 2) 43 [jR 55, jL (te T r c)] (hH L m) = some (some (jL (te T r c % tD T)), hH L m) := q
    rw [T42_20_55, if_pos (by omega)]
    simp (disch := omega) only [w32_id, show ((r : Int) * 5 + (c : Int)).toNat = 5 * r + c by omega, k2]
    rw [if_pos (by omega), q']
    simp only [Option.bind_some, Option.toList_some, List.cons_append, List.nil_append]
    rw [T42_54_55]
    simp (disch := omega) only [w32_id, nat1, w64_id, show ((tR T : Int) * 5 + (c : Int)).toNat = 5 * tR T + c by omega]
    rw [if_pos (by omega)]
    have v' : vC 55 (midC T x r (c + 1)) (j_up m 58 (5 * tR T + c) (-(te T r c % tD T))) := by
      obtain ⟨v1, v2, v3, v4, v5, v6, v7, v8, v9, v10⟩ := v
      unfold vC
      simp (disch := omega) only [Nat.reduceAdd, up_ne]
      refine ⟨v1, v2, v3, v4, v5, v6, v7, ?_, v9, v10⟩
      intro i q hi hq
      replace hi : i < tR T + 1 := hi
      replace hq : q < tC T := hq
      have this : m 58 (5 * i + q) = (if i = tR T then (if q < c then -(te T r q % tD T) else 0) else te T i q) := v8 i q hi hq
      show _ = (if i = tR T then (if q < c + 1 then -(te T r q % tD T) else 0) else te T i q)
      rw [up_at]
      by_cases e : i = tR T
      · rw [if_pos e] at this ⊢
        by_cases e2 : q = c
        · subst e2
          rw [if_pos (by omega), if_pos (by omega)]
        · rw [if_neg (by omega), this]
          by_cases e3 : q < c
          · rw [if_pos e3, if_pos (by omega)]
          · rw [if_neg e3, if_neg (by omega)]
      · rw [if_neg (by omega), this, if_neg e, if_neg e]
    obtain ⟨m', h1, h2, h3⟩ := ih (c + 1) (by omega) _ v'
    exact ⟨m', h1, kpt_tr (kpt_up ⟨by omega, by omega⟩) h2, h3⟩
theorem Q42_55 {d : Nat} {L : j_B} {T : TB} {m : j_M0} (v : vC 55 T m) (o : tOK T) {x : Int} {r : Nat} (hx : 0 ≤ x ∧ x < 60) (hR : tR T < 20) (hr : r < tR T) : ∃ m', c_call (d + 3) 42 [jR 55, jI x, jI r] (hH L m) = some (none, hH L m') ∧ kpt (fun b _ => 55 ≤ b ∧ b ≤ 63) m m' ∧ vC 55 (midC T x r (tC T)) m' := by
  have o1 := o.2.2.1
  have d1 := o.2.2.2.2.1
  have d2 := o.2.2.2.2.2.1
  have r1 := o.2.2.2.2.2.2.2.2.2.1 r hr
  have k2 := v.2.2.2.2.2.2.2.2.1 r hr
  simp only [Nat.reduceAdd] at k2
  have a1 := Int.emod_nonneg (tri T r) (b := tD T) (by omega)
  have a2 := Int.emod_lt_of_pos (tri T r) (b := tD T) (by omega)
  rw [E42, T42_0_55, if_pos (by omega), Int.toNat_natCast, k2, Q43_55 v o (by omega) (by omega)]
  simp only [Option.bind_some, Option.toList_some, List.cons_append, List.nil_append]
  obtain ⟨m1, g1, g2, g3⟩ := Q39_55 (d := d + 1) (L := L) v (x := x) (y := -(tri T r % tD T)) hR o1
  rw [T42_12_55, w64_id (by omega) (by omega), g1]
  simp only [Option.bind_some, Option.toList_some, List.cons_append, List.nil_append]
  rw [T42_16_55]
  obtain ⟨m2, h1, h2, h3⟩ := L42_55 (d := d) (L := L) o hx hR hr (tC T) 0 (by omega) m1 (vC_e g3 (midC_0 T x r))
  exact ⟨m2, h1, kpt_tr g2 h2, h3⟩
