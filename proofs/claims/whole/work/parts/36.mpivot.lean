/-! The model's pivot. -/
theorem tm_0 {x y : Int} (hy : 0 < y) : (x.tmod y = 0) = (x % y = 0) := by
  have e4 := Int.mul_tdiv_add_tmod x y
  have e5 := Int.mul_ediv_add_emod x y
  apply propext
  constructor
  · intro h
    have e3 := fd_1 (x := x) hy (by grind)
    grind
  · intro h
    have : y ∣ x := ⟨x / y, by grind⟩
    have e6 := td_eq (x := x) hy
    rw [if_pos (Or.inr this)] at e6
    grind
def repM (s : Int) : Int := if s = 3 then 1 else s
theorem C181_58_115 {C : Nat → List j_V → j_H → Option j_Z} {L : Nat} {m : j_M0} {T : TB} {r c : Nat} (o1 : tR T ≤ 20) (o2 : tC T ≤ 5) (h : m 115 15 = tR T) : ∀ j k : Nat, k + j = 5 * tR T → j_fin C 181 58 [some (jR 109), some (jR 115), some (jI r), some (jI c), some (jL (-(te T r c))), none, some (jI k)] [] (hH L (j_cpy m 119 0 116 0 k)) = j_fin C 181 58 [some (jR 109), some (jR 115), some (jI r), some (jI c), some (jL (-(te T r c))), none, some (jI (5 * tR T : Nat))] [] (hH L (j_cpy m 119 0 116 0 (5 * tR T))) := by
  intro j
  induction j with
  | zero =>
    intro k hk
    rw [show k = 5 * tR T by omega]
  | succ j ih =>
    intro k hk
    rw [T181_58_109_115]
    have e : (j_cpy m 119 0 116 0 k) 115 15 = tR T := (cpy_ne (by omega)).trans h
    rw [e]
    simp (disch := omega) only [w32_id, nat1]
    rw [if_pos (by omega), if_pos (by omega), if_pos (by omega), Int.toNat_natCast, cpy_s (by omega)]
    exact ih (k + 1) (by omega)
theorem C181_92_115 {C : Nat → List j_V → j_H → Option j_Z} {L : Nat} {m : j_M0} {T : TB} {r c : Nat} (o1 : tR T ≤ 20) (o2 : tC T ≤ 5) (h : m 115 15 = tR T) : ∀ j k : Nat, k + j = tR T → j_fin C 181 92 [some (jR 109), some (jR 115), some (jI r), some (jI c), some (jL (-(te T r c))), none, some (jI k)] [] (hH L (j_cpy m 120 0 117 0 k)) = j_fin C 181 92 [some (jR 109), some (jR 115), some (jI r), some (jI c), some (jL (-(te T r c))), none, some (jI (tR T : Nat))] [] (hH L (j_cpy m 120 0 117 0 (tR T))) := by
  intro j
  induction j with
  | zero =>
    intro k hk
    rw [show k = tR T by omega]
  | succ j ih =>
    intro k hk
    rw [T181_92_109_115]
    have e : (j_cpy m 120 0 117 0 k) 115 15 = tR T := (cpy_ne (by omega)).trans h
    rw [e]
    simp (disch := omega) only [w32_id, nat1]
    rw [if_pos (by omega), if_pos (by omega), if_pos (by omega), Int.toNat_natCast, cpy_s (by omega)]
    exact ih (k + 1) (by omega)
theorem C181_124_115 {C : Nat → List j_V → j_H → Option j_Z} {L : Nat} {m : j_M0} {T : TB} {r c : Nat} (o1 : tR T ≤ 20) (o2 : tC T ≤ 5) (h : m 115 14 = tC T) : ∀ j k : Nat, k + j = tC T → j_fin C 181 124 [some (jR 109), some (jR 115), some (jI r), some (jI c), some (jL (-(te T r c))), none, some (jI k)] [] (hH L (j_cpy m 121 0 118 0 k)) = j_fin C 181 124 [some (jR 109), some (jR 115), some (jI r), some (jI c), some (jL (-(te T r c))), none, some (jI (tC T : Nat))] [] (hH L (j_cpy m 121 0 118 0 (tC T))) := by
  intro j
  induction j with
  | zero =>
    intro k hk
    rw [show k = tC T by omega]
  | succ j ih =>
    intro k hk
    rw [T181_124_109_115]
    have e : (j_cpy m 121 0 118 0 k) 115 14 = tC T := (cpy_ne (by omega)).trans h
    rw [e]
    simp (disch := omega) only [w32_id, nat1]
    rw [if_pos (by omega), if_pos (by omega), if_pos (by omega), Int.toNat_natCast, cpy_s (by omega)]
    exact ih (k + 1) (by omega)
theorem Q181_115 {d L : Nat} {T : TB} {m : j_M0} (v : vM 115 T m) (o : tOK T) {r c : Nat} (hr : r < tR T) (hc : c < tC T) : ∃ s m', c_call (d + 3) 181 [jR 109, jR 115, jI r, jI c] (hH L m) = some (some (jI s), hH L m') ∧ kpt (fun b z => 115 ≤ b ∧ b ≤ 123 ∧ (b = 115 → z = 12 ∨ z = 13 ∨ z = 17)) m m' ∧ ((s = 1 ∧ pivB T r c = true ∧ vM 115 (pivF T r c) m') ∨ (s = 0 ∧ pivB T r c = false ∧ vM 115 T m')) := by
  have o1 := o.1
  have o2 := o.2.2.1
  have o3 := o.2.2.2.1
  have o4 := o.2.2.2.2.1
  obtain ⟨f, m1, g1, g2, g3, g4, g5⟩ := Q180_115 (d := d) (L := L) v o hr hc
  have w : kpt (fun b z => 115 ≤ b ∧ b ≤ 123 ∧ (b = 115 → z = 12 ∨ z = 13 ∨ z = 17)) m m1 := kpt_w g2 (fun b s h => by omega)
  replace v := vM_k (m' := m1) v (fun b s h h' => by
      rcases g2 b s with e | e
      · omega
      · exact e)
  rw [E181, T181_0_109_115, g1]
  simp only [Option.bind_some, Option.toList_some, List.cons_append, List.nil_append]
  rw [T181_7_109_115]
  rcases g3 with ⟨rfl, n1⟩ | ⟨rfl, n1⟩
  · have k0 := v.1
    have k1 := v.2.1
    have k2 := v.2.2.1
    have k8 := v.2.2.2.1
    have k9 := v.2.2.2.2.1
    have k3 := v.2.2.2.2.2.2.2.1 r c hr hc
    have k4 := v.2.2.2.2.2.1 r hr
    have k5 := v.2.2.2.2.2.2.1 c hc
    have k6 := v.2.2.2.2.2.2.2.2.2 c hc
    have k7 := v.2.2.2.2.2.2.2.2.1 r hr
    have r3 := o.2.2.2.2.2.2.2.2.1 r c hr hc
    have r5 := o.2.2.2.2.2.2.2.2.2.1 r hr
    have r6 := o.2.2.2.2.2.2.2.2.2.2.1 c hc
    have r7 := o.2.2.2.2.2.2.1
    have r8 := o.2.2.2.2.2.2.2.1
    simp only [Nat.reduceAdd] at k3 k4 k5 k6 k7
    have q := mix_r o hr hc (x := tB T) (y := -(trs T c)) (z := tri T r) (by omega) (by omega) (by omega) (by omega) (by omega) (by omega)
    have q2 : -(trs T c) * tri T r = -(trs T c * tri T r) := Int.neg_mul _ _
    unfold mixF at q
    rw [q2] at q
    rw [if_neg (by omega)]
    simp (disch := omega) only [w32_id, show (5 * (r : Int) + (c : Int)).toNat = 5 * r + c by omega, k3, w64_id]
    rw [if_pos (by omega), if_pos (by omega), if_pos (by omega), Int.toNat_natCast, Int.toNat_natCast, k6, k7, k8, k9, if_neg (by omega), w64_id (x := -(te T r c) * tB T) (by omega) (by omega), w64_id (x := trs T c * tri T r) (by omega) (by omega), show -(te T r c) * tB T - trs T c * tri T r = -(te T r c) * tB T + -(trs T c * tri T r) by omega, w64_id (x := -(te T r c) * tB T + -(trs T c * tri T r)) (by omega) (by omega), w64_id (x := Int.tdiv _ _) (by omega) (by omega), ← q2]
    have q3 : (-(te T r c) * tB T + -(trs T c) * tri T r).tdiv (tD T) = newB T r c := rfl
    rw [q3]
    generalize hmm : j_up m1 115 12 (newB T r c) = m2
    have z : ∀ b x, b ≠ 115 → m2 b x = m1 b x := fun b x h => by rw [← hmm]; exact up_ne h
    have z1 : ∀ x, x ≠ 12 → m2 115 x = m1 115 x := fun x h => by rw [← hmm]; exact up_nj h
    have z2 : m2 115 12 = newB T r c := by rw [← hmm]; exact up_eq rfl
    have y1 : m2 115 15 = tR T := (z1 15 (by omega)).trans k0
    have y2 : m2 115 14 = tC T := (z1 14 (by omega)).trans k1
    have y3 : m2 115 17 = tP T := (z1 17 (by omega)).trans k2
    have c1 := C181_58_115 (C := c_call (d + 2)) (L := L) (m := m2) (r := r) (c := c) o1 o2 y1 (5 * tR T) 0 (by omega)
    rw [cpy_0] at c1
    rw [show (some (jI 0) : Option j_V) = some (jI ((0 : Nat) : Int)) from rfl, c1, T181_58_109_115]
    generalize hm3 : j_cpy m2 119 0 116 0 (5 * tR T) = m3
    have x1 : ∀ b x, b ≠ 116 → m3 b x = m2 b x := fun b x h => by rw [← hm3]; exact cpy_ne h
    have x2 : ∀ x, x < 5 * tR T → m3 116 x = m2 119 x := fun x h => by rw [← hm3, cpy_at, if_pos h]
    have y4 : m3 115 15 = tR T := (x1 115 15 (by omega)).trans y1
    have y5 : m3 115 14 = tC T := (x1 115 14 (by omega)).trans y2
    rw [y4]
    simp (disch := omega) only [w32_id]
    rw [if_neg (by omega)]
    have c2 := C181_92_115 (C := c_call (d + 2)) (L := L) (m := m3) (r := r) (c := c) o1 o2 y4 (tR T) 0 (by omega)
    rw [cpy_0] at c2
    rw [show (some (jI 0) : Option j_V) = some (jI ((0 : Nat) : Int)) from rfl, c2, T181_92_109_115]
    generalize hm4 : j_cpy m3 120 0 117 0 (tR T) = m4
    have x3 : ∀ b x, b ≠ 117 → m4 b x = m3 b x := fun b x h => by rw [← hm4]; exact cpy_ne h
    have x4 : ∀ x, x < tR T → m4 117 x = m3 120 x := fun x h => by rw [← hm4, cpy_at, if_pos h]
    have y6 : m4 115 15 = tR T := (x3 115 15 (by omega)).trans y4
    have y7 : m4 115 14 = tC T := (x3 115 14 (by omega)).trans y5
    rw [y6, if_neg (by omega)]
    have c3 := C181_124_115 (C := c_call (d + 2)) (L := L) (m := m4) (r := r) (c := c) o1 o2 y7 (tC T) 0 (by omega)
    rw [cpy_0] at c3
    rw [show (some (jI 0) : Option j_V) = some (jI ((0 : Nat) : Int)) from rfl, c3, T181_124_109_115]
    generalize hm5 : j_cpy m4 121 0 118 0 (tC T) = m5
    have x5 : ∀ b x, b ≠ 118 → m5 b x = m4 b x := fun b x h => by rw [← hm5]; exact cpy_ne h
    have x6 : ∀ x, x < tC T → m5 118 x = m4 121 x := fun x h => by rw [← hm5, cpy_at, if_pos h]
    have y8 : m5 115 15 = tR T := (x5 115 15 (by omega)).trans y6
    have y9 : m5 115 14 = tC T := (x5 115 14 (by omega)).trans y7
    have all : ∀ b x, b ≠ 115 → b ≠ 116 → b ≠ 117 → b ≠ 118 → m5 b x = m1 b x := fun b x h1 h2 h3 h4 => by rw [x5 b x h4, x3 b x h3, x1 b x h2, z b x h1]
    have p12 : m5 115 12 = newB T r c := by rw [x5 _ _ (by omega), x3 _ _ (by omega), x1 _ _ (by omega), z2]
    have p17 : m5 115 17 = tP T := by rw [x5 _ _ (by omega), x3 _ _ (by omega), x1 _ _ (by omega), y3]
    rw [y9, if_neg (by omega), if_pos (by omega), if_pos (by omega), if_pos (by omega), if_pos (by omega)]
    simp (disch := omega) only [Int.toNat_natCast, up_ne, up_nj, p17, w32_id]
    refine ⟨_, _, rfl, kpt_tr w ?_, Or.inl ⟨rfl, n1, ?_⟩⟩
    · intro b x
      by_cases hb : 115 ≤ b ∧ b ≤ 123 ∧ (b = 115 → x = 12 ∨ x = 13 ∨ x = 17)
      · exact Or.inl hb
      · right
        by_cases hb2 : b = 115
        · subst hb2
          rw [up_nj (by omega), up_ne (by omega), up_ne (by omega), up_nj (by omega), x5 _ _ (by omega), x3 _ _ (by omega), x1 _ _ (by omega), z1 _ (by omega)]
        · simp (disch := omega) only [up_ne, all]
    · unfold vM
      simp (disch := omega) only [Nat.reduceAdd, up_ne, up_nj, up_eq, up_at, y8, y9, p12, all]
      refine ⟨rfl, rfl, ?_, rfl, rfl, ?_, ?_, ?_, ?_, ?_⟩
      · show (tP T : Int) + 1 = ((tP T + 1 : Nat) : Int)
        omega
      · intro i hi
        show _ = (if i = r then tos T c else tow T i)
        have := v.2.2.2.2.2.1 i hi
        simp only [Nat.reduceAdd] at this
        rw [this, k5]
      · intro i hi
        show _ = (if i = c then tow T r else tos T i)
        have := v.2.2.2.2.2.2.1 i hi
        simp only [Nat.reduceAdd] at this
        rw [this, k4]
      · intro i q hi hq
        replace hi : i < tR T := hi
        replace hq : q < tC T := hq
        rw [x5 _ _ (by omega), x3 _ _ (by omega), x2 _ (by omega), z _ _ (by omega)]
        exact (g4 i hi).1 q hq
      · intro i hi
        replace hi : i < tR T := hi
        rw [x5 _ _ (by omega), x4 _ hi, x1 _ _ (by omega), z _ _ (by omega)]
        exact (g4 i hi).2
      · intro q hq
        replace hq : q < tC T := hq
        rw [x6 _ hq, x3 _ _ (by omega), x1 _ _ (by omega), z _ _ (by omega)]
        exact g5 q hq
  · rw [if_pos rfl]
    refine ⟨0, m1, rfl, w, Or.inr ⟨rfl, by simpa using n1, v⟩⟩
theorem C181_58_128 {C : Nat → List j_V → j_H → Option j_Z} {L : Nat} {m : j_M0} {T : TB} {r c : Nat} (o1 : tR T ≤ 20) (o2 : tC T ≤ 5) (h : m 128 15 = tR T) : ∀ j k : Nat, k + j = 5 * tR T → j_fin C 181 58 [some (jR 109), some (jR 128), some (jI r), some (jI c), some (jL (-(te T r c))), none, some (jI k)] [] (hH L (j_cpy m 132 0 129 0 k)) = j_fin C 181 58 [some (jR 109), some (jR 128), some (jI r), some (jI c), some (jL (-(te T r c))), none, some (jI (5 * tR T : Nat))] [] (hH L (j_cpy m 132 0 129 0 (5 * tR T))) := by
  intro j
  induction j with
  | zero =>
    intro k hk
    rw [show k = 5 * tR T by omega]
  | succ j ih =>
    intro k hk
    rw [T181_58_109_128]
    have e : (j_cpy m 132 0 129 0 k) 128 15 = tR T := (cpy_ne (by omega)).trans h
    rw [e]
    simp (disch := omega) only [w32_id, nat1]
    rw [if_pos (by omega), if_pos (by omega), if_pos (by omega), Int.toNat_natCast, cpy_s (by omega)]
    exact ih (k + 1) (by omega)
theorem C181_92_128 {C : Nat → List j_V → j_H → Option j_Z} {L : Nat} {m : j_M0} {T : TB} {r c : Nat} (o1 : tR T ≤ 20) (o2 : tC T ≤ 5) (h : m 128 15 = tR T) : ∀ j k : Nat, k + j = tR T → j_fin C 181 92 [some (jR 109), some (jR 128), some (jI r), some (jI c), some (jL (-(te T r c))), none, some (jI k)] [] (hH L (j_cpy m 133 0 130 0 k)) = j_fin C 181 92 [some (jR 109), some (jR 128), some (jI r), some (jI c), some (jL (-(te T r c))), none, some (jI (tR T : Nat))] [] (hH L (j_cpy m 133 0 130 0 (tR T))) := by
  intro j
  induction j with
  | zero =>
    intro k hk
    rw [show k = tR T by omega]
  | succ j ih =>
    intro k hk
    rw [T181_92_109_128]
    have e : (j_cpy m 133 0 130 0 k) 128 15 = tR T := (cpy_ne (by omega)).trans h
    rw [e]
    simp (disch := omega) only [w32_id, nat1]
    rw [if_pos (by omega), if_pos (by omega), if_pos (by omega), Int.toNat_natCast, cpy_s (by omega)]
    exact ih (k + 1) (by omega)
theorem C181_124_128 {C : Nat → List j_V → j_H → Option j_Z} {L : Nat} {m : j_M0} {T : TB} {r c : Nat} (o1 : tR T ≤ 20) (o2 : tC T ≤ 5) (h : m 128 14 = tC T) : ∀ j k : Nat, k + j = tC T → j_fin C 181 124 [some (jR 109), some (jR 128), some (jI r), some (jI c), some (jL (-(te T r c))), none, some (jI k)] [] (hH L (j_cpy m 134 0 131 0 k)) = j_fin C 181 124 [some (jR 109), some (jR 128), some (jI r), some (jI c), some (jL (-(te T r c))), none, some (jI (tC T : Nat))] [] (hH L (j_cpy m 134 0 131 0 (tC T))) := by
  intro j
  induction j with
  | zero =>
    intro k hk
    rw [show k = tC T by omega]
  | succ j ih =>
    intro k hk
    rw [T181_124_109_128]
    have e : (j_cpy m 134 0 131 0 k) 128 14 = tC T := (cpy_ne (by omega)).trans h
    rw [e]
    simp (disch := omega) only [w32_id, nat1]
    rw [if_pos (by omega), if_pos (by omega), if_pos (by omega), Int.toNat_natCast, cpy_s (by omega)]
    exact ih (k + 1) (by omega)
theorem Q181_128 {d L : Nat} {T : TB} {m : j_M0} (v : vM 128 T m) (o : tOK T) {r c : Nat} (hr : r < tR T) (hc : c < tC T) : ∃ s m', c_call (d + 3) 181 [jR 109, jR 128, jI r, jI c] (hH L m) = some (some (jI s), hH L m') ∧ kpt (fun b z => 128 ≤ b ∧ b ≤ 136 ∧ (b = 128 → z = 12 ∨ z = 13 ∨ z = 17)) m m' ∧ ((s = 1 ∧ pivB T r c = true ∧ vM 128 (pivF T r c) m') ∨ (s = 0 ∧ pivB T r c = false ∧ vM 128 T m')) := by
  have o1 := o.1
  have o2 := o.2.2.1
  have o3 := o.2.2.2.1
  have o4 := o.2.2.2.2.1
  obtain ⟨f, m1, g1, g2, g3, g4, g5⟩ := Q180_128 (d := d) (L := L) v o hr hc
  have w : kpt (fun b z => 128 ≤ b ∧ b ≤ 136 ∧ (b = 128 → z = 12 ∨ z = 13 ∨ z = 17)) m m1 := kpt_w g2 (fun b s h => by omega)
  replace v := vM_k (m' := m1) v (fun b s h h' => by
      rcases g2 b s with e | e
      · omega
      · exact e)
  rw [E181, T181_0_109_128, g1]
  simp only [Option.bind_some, Option.toList_some, List.cons_append, List.nil_append]
  rw [T181_7_109_128]
  rcases g3 with ⟨rfl, n1⟩ | ⟨rfl, n1⟩
  · have k0 := v.1
    have k1 := v.2.1
    have k2 := v.2.2.1
    have k8 := v.2.2.2.1
    have k9 := v.2.2.2.2.1
    have k3 := v.2.2.2.2.2.2.2.1 r c hr hc
    have k4 := v.2.2.2.2.2.1 r hr
    have k5 := v.2.2.2.2.2.2.1 c hc
    have k6 := v.2.2.2.2.2.2.2.2.2 c hc
    have k7 := v.2.2.2.2.2.2.2.2.1 r hr
    have r3 := o.2.2.2.2.2.2.2.2.1 r c hr hc
    have r5 := o.2.2.2.2.2.2.2.2.2.1 r hr
    have r6 := o.2.2.2.2.2.2.2.2.2.2.1 c hc
    have r7 := o.2.2.2.2.2.2.1
    have r8 := o.2.2.2.2.2.2.2.1
    simp only [Nat.reduceAdd] at k3 k4 k5 k6 k7
    have q := mix_r o hr hc (x := tB T) (y := -(trs T c)) (z := tri T r) (by omega) (by omega) (by omega) (by omega) (by omega) (by omega)
    have q2 : -(trs T c) * tri T r = -(trs T c * tri T r) := Int.neg_mul _ _
    unfold mixF at q
    rw [q2] at q
    rw [if_neg (by omega)]
    simp (disch := omega) only [w32_id, show (5 * (r : Int) + (c : Int)).toNat = 5 * r + c by omega, k3, w64_id]
    rw [if_pos (by omega), if_pos (by omega), if_pos (by omega), Int.toNat_natCast, Int.toNat_natCast, k6, k7, k8, k9, if_neg (by omega), w64_id (x := -(te T r c) * tB T) (by omega) (by omega), w64_id (x := trs T c * tri T r) (by omega) (by omega), show -(te T r c) * tB T - trs T c * tri T r = -(te T r c) * tB T + -(trs T c * tri T r) by omega, w64_id (x := -(te T r c) * tB T + -(trs T c * tri T r)) (by omega) (by omega), w64_id (x := Int.tdiv _ _) (by omega) (by omega), ← q2]
    have q3 : (-(te T r c) * tB T + -(trs T c) * tri T r).tdiv (tD T) = newB T r c := rfl
    rw [q3]
    generalize hmm : j_up m1 128 12 (newB T r c) = m2
    have z : ∀ b x, b ≠ 128 → m2 b x = m1 b x := fun b x h => by rw [← hmm]; exact up_ne h
    have z1 : ∀ x, x ≠ 12 → m2 128 x = m1 128 x := fun x h => by rw [← hmm]; exact up_nj h
    have z2 : m2 128 12 = newB T r c := by rw [← hmm]; exact up_eq rfl
    have y1 : m2 128 15 = tR T := (z1 15 (by omega)).trans k0
    have y2 : m2 128 14 = tC T := (z1 14 (by omega)).trans k1
    have y3 : m2 128 17 = tP T := (z1 17 (by omega)).trans k2
    have c1 := C181_58_128 (C := c_call (d + 2)) (L := L) (m := m2) (r := r) (c := c) o1 o2 y1 (5 * tR T) 0 (by omega)
    rw [cpy_0] at c1
    rw [show (some (jI 0) : Option j_V) = some (jI ((0 : Nat) : Int)) from rfl, c1, T181_58_109_128]
    generalize hm3 : j_cpy m2 132 0 129 0 (5 * tR T) = m3
    have x1 : ∀ b x, b ≠ 129 → m3 b x = m2 b x := fun b x h => by rw [← hm3]; exact cpy_ne h
    have x2 : ∀ x, x < 5 * tR T → m3 129 x = m2 132 x := fun x h => by rw [← hm3, cpy_at, if_pos h]
    have y4 : m3 128 15 = tR T := (x1 128 15 (by omega)).trans y1
    have y5 : m3 128 14 = tC T := (x1 128 14 (by omega)).trans y2
    rw [y4]
    simp (disch := omega) only [w32_id]
    rw [if_neg (by omega)]
    have c2 := C181_92_128 (C := c_call (d + 2)) (L := L) (m := m3) (r := r) (c := c) o1 o2 y4 (tR T) 0 (by omega)
    rw [cpy_0] at c2
    rw [show (some (jI 0) : Option j_V) = some (jI ((0 : Nat) : Int)) from rfl, c2, T181_92_109_128]
    generalize hm4 : j_cpy m3 133 0 130 0 (tR T) = m4
    have x3 : ∀ b x, b ≠ 130 → m4 b x = m3 b x := fun b x h => by rw [← hm4]; exact cpy_ne h
    have x4 : ∀ x, x < tR T → m4 130 x = m3 133 x := fun x h => by rw [← hm4, cpy_at, if_pos h]
    have y6 : m4 128 15 = tR T := (x3 128 15 (by omega)).trans y4
    have y7 : m4 128 14 = tC T := (x3 128 14 (by omega)).trans y5
    rw [y6, if_neg (by omega)]
    have c3 := C181_124_128 (C := c_call (d + 2)) (L := L) (m := m4) (r := r) (c := c) o1 o2 y7 (tC T) 0 (by omega)
    rw [cpy_0] at c3
    rw [show (some (jI 0) : Option j_V) = some (jI ((0 : Nat) : Int)) from rfl, c3, T181_124_109_128]
    generalize hm5 : j_cpy m4 134 0 131 0 (tC T) = m5
    have x5 : ∀ b x, b ≠ 131 → m5 b x = m4 b x := fun b x h => by rw [← hm5]; exact cpy_ne h
    have x6 : ∀ x, x < tC T → m5 131 x = m4 134 x := fun x h => by rw [← hm5, cpy_at, if_pos h]
    have y8 : m5 128 15 = tR T := (x5 128 15 (by omega)).trans y6
    have y9 : m5 128 14 = tC T := (x5 128 14 (by omega)).trans y7
    have all : ∀ b x, b ≠ 128 → b ≠ 129 → b ≠ 130 → b ≠ 131 → m5 b x = m1 b x := fun b x h1 h2 h3 h4 => by rw [x5 b x h4, x3 b x h3, x1 b x h2, z b x h1]
    have p12 : m5 128 12 = newB T r c := by rw [x5 _ _ (by omega), x3 _ _ (by omega), x1 _ _ (by omega), z2]
    have p17 : m5 128 17 = tP T := by rw [x5 _ _ (by omega), x3 _ _ (by omega), x1 _ _ (by omega), y3]
    rw [y9, if_neg (by omega), if_pos (by omega), if_pos (by omega), if_pos (by omega), if_pos (by omega)]
    simp (disch := omega) only [Int.toNat_natCast, up_ne, up_nj, p17, w32_id]
    refine ⟨_, _, rfl, kpt_tr w ?_, Or.inl ⟨rfl, n1, ?_⟩⟩
    · intro b x
      by_cases hb : 128 ≤ b ∧ b ≤ 136 ∧ (b = 128 → x = 12 ∨ x = 13 ∨ x = 17)
      · exact Or.inl hb
      · right
        by_cases hb2 : b = 128
        · subst hb2
          rw [up_nj (by omega), up_ne (by omega), up_ne (by omega), up_nj (by omega), x5 _ _ (by omega), x3 _ _ (by omega), x1 _ _ (by omega), z1 _ (by omega)]
        · simp (disch := omega) only [up_ne, all]
    · unfold vM
      simp (disch := omega) only [Nat.reduceAdd, up_ne, up_nj, up_eq, up_at, y8, y9, p12, all]
      refine ⟨rfl, rfl, ?_, rfl, rfl, ?_, ?_, ?_, ?_, ?_⟩
      · show (tP T : Int) + 1 = ((tP T + 1 : Nat) : Int)
        omega
      · intro i hi
        show _ = (if i = r then tos T c else tow T i)
        have := v.2.2.2.2.2.1 i hi
        simp only [Nat.reduceAdd] at this
        rw [this, k5]
      · intro i hi
        show _ = (if i = c then tow T r else tos T i)
        have := v.2.2.2.2.2.2.1 i hi
        simp only [Nat.reduceAdd] at this
        rw [this, k4]
      · intro i q hi hq
        replace hi : i < tR T := hi
        replace hq : q < tC T := hq
        rw [x5 _ _ (by omega), x3 _ _ (by omega), x2 _ (by omega), z _ _ (by omega)]
        exact (g4 i hi).1 q hq
      · intro i hi
        replace hi : i < tR T := hi
        rw [x5 _ _ (by omega), x4 _ hi, x1 _ _ (by omega), z _ _ (by omega)]
        exact (g4 i hi).2
      · intro q hq
        replace hq : q < tC T := hq
        rw [x6 _ hq, x3 _ _ (by omega), x1 _ _ (by omega), z _ _ (by omega)]
        exact g5 q hq
  · rw [if_pos rfl]
    refine ⟨0, m1, rfl, w, Or.inr ⟨rfl, by simpa using n1, v⟩⟩
