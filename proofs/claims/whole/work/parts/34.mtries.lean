/-! The model tries a pivot: a row. -/
/-- a flag of a condition -/
def fl (s : Int) (p : Prop) : Prop := (s = 1 ∧ p) ∨ (s = 0 ∧ ¬ p)
theorem fl_and {s : Int} {p q : Prop} [Decidable q] (h : fl s p) : fl (j_and s (bI q)) (p ∧ q) := by
  have e00 : j_and 0 0 = 0 := by decide
  have e01 : j_and 0 1 = 0 := by decide
  have e10 : j_and 1 0 = 0 := by decide
  have e11 : j_and 1 1 = 1 := by decide
  unfold fl bI at *
  rcases h with ⟨rfl, h⟩ | ⟨rfl, h⟩
  · by_cases e : q
    · left; rw [if_pos e]; exact ⟨e11, h, e⟩
    · right; rw [if_neg e]; exact ⟨e10, fun k => e k.2⟩
  · by_cases e : q
    · right; rw [if_pos e]; exact ⟨e01, fun k => h k.1⟩
    · right; rw [if_neg e]; exact ⟨e00, fun k => h k.1⟩
theorem fl_w {s : Int} {p q : Prop} (h : fl s p) (w : p ↔ q) : fl s q := by
  unfold fl at *
  rw [← w]; exact h
theorem cpy_0 {m : j_M0} {a b : Nat} : j_cpy m a 0 b 0 0 = m := by
  funext c j
  unfold j_cpy
  split
  · rw [if_neg (by omega)]
  · rfl
theorem cpy_s {m : j_M0} {a b k : Nat} (h : a ≠ b) : j_up (j_cpy m a 0 b 0 k) b k ((j_cpy m a 0 b 0 k) a k) = j_cpy m a 0 b 0 (k + 1) := by
  funext c j
  rw [cpy_ne h]
  by_cases e : c = b
  · subst e
    rw [up_at, cpy_at, cpy_at]
    by_cases e2 : j = k
    · subst e2
      rw [if_pos rfl, if_pos (by omega)]
    · rw [if_neg e2]
      by_cases e3 : j < k
      · rw [if_pos e3, if_pos (by omega)]
      · rw [if_neg e3, if_neg (by omega)]
  · rw [up_ne e, cpy_ne e, cpy_ne e]
theorem vM_k {a : Nat} {T : TB} {m m' : j_M0} (v : vM a T m) (k : ∀ b s, a ≤ b → b ≤ a + 3 ∨ b = a + 7 ∨ b = a + 8 → m' b s = m b s) : vM a T m' := by
  unfold vM at v ⊢
  rw [k a 15 (by omega) (by omega), k a 14 (by omega) (by omega), k a 17 (by omega) (by omega), k a 12 (by omega) (by omega), k a 13 (by omega) (by omega)]
  refine ⟨v.1, v.2.1, v.2.2.1, v.2.2.2.1, v.2.2.2.2.1, ?_, ?_, ?_, ?_, ?_⟩
  · intro i h; rw [k _ _ (by omega) (by omega)]; exact v.2.2.2.2.2.1 i h
  · intro i h; rw [k _ _ (by omega) (by omega)]; exact v.2.2.2.2.2.2.1 i h
  · intro i c h h'; rw [k _ _ (by omega) (by omega)]; exact v.2.2.2.2.2.2.2.1 i c h h'
  · intro i h; rw [k _ _ (by omega) (by omega)]; exact v.2.2.2.2.2.2.2.2.1 i h
  · intro i h; rw [k _ _ (by omega) (by omega)]; exact v.2.2.2.2.2.2.2.2.2 i h
theorem ZM_115 {d L : Nat} {m : j_M0} {T : TB} (v : vM 115 T m) (o : tOK T) {r c i k : Nat} (hr : r < tR T) (hc : c < tC T) (hi : i < tR T) (hk : k < tC T) {f : Int} {o11 : Option j_V} : j_fin (c_call (d + 1)) 180 48 [some (jR 109), some (jR 115), some (jI r), some (jI c), some (jL (-(te T r c))), none, some (jI f), some (jI i), some (jL (te T i c)), none, some (jI k), o11, none] [] (hH L m) = j_fin (c_call (d + 1)) 180 48 [some (jR 109), some (jR 115), some (jI r), some (jI c), some (jL (-(te T r c))), none, some (jI (j_and f (bI (nr (newE T r c i k))))), some (jI i), some (jL (te T i c)), none, some (jI (k + 1 : Nat)), some (jL (newE T r c i k)), none] [] (hH L (j_up m 119 (5 * i + k) (newE T r c i k))) := by
  have o1 := o.1
  have o2 := o.2.2.1
  have o3 := o.2.2.2.2.1
  have o4 := o.2.2.2.2.2.1
  have k1 := v.2.2.2.2.2.2.2.1 i k hi hk
  have k2 := v.2.2.2.2.1
  have k3 := v.2.1
  have k4 := v.2.2.2.2.2.2.2.1 r k hr hk
  have r1 := o.2.2.2.2.2.2.2.2.1 i k hi hk
  have r2 := o.2.2.2.2.2.2.2.2.1 i c hi hc
  have r3 := o.2.2.2.2.2.2.2.2.1 r k hr hk
  have r4 := o.2.2.2.2.2.2.2.2.1 r c hr hc
  simp only [Nat.reduceAdd] at k1 k4
  have w : ∀ x m, c_call (d + 1) 179 [jL x] (hH L m) = some (some (jI (bI (nr x))), hH L m) := fun x m => Q179
  rw [T180_48_109_115, if_pos (by omega)]
  simp (disch := omega) only [w32_id, show (5 * (i : Int) + (k : Int)).toNat = 5 * i + k by omega, show (5 * (r : Int) + (k : Int)).toNat = 5 * r + k by omega, k1, k2, k4, w64_id, w]
  by_cases e1 : i = r
  · rw [if_pos (by omega)]
    subst e1
    by_cases e2 : k = c
    · rw [if_pos (by omega), if_pos (by omega)]
      subst e2
      simp only [Option.bind_some, Option.toList_some, List.cons_append, List.nil_append, T180_162_109_115, nat1 (show k < 1000000 by omega)]
      unfold newE
      simp only [if_true]
    · rw [if_neg (by omega), if_pos (by omega), if_pos (by omega)]
      simp only [Option.bind_some, Option.toList_some, List.cons_append, List.nil_append, T180_162_109_115, nat1 (show k < 1000000 by omega)]
      unfold newE
      simp only [if_true, if_neg e2]
  · rw [if_neg (by omega)]
    by_cases e2 : k = c
    · rw [if_pos (by omega), if_pos (by omega)]
      subst e2
      simp only [Option.bind_some, Option.toList_some, List.cons_append, List.nil_append, T180_162_109_115, nat1 (show k < 1000000 by omega)]
      unfold newE
      simp only [if_true, if_neg e1]
    · have q := mix_r o hr hc (x := te T i k) (y := te T i c) (z := te T r k) (by omega) (by omega) (by omega) (by omega) (by omega) (by omega)
      rw [if_neg (by omega), if_pos (by omega), if_pos (by omega), if_neg (by omega), if_pos (by omega)]
      rw [w64_id (x := -(te T r c) * te T i k) (by omega) (by omega), w64_id (x := te T i c * te T r k) (by omega) (by omega), w64_id (x := -(te T r c) * te T i k + te T i c * te T r k) (by omega) (by omega)]
      unfold mixF at q
      rw [w64_id (x := (-(te T r c) * te T i k + te T i c * te T r k).tdiv (tD T)) (by omega) (by omega)]
      simp only [Option.bind_some, Option.toList_some, List.cons_append, List.nil_append, T180_162_109_115, nat1 (show k < 1000000 by omega)]
      unfold newE mixF
      simp only [if_neg e1, if_neg e2]
theorem L48_115 {d L : Nat} {T : TB} (o : tOK T) {r c i : Nat} (hr : r < tR T) (hc : c < tC T) (hi : i < tR T) {p : Prop} : ∀ j k : Nat, k + j = tC T → ∀ (m : j_M0) (f : Int) (o11 : Option j_V), vM 115 T m → fl f (p ∧ ∀ q : Nat, q < k → nr (newE T r c i q)) → (∀ q : Nat, q < k → m 119 (5 * i + q) = newE T r c i q) → ∃ f' m' o10' o11', j_fin (c_call (d + 1)) 180 48 [some (jR 109), some (jR 115), some (jI r), some (jI c), some (jL (-(te T r c))), none, some (jI f), some (jI i), some (jL (te T i c)), none, some (jI k), o11, none] [] (hH L m) = j_fin (c_call (d + 1)) 180 23 [some (jR 109), some (jR 115), some (jI r), some (jI c), some (jL (-(te T r c))), none, some (jI f'), some (jI (i + 1 : Nat)), some (jL (te T i c)), none, o10', o11', none] [] (hH L m') ∧ kpt (fun b x => b = 119 ∧ 5 * i ≤ x ∧ x < 5 * i + 5 ∨ b = 120 ∧ x = i) m m' ∧ fl f' (p ∧ rowN T r c i) ∧ (∀ q : Nat, q < tC T → m' 119 (5 * i + q) = newE T r c i q) ∧ m' 120 i = newI T r c i := by
  have o1 := o.1
  have o2 := o.2.2.1
  have o3 := o.2.2.2.2.1
  have o4 := o.2.2.2.2.2.1
  intro j
  induction j with
  | zero =>
    intro k hk m f o11 v hf hw
    have hkk : k = tC T := by omega
    subst hkk
    have k3 := v.2.1
    have k2 := v.2.2.2.2.1
    have k5 := v.2.2.2.2.2.2.2.2.1 i hi
    have k6 := v.2.2.2.2.2.2.2.2.1 r hr
    have r2 := o.2.2.2.2.2.2.2.2.1 i c hi hc
    have r4 := o.2.2.2.2.2.2.2.2.1 r c hr hc
    have r5 := o.2.2.2.2.2.2.2.2.2.1 i hi
    have r6 := o.2.2.2.2.2.2.2.2.2.1 r hr
    simp only [Nat.reduceAdd] at k5 k6
    have w : ∀ x m, c_call (d + 1) 179 [jL x] (hH L m) = some (some (jI (bI (nr x))), hH L m) := fun x m => Q179
    have e0 : j_fin (c_call (d + 1)) 180 48 [some (jR 109), some (jR 115), some (jI r), some (jI c), some (jL (-(te T r c))), none, some (jI f), some (jI i), some (jL (te T i c)), none, some (jI (tC T)), o11, none] [] (hH L m) = j_fin (c_call (d + 1)) 180 23 [some (jR 109), some (jR 115), some (jI r), some (jI c), some (jL (-(te T r c))), none, some (jI (j_and f (bI (nr (newI T r c i))))), some (jI (i + 1 : Nat)), some (jL (te T i c)), none, some (jI (tC T)), o11, none] [] (hH L (j_up m 120 i (newI T r c i))) := by
      rw [T180_48_109_115, if_neg (by omega)]
      by_cases e1 : i = r
      · rw [if_pos (by omega), if_pos (by omega), if_pos (by omega), if_pos (by omega)]
        simp (disch := omega) only [Int.toNat_natCast, up_eq, k5, w64_id, w, Option.bind_some, Option.toList_some, List.cons_append, List.nil_append, T180_232_109_115, nat1]
        unfold newI
        rw [if_pos e1]
        subst e1
        rfl
      · have q := mix_r o hr hc (x := tri T i) (y := te T i c) (z := tri T r) (by omega) (by omega) (by omega) (by omega) (by omega) (by omega)
        rw [if_neg (by omega), if_pos (by omega), if_pos (by omega), if_neg (by omega), if_pos (by omega), if_pos (by omega)]
        unfold mixF at q
        simp (disch := omega) only [Int.toNat_natCast, up_eq, k5, k6, k2, w64_id, w, Option.bind_some, Option.toList_some, List.cons_append, List.nil_append, T180_232_109_115, nat1]
        unfold newI mixF
        rw [if_neg e1]
    rw [e0]
    refine ⟨_, _, _, _, rfl, kpt_up (Or.inr ⟨rfl, rfl⟩), ?_, ?_, up_eq rfl⟩
    · exact fl_w (fl_and hf) ⟨fun h => ⟨h.1.1, h.1.2, h.2⟩, fun h => ⟨⟨h.1, h.2.1⟩, h.2.2⟩⟩
    · intro q hq
      rw [up_ne (by omega)]
      exact hw q hq
  | succ j ih =>
    intro k hk m f o11 v hf hw
    rw [ZM_115 v o hr hc hi (by omega)]
    obtain ⟨f', m', o10', o11', g1, g2, g3, g4, g5⟩ := ih (k + 1) (by omega) (j_up m 119 (5 * i + k) (newE T r c i k)) (j_and f (bI (nr (newE T r c i k)))) (some (jL (newE T r c i k))) (vM_k v (fun b s h h' => up_ne (by omega))) (by
      refine fl_w (fl_and hf) ⟨fun h => ⟨h.1.1, fun q hq => ?_⟩, fun h => ⟨⟨h.1, fun q hq => h.2 q (by omega)⟩, h.2 k (by omega)⟩⟩
      by_cases e : q = k
      · subst e; exact h.2
      · exact h.1.2 q (by omega)) (by
      intro q hq
      by_cases e' : q = k
      · subst e'
        exact up_eq rfl
      · rw [up_nj (by omega)]
        exact hw q (by omega))
    exact ⟨f', m', o10', o11', g1, kpt_tr (kpt_up (Or.inl ⟨rfl, by omega, by omega⟩)) g2, g3, g4, g5⟩
theorem ZM_128 {d L : Nat} {m : j_M0} {T : TB} (v : vM 128 T m) (o : tOK T) {r c i k : Nat} (hr : r < tR T) (hc : c < tC T) (hi : i < tR T) (hk : k < tC T) {f : Int} {o11 : Option j_V} : j_fin (c_call (d + 1)) 180 48 [some (jR 109), some (jR 128), some (jI r), some (jI c), some (jL (-(te T r c))), none, some (jI f), some (jI i), some (jL (te T i c)), none, some (jI k), o11, none] [] (hH L m) = j_fin (c_call (d + 1)) 180 48 [some (jR 109), some (jR 128), some (jI r), some (jI c), some (jL (-(te T r c))), none, some (jI (j_and f (bI (nr (newE T r c i k))))), some (jI i), some (jL (te T i c)), none, some (jI (k + 1 : Nat)), some (jL (newE T r c i k)), none] [] (hH L (j_up m 132 (5 * i + k) (newE T r c i k))) := by
  have o1 := o.1
  have o2 := o.2.2.1
  have o3 := o.2.2.2.2.1
  have o4 := o.2.2.2.2.2.1
  have k1 := v.2.2.2.2.2.2.2.1 i k hi hk
  have k2 := v.2.2.2.2.1
  have k3 := v.2.1
  have k4 := v.2.2.2.2.2.2.2.1 r k hr hk
  have r1 := o.2.2.2.2.2.2.2.2.1 i k hi hk
  have r2 := o.2.2.2.2.2.2.2.2.1 i c hi hc
  have r3 := o.2.2.2.2.2.2.2.2.1 r k hr hk
  have r4 := o.2.2.2.2.2.2.2.2.1 r c hr hc
  simp only [Nat.reduceAdd] at k1 k4
  have w : ∀ x m, c_call (d + 1) 179 [jL x] (hH L m) = some (some (jI (bI (nr x))), hH L m) := fun x m => Q179
  rw [T180_48_109_128, if_pos (by omega)]
  simp (disch := omega) only [w32_id, show (5 * (i : Int) + (k : Int)).toNat = 5 * i + k by omega, show (5 * (r : Int) + (k : Int)).toNat = 5 * r + k by omega, k1, k2, k4, w64_id, w]
  by_cases e1 : i = r
  · rw [if_pos (by omega)]
    subst e1
    by_cases e2 : k = c
    · rw [if_pos (by omega), if_pos (by omega)]
      subst e2
      simp only [Option.bind_some, Option.toList_some, List.cons_append, List.nil_append, T180_162_109_128, nat1 (show k < 1000000 by omega)]
      unfold newE
      simp only [if_true]
    · rw [if_neg (by omega), if_pos (by omega), if_pos (by omega)]
      simp only [Option.bind_some, Option.toList_some, List.cons_append, List.nil_append, T180_162_109_128, nat1 (show k < 1000000 by omega)]
      unfold newE
      simp only [if_true, if_neg e2]
  · rw [if_neg (by omega)]
    by_cases e2 : k = c
    · rw [if_pos (by omega), if_pos (by omega)]
      subst e2
      simp only [Option.bind_some, Option.toList_some, List.cons_append, List.nil_append, T180_162_109_128, nat1 (show k < 1000000 by omega)]
      unfold newE
      simp only [if_true, if_neg e1]
    · have q := mix_r o hr hc (x := te T i k) (y := te T i c) (z := te T r k) (by omega) (by omega) (by omega) (by omega) (by omega) (by omega)
      rw [if_neg (by omega), if_pos (by omega), if_pos (by omega), if_neg (by omega), if_pos (by omega)]
      rw [w64_id (x := -(te T r c) * te T i k) (by omega) (by omega), w64_id (x := te T i c * te T r k) (by omega) (by omega), w64_id (x := -(te T r c) * te T i k + te T i c * te T r k) (by omega) (by omega)]
      unfold mixF at q
      rw [w64_id (x := (-(te T r c) * te T i k + te T i c * te T r k).tdiv (tD T)) (by omega) (by omega)]
      simp only [Option.bind_some, Option.toList_some, List.cons_append, List.nil_append, T180_162_109_128, nat1 (show k < 1000000 by omega)]
      unfold newE mixF
      simp only [if_neg e1, if_neg e2]
theorem L48_128 {d L : Nat} {T : TB} (o : tOK T) {r c i : Nat} (hr : r < tR T) (hc : c < tC T) (hi : i < tR T) {p : Prop} : ∀ j k : Nat, k + j = tC T → ∀ (m : j_M0) (f : Int) (o11 : Option j_V), vM 128 T m → fl f (p ∧ ∀ q : Nat, q < k → nr (newE T r c i q)) → (∀ q : Nat, q < k → m 132 (5 * i + q) = newE T r c i q) → ∃ f' m' o10' o11', j_fin (c_call (d + 1)) 180 48 [some (jR 109), some (jR 128), some (jI r), some (jI c), some (jL (-(te T r c))), none, some (jI f), some (jI i), some (jL (te T i c)), none, some (jI k), o11, none] [] (hH L m) = j_fin (c_call (d + 1)) 180 23 [some (jR 109), some (jR 128), some (jI r), some (jI c), some (jL (-(te T r c))), none, some (jI f'), some (jI (i + 1 : Nat)), some (jL (te T i c)), none, o10', o11', none] [] (hH L m') ∧ kpt (fun b x => b = 132 ∧ 5 * i ≤ x ∧ x < 5 * i + 5 ∨ b = 133 ∧ x = i) m m' ∧ fl f' (p ∧ rowN T r c i) ∧ (∀ q : Nat, q < tC T → m' 132 (5 * i + q) = newE T r c i q) ∧ m' 133 i = newI T r c i := by
  have o1 := o.1
  have o2 := o.2.2.1
  have o3 := o.2.2.2.2.1
  have o4 := o.2.2.2.2.2.1
  intro j
  induction j with
  | zero =>
    intro k hk m f o11 v hf hw
    have hkk : k = tC T := by omega
    subst hkk
    have k3 := v.2.1
    have k2 := v.2.2.2.2.1
    have k5 := v.2.2.2.2.2.2.2.2.1 i hi
    have k6 := v.2.2.2.2.2.2.2.2.1 r hr
    have r2 := o.2.2.2.2.2.2.2.2.1 i c hi hc
    have r4 := o.2.2.2.2.2.2.2.2.1 r c hr hc
    have r5 := o.2.2.2.2.2.2.2.2.2.1 i hi
    have r6 := o.2.2.2.2.2.2.2.2.2.1 r hr
    simp only [Nat.reduceAdd] at k5 k6
    have w : ∀ x m, c_call (d + 1) 179 [jL x] (hH L m) = some (some (jI (bI (nr x))), hH L m) := fun x m => Q179
    have e0 : j_fin (c_call (d + 1)) 180 48 [some (jR 109), some (jR 128), some (jI r), some (jI c), some (jL (-(te T r c))), none, some (jI f), some (jI i), some (jL (te T i c)), none, some (jI (tC T)), o11, none] [] (hH L m) = j_fin (c_call (d + 1)) 180 23 [some (jR 109), some (jR 128), some (jI r), some (jI c), some (jL (-(te T r c))), none, some (jI (j_and f (bI (nr (newI T r c i))))), some (jI (i + 1 : Nat)), some (jL (te T i c)), none, some (jI (tC T)), o11, none] [] (hH L (j_up m 133 i (newI T r c i))) := by
      rw [T180_48_109_128, if_neg (by omega)]
      by_cases e1 : i = r
      · rw [if_pos (by omega), if_pos (by omega), if_pos (by omega), if_pos (by omega)]
        simp (disch := omega) only [Int.toNat_natCast, up_eq, k5, w64_id, w, Option.bind_some, Option.toList_some, List.cons_append, List.nil_append, T180_232_109_128, nat1]
        unfold newI
        rw [if_pos e1]
        subst e1
        rfl
      · have q := mix_r o hr hc (x := tri T i) (y := te T i c) (z := tri T r) (by omega) (by omega) (by omega) (by omega) (by omega) (by omega)
        rw [if_neg (by omega), if_pos (by omega), if_pos (by omega), if_neg (by omega), if_pos (by omega), if_pos (by omega)]
        unfold mixF at q
        simp (disch := omega) only [Int.toNat_natCast, up_eq, k5, k6, k2, w64_id, w, Option.bind_some, Option.toList_some, List.cons_append, List.nil_append, T180_232_109_128, nat1]
        unfold newI mixF
        rw [if_neg e1]
    rw [e0]
    refine ⟨_, _, _, _, rfl, kpt_up (Or.inr ⟨rfl, rfl⟩), ?_, ?_, up_eq rfl⟩
    · exact fl_w (fl_and hf) ⟨fun h => ⟨h.1.1, h.1.2, h.2⟩, fun h => ⟨⟨h.1, h.2.1⟩, h.2.2⟩⟩
    · intro q hq
      rw [up_ne (by omega)]
      exact hw q hq
  | succ j ih =>
    intro k hk m f o11 v hf hw
    rw [ZM_128 v o hr hc hi (by omega)]
    obtain ⟨f', m', o10', o11', g1, g2, g3, g4, g5⟩ := ih (k + 1) (by omega) (j_up m 132 (5 * i + k) (newE T r c i k)) (j_and f (bI (nr (newE T r c i k)))) (some (jL (newE T r c i k))) (vM_k v (fun b s h h' => up_ne (by omega))) (by
      refine fl_w (fl_and hf) ⟨fun h => ⟨h.1.1, fun q hq => ?_⟩, fun h => ⟨⟨h.1, fun q hq => h.2 q (by omega)⟩, h.2 k (by omega)⟩⟩
      by_cases e : q = k
      · subst e; exact h.2
      · exact h.1.2 q (by omega)) (by
      intro q hq
      by_cases e' : q = k
      · subst e'
        exact up_eq rfl
      · rw [up_nj (by omega)]
        exact hw q (by omega))
    exact ⟨f', m', o10', o11', g1, kpt_tr (kpt_up (Or.inl ⟨rfl, by omega, by omega⟩)) g2, g3, g4, g5⟩
