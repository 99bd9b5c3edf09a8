/-! What a pivot makes. -/
/-- m' is m but for what W names -/
def kpt (W : Nat → Nat → Prop) (m m' : j_M0) : Prop := ∀ b s : Nat, W b s ∨ m' b s = m b s
theorem kpt_rfl {W : Nat → Nat → Prop} {m : j_M0} : kpt W m m := fun _ _ => Or.inr rfl
theorem kpt_tr {W : Nat → Nat → Prop} {m m' m'' : j_M0} (h : kpt W m m') (h' : kpt W m' m'') : kpt W m m'' := by
  intro b s
  rcases h' b s with e | e
  · exact Or.inl e
  · rcases h b s with e' | e'
    · exact Or.inl e'
    · exact Or.inr (e.trans e')
theorem kpt_w {W W' : Nat → Nat → Prop} {m m' : j_M0} (h : kpt W m m') (w : ∀ b s, W b s → W' b s) : kpt W' m m' := by
  intro b s
  rcases h b s with e | e
  · exact Or.inl (w _ _ e)
  · exact Or.inr e
theorem kpt_up {W : Nat → Nat → Prop} {m : j_M0} {a i : Nat} {x : Int} (w : W a i) : kpt W m (j_up m a i x) := by
  intro b s
  by_cases e : b = a
  · by_cases e' : s = i
    · subst e; subst e'; exact Or.inl w
    · subst e; exact Or.inr (up_nj e')
  · exact Or.inr (up_ne e)
theorem vC_k {a : Nat} {T : TB} {m m' : j_M0} (v : vC a T m) (k : ∀ b s, a ≤ b → b ≤ a + 5 → m' b s = m b s) : vC a T m' := by
  unfold vC at v ⊢
  rw [k a 0 (by omega) (by omega), k a 1 (by omega) (by omega), k a 2 (by omega) (by omega), k a 3 (by omega) (by omega), k a 4 (by omega) (by omega)]
  refine ⟨v.1, v.2.1, v.2.2.1, v.2.2.2.1, v.2.2.2.2.1, ?_, ?_, ?_, ?_, ?_⟩
  · intro i h; rw [k _ _ (by omega) (by omega)]; exact v.2.2.2.2.2.1 i h
  · intro i h; rw [k _ _ (by omega) (by omega)]; exact v.2.2.2.2.2.2.1 i h
  · intro i c h h'; rw [k _ _ (by omega) (by omega)]; exact v.2.2.2.2.2.2.2.1 i c h h'
  · intro i h; rw [k _ _ (by omega) (by omega)]; exact v.2.2.2.2.2.2.2.2.1 i h
  · intro i h; rw [k _ _ (by omega) (by omega)]; exact v.2.2.2.2.2.2.2.2.2 i h
def mixF (T : TB) (r c : Nat) (told fac bes : Int) : Int := (-(te T r c) * told + fac * bes).tdiv (tD T)
def newE (T : TB) (r c i k : Nat) : Int := if i = r then (if k = c then -(tD T) else -(te T r k)) else if k = c then te T i c else mixF T r c (te T i k) (te T i c) (te T r k)
def newI (T : TB) (r c i : Nat) : Int := if i = r then -(tri T r) else mixF T r c (tri T i) (te T i c) (tri T r)
def newS (T : TB) (r c k : Nat) : Int := if k = c then trs T c else mixF T r c (trs T k) (trs T c) (te T r k)
def newB (T : TB) (r c : Nat) : Int := mixF T r c (tB T) (-(trs T c)) (tri T r)
abbrev nr (x : Int) : Prop := -1000000000 ≤ x ∧ x ≤ 1000000000
theorem mix_r {T : TB} (o : tOK T) {r c : Nat} (hr : r < tR T) (hc : c < tC T) {x y z : Int} (h1 : -1000000001 ≤ x) (h2 : x ≤ 1000000001) (h3 : -1000000001 ≤ y) (h4 : y ≤ 1000000001) (h5 : -1000000001 ≤ z) (h6 : z ≤ 1000000001) : (-1000000001000000000 ≤ -(te T r c) * x ∧ -(te T r c) * x ≤ 1000000001000000000) ∧ (-1000000002000000001 ≤ y * z ∧ y * z ≤ 1000000002000000001) ∧ -2000000003000000001 ≤ mixF T r c x y z ∧ mixF T r c x y z ≤ 2000000003000000001 := by
  have r3 := o.2.2.2.2.2.2.2.2.1 r c hr hc
  have p1 := mul_r (x := -(te T r c)) (y := x) (a := 1000000000) (b := 1000000001) (by omega) (by omega) (by omega) (by omega)
  have p2 := mul_r (x := y) (y := z) (a := 1000000001) (b := 1000000001) (by omega) (by omega) (by omega) (by omega)
  have p3 := td_r (x := -(te T r c) * x + y * z) (y := tD T) (by have := o.2.2.2.2.1; omega)
  unfold mixF
  omega
theorem Q51_41 {d : Nat} {L : j_B} {m : j_M0} {T : TB} (v : vC 41 T m) (o : tOK T) {r c : Nat} (hr : r < tR T) (hc : c < tC T) {x y z : Int} (h1 : -1000000001 ≤ x) (h2 : x ≤ 1000000001) (h3 : -1000000001 ≤ y) (h4 : y ≤ 1000000001) (h5 : -1000000001 ≤ z) (h6 : z ≤ 1000000001) : c_call (d + 1) 51 [jR 41, jL x, jL y, jL z, jI r, jI c] (hH L m) = some (some (jL (mixF T r c x y z)), hH L m) := by
  have o1 := o.1
  have o2 := o.2.2.1
  have o3 := o.2.2.2.2.1
  have k1 := v.2.2.2.2.2.2.2.1 r c hr hc
  have k2 := v.2.2.2.2.1
  have r3 := o.2.2.2.2.2.2.2.2.1 r c hr hc
  have q := mix_r o hr hc h1 h2 h3 h4 h5 h6
  simp only [Nat.reduceAdd] at k1
  rw [E51, T51_0_41]
  simp (disch := omega) only [w32_id, cmp_gt, show ((r : Int) * 5 + (c : Int)).toNat = 5 * r + c by omega, k1, k2]
  rw [if_pos (by omega), if_pos (by omega), if_neg (by omega), w64_id (x := -(te T r c)) (by omega) (by omega), w64_id (x := -(te T r c) * x) (by omega) (by omega), w64_id (x := y * z) (by omega) (by omega), w64_id (x := -(te T r c) * x + y * z) (by omega) (by omega)]
  unfold mixF at q ⊢
  rw [w64_id (by omega) (by omega)]
theorem Z50_41 {d : Nat} {L : j_B} {m : j_M0} {T : TB} (v : vC 41 T m) (o : tOK T) {r c i k : Nat} (hr : r < tR T) (hc : c < tC T) (hi : i < tR T) (hk : k < tC T) {o7 o9 : Option j_V} : j_fin (c_call (d + 1)) 50 15 [some (jR 41), some (jI i), some (jI r), some (jI c), some (jL (te T i c)), none, some (jI k), o7, none, o9, none] [] (hH L m) = if nr (newE T r c i k) then j_fin (c_call (d + 1)) 50 15 [some (jR 41), some (jI i), some (jI r), some (jI c), some (jL (te T i c)), none, some (jI (k + 1 : Nat)), some (jL (te T i k)), none, some (jL (newE T r c i k)), none] [] (hH L (j_up m 47 (5 * i + k) (newE T r c i k))) else some (some (jI 0), hH L m) := by
  have o1 := o.1
  have o2 := o.2.2.1
  have o3 := o.2.2.2.2.1
  have o4 := o.2.2.2.2.2.1
  have k1 := v.2.2.2.2.2.2.2.1 i k hi hk
  have k2 := v.2.2.2.2.1
  have k3 := v.2.1
  have k4 := v.2.2.2.2.2.2.2.1 r k hr hk
  have r1 := o.2.2.2.2.2.2.2.2.1 i k hi hk
  have r2 := o.2.2.2.2.2.2.2.2.1 i c hi hc
  have r3 := o.2.2.2.2.2.2.2.2.1 r k hr hk
  simp only [Nat.reduceAdd] at k1 k4
  have w : ∀ x : Int, c_call (d + 1) 144 [jL x] (hH L m) = some (some (jI (bI (nr x))), hH L m) := fun x => Q144
  rw [T50_15_41, if_pos (by omega)]
  simp (disch := omega) only [w32_id, show ((i : Int) * 5 + (k : Int)).toNat = 5 * i + k by omega, show ((r : Int) * 5 + (k : Int)).toNat = 5 * r + k by omega, k1, k2, k4, w64_id]
  rw [if_pos (by omega)]
  by_cases e1 : i = r
  · rw [if_pos (by omega)]
    subst e1
    by_cases e2 : k = c
    · rw [if_pos (by omega), w]
      subst e2
      simp only [Option.bind_some, Option.toList_some, List.cons_append, List.nil_append, T50_105_41, bI_0]
      simp (disch := omega) only [w32_id, nat1, show ((i : Int) * 5 + (k : Int)).toNat = 5 * i + k by omega]
      unfold newE
      simp only [if_true]
      grind
    · rw [if_neg (by omega), w]
      simp only [Option.bind_some, Option.toList_some, List.cons_append, List.nil_append, T50_105_41, bI_0]
      simp (disch := omega) only [w32_id, nat1, show ((i : Int) * 5 + (k : Int)).toNat = 5 * i + k by omega]
      unfold newE
      simp only [if_true, if_neg e2]
      grind
  · rw [if_neg (by omega)]
    by_cases e2 : k = c
    · rw [if_pos (by omega), w]
      subst e2
      simp only [Option.bind_some, Option.toList_some, List.cons_append, List.nil_append, T50_105_41, bI_0]
      simp (disch := omega) only [w32_id, nat1, show ((i : Int) * 5 + (k : Int)).toNat = 5 * i + k by omega]
      unfold newE
      simp only [if_true, if_neg e1]
      grind
    · rw [if_neg (by omega), if_pos (by omega), Q51_41 v o hr hc (by omega) (by omega) (by omega) (by omega) (by omega) (by omega)]
      simp only [Option.bind_some, Option.toList_some, List.cons_append, List.nil_append, T50_98_41, w, T50_105_41, bI_0]
      simp (disch := omega) only [w32_id, nat1, show ((i : Int) * 5 + (k : Int)).toNat = 5 * i + k by omega]
      unfold newE
      simp only [if_neg e1, if_neg e2]
      grind
theorem Q51_55 {d : Nat} {L : j_B} {m : j_M0} {T : TB} (v : vC 55 T m) (o : tOK T) {r c : Nat} (hr : r < tR T) (hc : c < tC T) {x y z : Int} (h1 : -1000000001 ≤ x) (h2 : x ≤ 1000000001) (h3 : -1000000001 ≤ y) (h4 : y ≤ 1000000001) (h5 : -1000000001 ≤ z) (h6 : z ≤ 1000000001) : c_call (d + 1) 51 [jR 55, jL x, jL y, jL z, jI r, jI c] (hH L m) = some (some (jL (mixF T r c x y z)), hH L m) := by
  have o1 := o.1
  have o2 := o.2.2.1
  have o3 := o.2.2.2.2.1
  have k1 := v.2.2.2.2.2.2.2.1 r c hr hc
  have k2 := v.2.2.2.2.1
  have r3 := o.2.2.2.2.2.2.2.2.1 r c hr hc
  have q := mix_r o hr hc h1 h2 h3 h4 h5 h6
  simp only [Nat.reduceAdd] at k1
  rw [E51, T51_0_55]
  simp (disch := omega) only [w32_id, cmp_gt, show ((r : Int) * 5 + (c : Int)).toNat = 5 * r + c by omega, k1, k2]
  rw [if_pos (by omega), if_pos (by omega), if_neg (by omega), w64_id (x := -(te T r c)) (by omega) (by omega), w64_id (x := -(te T r c) * x) (by omega) (by omega), w64_id (x := y * z) (by omega) (by omega), w64_id (x := -(te T r c) * x + y * z) (by omega) (by omega)]
  unfold mixF at q ⊢
  rw [w64_id (by omega) (by omega)]
theorem Z50_55 {d : Nat} {L : j_B} {m : j_M0} {T : TB} (v : vC 55 T m) (o : tOK T) {r c i k : Nat} (hr : r < tR T) (hc : c < tC T) (hi : i < tR T) (hk : k < tC T) {o7 o9 : Option j_V} : j_fin (c_call (d + 1)) 50 15 [some (jR 55), some (jI i), some (jI r), some (jI c), some (jL (te T i c)), none, some (jI k), o7, none, o9, none] [] (hH L m) = if nr (newE T r c i k) then j_fin (c_call (d + 1)) 50 15 [some (jR 55), some (jI i), some (jI r), some (jI c), some (jL (te T i c)), none, some (jI (k + 1 : Nat)), some (jL (te T i k)), none, some (jL (newE T r c i k)), none] [] (hH L (j_up m 61 (5 * i + k) (newE T r c i k))) else some (some (jI 0), hH L m) := by
  have o1 := o.1
  have o2 := o.2.2.1
  have o3 := o.2.2.2.2.1
  have o4 := o.2.2.2.2.2.1
  have k1 := v.2.2.2.2.2.2.2.1 i k hi hk
  have k2 := v.2.2.2.2.1
  have k3 := v.2.1
  have k4 := v.2.2.2.2.2.2.2.1 r k hr hk
  have r1 := o.2.2.2.2.2.2.2.2.1 i k hi hk
  have r2 := o.2.2.2.2.2.2.2.2.1 i c hi hc
  have r3 := o.2.2.2.2.2.2.2.2.1 r k hr hk
  simp only [Nat.reduceAdd] at k1 k4
  have w : ∀ x : Int, c_call (d + 1) 144 [jL x] (hH L m) = some (some (jI (bI (nr x))), hH L m) := fun x => Q144
  rw [T50_15_55, if_pos (by omega)]
  simp (disch := omega) only [w32_id, show ((i : Int) * 5 + (k : Int)).toNat = 5 * i + k by omega, show ((r : Int) * 5 + (k : Int)).toNat = 5 * r + k by omega, k1, k2, k4, w64_id]
  rw [if_pos (by omega)]
  by_cases e1 : i = r
  · rw [if_pos (by omega)]
    subst e1
    by_cases e2 : k = c
    · rw [if_pos (by omega), w]
      subst e2
      simp only [Option.bind_some, Option.toList_some, List.cons_append, List.nil_append, T50_105_55, bI_0]
      simp (disch := omega) only [w32_id, nat1, show ((i : Int) * 5 + (k : Int)).toNat = 5 * i + k by omega]
      unfold newE
      simp only [if_true]
      grind
    · rw [if_neg (by omega), w]
      simp only [Option.bind_some, Option.toList_some, List.cons_append, List.nil_append, T50_105_55, bI_0]
      simp (disch := omega) only [w32_id, nat1, show ((i : Int) * 5 + (k : Int)).toNat = 5 * i + k by omega]
      unfold newE
      simp only [if_true, if_neg e2]
      grind
  · rw [if_neg (by omega)]
    by_cases e2 : k = c
    · rw [if_pos (by omega), w]
      subst e2
      simp only [Option.bind_some, Option.toList_some, List.cons_append, List.nil_append, T50_105_55, bI_0]
      simp (disch := omega) only [w32_id, nat1, show ((i : Int) * 5 + (k : Int)).toNat = 5 * i + k by omega]
      unfold newE
      simp only [if_true, if_neg e1]
      grind
    · rw [if_neg (by omega), if_pos (by omega), Q51_55 v o hr hc (by omega) (by omega) (by omega) (by omega) (by omega) (by omega)]
      simp only [Option.bind_some, Option.toList_some, List.cons_append, List.nil_append, T50_98_55, w, T50_105_55, bI_0]
      simp (disch := omega) only [w32_id, nat1, show ((i : Int) * 5 + (k : Int)).toNat = 5 * i + k by omega]
      unfold newE
      simp only [if_neg e1, if_neg e2]
      grind
