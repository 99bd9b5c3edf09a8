/-! What the tables' checks say, in words; counts; the call with its arguments' room. -/
theorem x_ft {o ix a b : Nat} (h : j_ft.any (fun t => t.1 == o && t.2.1 == ix && t.2.2.1 == a && t.2.2.2.1 == b) = true) : ∃ r0 : vw_C, vwCl[a]? = some r0 ∧ b < r0.2.2 ∧ Cond.fieldLink (j_cnm o) ix (r0.2.1 b).1 (r0.2.1 b).2.1 (r0.2.1 b).2.2.1 ∈ lwW := by
  obtain ⟨t, h1, h2⟩ := List.any_eq_true.mp h
  simp only [Bool.and_eq_true, beq_iff_eq] at h2
  obtain ⟨⟨⟨e1, e2⟩, e3⟩, e4⟩ := h2
  have h3 := List.all_eq_true.mp j_ft_ok t h1
  unfold j_ftw at h3
  rw [e3, e4, e1, e2] at h3
  split at h3
  · rename_i r0 hr
    simp only [Bool.and_eq_true] at h3
    exact ⟨r0, hr, of_decide_eq_true h3.1, j_w_mem h3.2⟩
  · cases h3
theorem x_fn {o ix a b : Nat} (h : j_fn.any (fun t => t.1 == o && t.2.1 == ix && t.2.2.1 == a && t.2.2.2.1 == b) = true) : ∃ (r0 : vw_C) (t : Nat × Nat × Nat × Nat × Nat × Nat), vwCl[a]? = some r0 ∧ b < r0.2.2 ∧ t ∈ j_fn ∧ j_fnw t = Cond.fieldLinkNest (j_cnm o) ix (r0.2.1 b).1 (r0.2.1 b).2.1 (r0.2.1 b).2.2.1 (j_cnm t.2.2.2.2.1) := by
  obtain ⟨t, h1, h2⟩ := List.any_eq_true.mp h
  simp only [Bool.and_eq_true, beq_iff_eq] at h2
  obtain ⟨⟨⟨e1, e2⟩, e3⟩, e4⟩ := h2
  have h3 := List.all_eq_true.mp j_fn_ok t h1
  unfold j_fnk at h3
  rw [e3, e4] at h3
  split at h3
  · rename_i r0 hr
    simp only [Bool.and_eq_true] at h3
    refine ⟨r0, t, hr, of_decide_eq_true h3.1, h1, ?_⟩
    unfold j_fnw
    rw [e1, e2, e3, e4, of_decide_eq_true h3.2.1.2, List.getD_eq_getElem?_getD, hr, of_decide_eq_true h3.2.1.1]
    rfl
  · cases h3
theorem x_fs {o ix : Nat} (h : j_fs.any (fun t => t.1 == o && t.2.1 == ix) = true) : Cond.fieldLink (j_cnm o) ix "WholePacks" "TENS" "[I" ∈ lwW := by
  obtain ⟨t, h1, h2⟩ := List.any_eq_true.mp h
  simp only [Bool.and_eq_true, beq_iff_eq] at h2
  have h3 := j_w_mem (List.all_eq_true.mp j_fs_ok t h1)
  rw [h2.1, h2.2] at h3
  exact h3
theorem x_fsn {o ix : Nat} (h : j_fsn.any (fun t => t.1 == o && t.2.1 == ix) = true) : ∃ t, t ∈ j_fsn ∧ j_fsw t = Cond.fieldLinkNest (j_cnm o) ix "WholePacks" "TENS" "[I" (j_cnm t.2.2.1) := by
  obtain ⟨t, h1, h2⟩ := List.any_eq_true.mp h
  simp only [Bool.and_eq_true, beq_iff_eq] at h2
  refine ⟨t, h1, ?_⟩
  unfold j_fsw
  rw [h2.1, h2.2]
theorem x_mt {o ix a : Nat} (h : j_mt.any (fun t => t.1 == o && t.2.1 == ix && t.2.2.1 == a) = true) : Cond.methodLink (j_cnm o) ix (j_mnm a) ∈ lwW := by
  obtain ⟨t, h1, h2⟩ := List.any_eq_true.mp h
  simp only [Bool.and_eq_true, beq_iff_eq] at h2
  obtain ⟨⟨e1, e2⟩, e3⟩ := h2
  have h3 := j_w_mem (List.all_eq_true.mp j_mt_ok t h1)
  rw [e1, e2, e3] at h3
  exact h3
theorem x_mn {o ix a : Nat} (h : j_mn.any (fun t => t.1 == o && t.2.1 == ix && t.2.2.1 == a) = true) : ∃ t, t ∈ j_mn ∧ j_mnw t = Cond.methodLinkNest (j_cnm o) ix (j_mnm a) (j_cnm t.2.2.2.1) := by
  obtain ⟨t, h1, h2⟩ := List.any_eq_true.mp h
  simp only [Bool.and_eq_true, beq_iff_eq] at h2
  obtain ⟨⟨e1, e2⟩, e3⟩ := h2
  refine ⟨t, h1, ?_⟩
  unfold j_mnw
  rw [e1, e2, e3]
theorem x_ct {o ix a : Nat} (h : j_ct.any (fun t => t.1 == o && t.2.1 == ix && t.2.2.1 == a) = true) : ∃ r0 : vw_C, vwCl[a]? = some r0 ∧ Cond.classLink (j_cnm o) ix r0.1 ∈ lwW := by
  obtain ⟨t, h1, h2⟩ := List.any_eq_true.mp h
  simp only [Bool.and_eq_true, beq_iff_eq] at h2
  obtain ⟨⟨e1, e2⟩, e3⟩ := h2
  have h3 := List.all_eq_true.mp j_ct_ok t h1
  simp only [Bool.and_eq_true] at h3
  rw [e1, e2, e3] at h3
  have hlt : a < vwCl.length := of_decide_eq_true h3.1
  have hr := List.getElem?_eq_getElem hlt
  refine ⟨_, hr, ?_⟩
  rw [← (s_cl hr).2.2.2.2.2.2.2]
  exact j_w_mem h3.2
theorem x_kt0 {o ix : Nat} {z : Int} (h : j_kt.any (fun t => t.1 == o && t.2.1 == ix && t.2.2.1 == 0 && t.2.2.2.1 == z) = true) : Cond.constant (j_cnm o) ix (Int32.ofInt z) ∈ lwW ∧ (Int32.ofInt z).toInt = z := by
  obtain ⟨t, h1, h2⟩ := List.any_eq_true.mp h
  simp only [Bool.and_eq_true, beq_iff_eq] at h2
  obtain ⟨⟨⟨e1, e2⟩, e3⟩, e4⟩ := h2
  have h3 := List.all_eq_true.mp j_kt_ok t h1
  unfold j_ktw at h3
  rw [if_pos e3, Bool.and_eq_true, e1, e2, e4] at h3
  exact ⟨j_w_mem h3.1, of_decide_eq_true h3.2⟩
theorem x_kt1 {o ix : Nat} {z : Int} (h : j_kt.any (fun t => t.1 == o && t.2.1 == ix && t.2.2.1 == 1 && t.2.2.2.1 == z) = true) : Cond.constantLong (j_cnm o) ix (Int64.ofInt z) ∈ lwW ∧ (Int64.ofInt z).toInt = z := by
  obtain ⟨t, h1, h2⟩ := List.any_eq_true.mp h
  simp only [Bool.and_eq_true, beq_iff_eq] at h2
  obtain ⟨⟨⟨e1, e2⟩, e3⟩, e4⟩ := h2
  have h3 := List.all_eq_true.mp j_kt_ok t h1
  unfold j_ktw at h3
  rw [if_neg (by omega), Bool.and_eq_true, e1, e2, e4] at h3
  exact ⟨j_w_mem h3.1, of_decide_eq_true h3.2⟩
theorem j_mw_at {α : Type} {l : List α} {f : α → Bool} {a n k : Nat} {x : α} (h : ((l.drop a).take n).all f = true) (ha : a ≤ k) (hk : k < a + n) (hx : l[k]? = some x) : f x = true := by
  refine List.all_eq_true.mp h x (List.mem_of_getElem? (i := k - a) ?_)
  rw [List.getElem?_take_of_lt (by omega), List.getElem?_drop, show a + (k - a) = k by omega]
  exact hx
theorem j_mw_all {k : Nat} {x : (j_M × Nat × Nat × Nat × Nat) × Nat} (hk : k < 310) (hx : ((j_meth.zip j_mw).zip (List.range 310))[k]? = some x) : (x.2 == 271 || j_mok x.2 x.1.1 x.1.2) = true := by
  rcases Nat.lt_or_ge k 20 with h0 | h0
  · exact j_mw_at (l := (j_meth.zip j_mw).zip (List.range 310)) (f := fun q => q.2 == 271 || j_mok q.2 q.1.1 q.1.2) (a := 0) (n := 20) (k := k) (x := x) j_mw_0 (by omega) (by omega) hx
  rcases Nat.lt_or_ge k 40 with h1 | h1
  · exact j_mw_at (l := (j_meth.zip j_mw).zip (List.range 310)) (f := fun q => q.2 == 271 || j_mok q.2 q.1.1 q.1.2) (a := 20) (n := 20) (k := k) (x := x) j_mw_1 (by omega) (by omega) hx
  rcases Nat.lt_or_ge k 60 with h2 | h2
  · exact j_mw_at (l := (j_meth.zip j_mw).zip (List.range 310)) (f := fun q => q.2 == 271 || j_mok q.2 q.1.1 q.1.2) (a := 40) (n := 20) (k := k) (x := x) j_mw_2 (by omega) (by omega) hx
  rcases Nat.lt_or_ge k 80 with h3 | h3
  · exact j_mw_at (l := (j_meth.zip j_mw).zip (List.range 310)) (f := fun q => q.2 == 271 || j_mok q.2 q.1.1 q.1.2) (a := 60) (n := 20) (k := k) (x := x) j_mw_3 (by omega) (by omega) hx
  rcases Nat.lt_or_ge k 100 with h4 | h4
  · exact j_mw_at (l := (j_meth.zip j_mw).zip (List.range 310)) (f := fun q => q.2 == 271 || j_mok q.2 q.1.1 q.1.2) (a := 80) (n := 20) (k := k) (x := x) j_mw_4 (by omega) (by omega) hx
  rcases Nat.lt_or_ge k 120 with h5 | h5
  · exact j_mw_at (l := (j_meth.zip j_mw).zip (List.range 310)) (f := fun q => q.2 == 271 || j_mok q.2 q.1.1 q.1.2) (a := 100) (n := 20) (k := k) (x := x) j_mw_5 (by omega) (by omega) hx
  rcases Nat.lt_or_ge k 140 with h6 | h6
  · exact j_mw_at (l := (j_meth.zip j_mw).zip (List.range 310)) (f := fun q => q.2 == 271 || j_mok q.2 q.1.1 q.1.2) (a := 120) (n := 20) (k := k) (x := x) j_mw_6 (by omega) (by omega) hx
  rcases Nat.lt_or_ge k 160 with h7 | h7
  · exact j_mw_at (l := (j_meth.zip j_mw).zip (List.range 310)) (f := fun q => q.2 == 271 || j_mok q.2 q.1.1 q.1.2) (a := 140) (n := 20) (k := k) (x := x) j_mw_7 (by omega) (by omega) hx
  rcases Nat.lt_or_ge k 180 with h8 | h8
  · exact j_mw_at (l := (j_meth.zip j_mw).zip (List.range 310)) (f := fun q => q.2 == 271 || j_mok q.2 q.1.1 q.1.2) (a := 160) (n := 20) (k := k) (x := x) j_mw_8 (by omega) (by omega) hx
  rcases Nat.lt_or_ge k 200 with h9 | h9
  · exact j_mw_at (l := (j_meth.zip j_mw).zip (List.range 310)) (f := fun q => q.2 == 271 || j_mok q.2 q.1.1 q.1.2) (a := 180) (n := 20) (k := k) (x := x) j_mw_9 (by omega) (by omega) hx
  rcases Nat.lt_or_ge k 220 with h10 | h10
  · exact j_mw_at (l := (j_meth.zip j_mw).zip (List.range 310)) (f := fun q => q.2 == 271 || j_mok q.2 q.1.1 q.1.2) (a := 200) (n := 20) (k := k) (x := x) j_mw_10 (by omega) (by omega) hx
  rcases Nat.lt_or_ge k 240 with h11 | h11
  · exact j_mw_at (l := (j_meth.zip j_mw).zip (List.range 310)) (f := fun q => q.2 == 271 || j_mok q.2 q.1.1 q.1.2) (a := 220) (n := 20) (k := k) (x := x) j_mw_11 (by omega) (by omega) hx
  rcases Nat.lt_or_ge k 260 with h12 | h12
  · exact j_mw_at (l := (j_meth.zip j_mw).zip (List.range 310)) (f := fun q => q.2 == 271 || j_mok q.2 q.1.1 q.1.2) (a := 240) (n := 20) (k := k) (x := x) j_mw_12 (by omega) (by omega) hx
  rcases Nat.lt_or_ge k 280 with h13 | h13
  · exact j_mw_at (l := (j_meth.zip j_mw).zip (List.range 310)) (f := fun q => q.2 == 271 || j_mok q.2 q.1.1 q.1.2) (a := 260) (n := 20) (k := k) (x := x) j_mw_13 (by omega) (by omega) hx
  rcases Nat.lt_or_ge k 300 with h14 | h14
  · exact j_mw_at (l := (j_meth.zip j_mw).zip (List.range 310)) (f := fun q => q.2 == 271 || j_mok q.2 q.1.1 q.1.2) (a := 280) (n := 20) (k := k) (x := x) j_mw_14 (by omega) (by omega) hx
  rcases Nat.lt_or_ge k 310 with h15 | h15
  · exact j_mw_at (l := (j_meth.zip j_mw).zip (List.range 310)) (f := fun q => q.2 == 271 || j_mok q.2 q.1.1 q.1.2) (a := 300) (n := 10) (k := k) (x := x) j_mw_15 (by omega) (by omega) hx
  omega
theorem s_good {ws : List Cond} (h : ∀ w ∈ ws, w ∈ lwW) : GoodIn lwW ws := fun w hw => ⟨h w hw, good_of_word (List.mem_filter.mp (h w hw)).2⟩
/-- a method's own words -/
theorem s_mok {k : Nat} {mq : j_M} (h : j_meth[k]? = some mq) (hk : k ≠ 271) (h3 : mq.2.2.2.2.2.1 ≠ 3) : GoodIn lwW (s_ws mq) ∧ Cond.initialized mq.1.cls ∈ lwW ∧ mq.1.cls = j_cnm mq.2.2.2.2.1 ∧ (mq.1.cls ≠ "java/lang/invoke/MethodHandle" ∧ mq.1.cls ≠ "java/lang/invoke/VarHandle" ∧ (parseMethodDescriptor mq.1.desc).map (fun d => d.parameters.length) = some (mq.2.2.2.2.2.2 + if k = 277 ∨ k = 282 then 1 else 0)) ∧ mq.2.2.1 ≤ 13 ∧ (mq.2.2.2.2.2.1 = 0 → Cond.instanceMethod mq.1 ∈ lwW ∧ (mq.2.2.2.2.1 < 13 → k ≠ 287 → Cond.selects mq.1.cls mq.1 mq.1 ∈ lwW) ∧ mq.1.name ≠ "<init>" ∧ (mq.2.2.2.2.1 < 13 ∨ (mq.2.2.2.2.1 = 16 ∧ Cond.sameMethod mq.1.cls mq.1.cls mq.1.name mq.1.desc ∈ lwW))) ∧ (mq.2.2.2.2.2.1 = 1 → Cond.static mq.1 ∈ lwW) ∧ (mq.2.2.2.2.2.1 = 2 → Cond.instanceMethod mq.1 ∈ lwW ∧ mq.1.name = "<init>" ∧ mq.2.2.2.1 = none) := by
  have hlt : k < 310 := by have := (List.getElem?_eq_some_iff.mp h).1; rw [j_len.1] at this; exact this
  obtain ⟨w, hw⟩ : ∃ w, j_mw[k]? = some w := ⟨_, List.getElem?_eq_getElem (by rw [j_len.2.2]; exact hlt)⟩
  have hz : ((j_meth.zip j_mw).zip (List.range 310))[k]? = some ((mq, w), k) := by
    rw [List.getElem?_zip_eq_some, List.getElem?_zip_eq_some]
    exact ⟨⟨h, hw⟩, List.getElem?_range hlt⟩
  have hm := j_mw_all hlt hz
  unfold j_mok at hm
  simp only [Bool.or_eq_true, Bool.and_eq_true, beq_iff_eq] at hm
  rcases hm with hm | hm | hm
  · exact absurd hm hk
  · exact absurd hm h3
  obtain ⟨h1, h2, h4, h5, h6⟩ := hm
  refine ⟨s_good (fun w hw => ?_), j_w_mem h1, of_decide_eq_true h2, of_decide_eq_true h4, of_decide_eq_true h5, fun e => ?_, fun e => ?_, fun e => ?_⟩
  · unfold s_ws at hw
    rcases List.mem_cons.mp hw with rfl | hw
    · exact List.mem_filter.mpr ⟨j_cw_all k mq h hk h3, rfl⟩
    · exact hw
  · rw [e] at h6
    simp only [Bool.or_eq_true, Bool.and_eq_true, Bool.not_eq_true', Bool.and_eq_false_iff, decide_eq_true_eq, decide_eq_false_iff_not, beq_iff_eq, bne_eq_false_iff_eq] at h6
    obtain ⟨g1, g2, g3, g4⟩ := h6
    refine ⟨j_w_mem g1, fun e1 e2 => ?_, g3, ?_⟩
    · rcases g2 with (g2 | g2) | g2
      · exact absurd e1 g2
      · exact absurd g2 e2
      · exact j_w_mem g2
    · rcases g4 with g4 | ⟨g4, g5⟩
      · exact Or.inl g4
      · exact Or.inr ⟨g4, j_has_mem g5⟩
  · rw [e] at h6
    exact j_w_mem h6
  · rw [e] at h6
    simp only [Bool.and_eq_true] at h6
    exact ⟨j_w_mem h6.1, of_decide_eq_true h6.2.1, of_decide_eq_true h6.2.2⟩
theorem x_cal {a kd np : Nat} {mq : j_M} (h : j_cal a kd np = true) (hm : j_meth[a]? = some mq) : mq.2.2.2.2.2.1 = kd ∧ mq.2.2.2.2.2.2 = np ∧ a ≠ 271 ∧ a ≠ 277 ∧ a ≠ 282 := by
  unfold j_cal at h
  have h1 : j_kn[a]? = some (mq.2.2.2.2.1, mq.2.2.2.2.2.1, mq.2.2.2.2.2.2) := by rw [← j_kn_ok, List.getElem?_map, hm]; rfl
  rw [h1] at h
  simp only [Bool.and_eq_true, beq_iff_eq, bne_iff_ne] at h
  exact ⟨h.1.1, h.1.2, h.2.1, h.2.2.1, h.2.2.2⟩
theorem x_pl {a : Nat} {mq : j_M} (h : j_pl a = true) (hm : j_meth[a]? = some mq) : mq.2.2.2.2.1 < 13 ∧ a ≠ 287 := by
  unfold j_pl at h
  have h1 : j_kn[a]? = some (mq.2.2.2.2.1, mq.2.2.2.2.2.1, mq.2.2.2.2.2.2) := by rw [← j_kn_ok, List.getElem?_map, hm]; rfl
  rw [h1] at h
  simp only [Bool.and_eq_true, decide_eq_true_eq, bne_iff_ne] at h
  exact h
theorem x_sup {a : Nat} {mq : j_M} (h : j_sup a = true) (hm : j_meth[a]? = some mq) : mq.2.2.2.2.1 = 16 := by
  unfold j_sup at h
  have h1 : j_kn[a]? = some (mq.2.2.2.2.1, mq.2.2.2.2.2.1, mq.2.2.2.2.2.2) := by rw [← j_kn_ok, List.getElem?_map, hm]; rfl
  rw [h1] at h
  simpa using h
theorem x_gs {o ix a : Nat} (h : j_gs.any (fun t => t.1 == o && t.2.1 == ix && t.2.2.1 == a) = true) : (a = 98 ∧ Cond.fieldLink (j_cnm o) ix "java/lang/String" "COMPACT_STRINGS" "Z" ∈ lwW) ∨ (a = 96 ∧ Cond.fieldLink (j_cnm o) ix "java/lang/Integer" "DigitOnes" "[B" ∈ lwW) ∨ (a = 97 ∧ Cond.fieldLink (j_cnm o) ix "java/lang/Integer" "DigitTens" "[B" ∈ lwW) := by
  obtain ⟨t, h1, h2⟩ := List.any_eq_true.mp h
  simp only [Bool.and_eq_true, beq_iff_eq] at h2
  obtain ⟨⟨e1, e2⟩, e3⟩ := h2
  have h3 := List.all_eq_true.mp j_gs_ok t h1
  simp only [Bool.and_eq_true, Bool.or_eq_true, beq_iff_eq] at h3
  have h4 := j_w_mem h3.2
  unfold j_gsw at h4
  rw [e1, e2, e3] at h4
  rw [e3] at h3
  rcases h3.1 with h5 | h5 | h5
  · rw [if_pos h5] at h4; exact Or.inl ⟨h5, h4⟩
  · rw [if_neg (by omega), if_pos h5] at h4; exact Or.inr (Or.inl ⟨h5, h4⟩)
  · rw [if_neg (by omega), if_neg (by omega)] at h4; exact Or.inr (Or.inr ⟨h5, h4⟩)
theorem x_st {o ix b : Nat} (h : j_st.any (fun t => t.1 == o && t.2.1 == ix && t.2.2.1 == b) = true) : ∃ x, j_tx[b]? = some x ∧ ix = x.1 ∧ o = 13 ∧ b < 10 := by
  obtain ⟨t, h1, h2⟩ := List.any_eq_true.mp h
  simp only [Bool.and_eq_true, beq_iff_eq] at h2
  obtain ⟨⟨e1, e2⟩, e3⟩ := h2
  have h3 := List.all_eq_true.mp j_st_ok t h1
  rw [e1, e2, e3] at h3
  split at h3
  · rename_i x hx
    simp only [Bool.and_eq_true, decide_eq_true_eq, beq_iff_eq] at h3
    have h5 : j_tx.length = 10 := by decide
    have h6 := (List.getElem?_eq_some_iff.mp hx).1
    exact ⟨x, hx, h3.1, h3.2.1, by omega⟩
  · cases h3
theorem x_vu {o ix a : Nat} (h : j_vu.any (fun t => t.1 == o && t.2.1 == ix && t.2.2.1 == a) = true) : Cond.methodLink (j_cnm o) ix (j_asb (j_mnm a)) ∈ lwW ∧ Cond.selects "java/lang/StringBuilder" (j_asb (j_mnm a)) (j_mnm a) ∈ lwW ∧ Cond.sameMethod "java/lang/AbstractStringBuilder" "java/lang/AbstractStringBuilder" (j_mnm a).name (j_mnm a).desc ∈ lwW ∧ (j_mnm a = j_asb (j_mnm a) ∨ a = 287) := by
  obtain ⟨t, h1, h2⟩ := List.any_eq_true.mp h
  simp only [Bool.and_eq_true, beq_iff_eq] at h2
  obtain ⟨⟨e1, e2⟩, e3⟩ := h2
  have h3 := List.all_eq_true.mp j_vu_ok t h1
  simp only [Bool.and_eq_true, Bool.or_eq_true, beq_iff_eq, decide_eq_true_eq] at h3
  rw [e1, e2, e3] at h3
  refine ⟨j_w_mem h3.1, j_w_mem h3.2.1, j_w_mem h3.2.2.1, ?_⟩
  rcases h3.2.2.2 with h4 | h4
  · exact Or.inl h4.2
  · exact Or.inr h4.2
theorem x_cal_some {a kd np : Nat} (h : j_cal a kd np = true) : ∃ mq, j_meth[a]? = some mq := by
  unfold j_cal at h
  split at h
  · rename_i e
    have h1 := (List.getElem?_eq_some_iff.mp e).1
    rw [← j_kn_ok, List.length_map] at h1
    exact ⟨_, List.getElem?_eq_getElem h1⟩
  · cases h
theorem x_mnm {a : Nat} {mq : j_M} (hm : j_meth[a]? = some mq) : j_mnm a = mq.1 := by
  have h1 : a < 310 := by have := (List.getElem?_eq_some_iff.mp hm).1; rw [j_len.1] at this; exact this
  unfold j_mnm
  rw [if_neg (by omega), if_neg (by omega), hm]
theorem j_rt_ok : j_meth.all (fun q => match q.2.2.2.1 with | none => true | some .int => true | some .long => true | some .boolean => true | some .byte => true | some .char => true | some (.object _) => true | some (.array _) => true | _ => false) = true := by decide +kernel
theorem x_ret {y k : Nat} {q : j_M} (hq : j_meth[y]? = some q) (h : j_ret y = k) : (k = 0 → q.2.2.2.1 = none) ∧ (k = 1 → q.2.2.2.1 = some .int) ∧ (k = 2 → q.2.2.2.1 = some .long) ∧ (k = 3 → q.2.2.2.1 = some .boolean) ∧ (k = 4 → q.2.2.2.1 = some .byte) ∧ (k = 5 → q.2.2.2.1 = some .char) ∧ (k = 6 → ∃ rt, q.2.2.2.1 = some rt ∧ ((∃ n, rt = .object n) ∨ ∃ t, rt = .array t)) := by
  have h1 : j_rk[y]? = some (match q.2.2.2.1 with | none => 0 | some .int => 1 | some .long => 2 | some .boolean => 3 | some .byte => 4 | some .char => 5 | _ => 6) := by rw [← j_rk_ok, List.getElem?_map, hq]; rfl
  have h2 := List.all_eq_true.mp j_rt_ok q (List.mem_of_getElem? hq)
  unfold j_ret at h
  rw [List.getD_eq_getElem?_getD, h1, Option.getD_some] at h
  clear h1 hq
  generalize q.2.2.2.1 = o at h h2 ⊢
  cases o with
  | none => cases h; simp
  | some t => cases t <;> first | (cases h2; done) | (cases h; simp)
theorem x_dec {cc : ByteArray} {r : Nat × j_I} (h : j_dk cc r = true) : ∃ n, decode cc r.1 = .ok (r.2.1, n) ∧ j_ln r.2.1 n = true := by
  unfold j_dk at h
  split at h
  · rename_i i n e
    rw [Bool.and_eq_true] at h
    have := of_decide_eq_true h.1
    exact ⟨n, by rw [← this]; exact e, by rw [← this]; exact h.2⟩
  · cases h
theorem j_lk_mem {α : Type} : ∀ {l : List (Nat × α)} {n : Nat} {v : α}, j_lk l n = some v → (n, v) ∈ l
  | [], n, v, h => by cases h
  | (k, w) :: r, n, v, h => by
    unfold j_lk at h
    split at h
    · rename_i e
      cases h
      exact e ▸ List.mem_cons_self
    · exact List.mem_cons_of_mem _ (j_lk_mem h)
theorem x_at {y pc : Nat} {q : j_M} {i : j_I} (hsp : ¬ j_spc y) (hq : j_meth[y]? = some q) (h : j_at y pc = some i) : (∃ n, decode q.2.1 pc = .ok (i.1, n) ∧ j_ln i.1 n = true) ∧ j_ax q.2.2.2.2.1 q.2.2.2.2.2.1 (pc, i) = true := by
  unfold j_at at h
  split at h
  · rename_i c e
    have h1 : (j_dk q.2.1 (pc, i) && j_ax q.2.2.2.2.1 q.2.2.2.2.2.1 (pc, i)) = true := List.all_eq_true.mp (j_good_all y hsp q c hq e) _ (j_lk_mem h)
    have h2 := (Bool.and_eq_true _ _).mp h1
    exact ⟨x_dec (r := (pc, i)) h2.1, h2.2⟩
  · cases h
/-! counts -/
def s_ge (h g : j_H) : Prop := h.1.length ≤ g.1.length ∧ s_sl h ≤ s_sl g
theorem s_ge_rf (h : j_H) : s_ge h h := ⟨Nat.le_refl _, Nat.le_refl _⟩
theorem s_ge_tr {h g k : j_H} (h1 : s_ge h g) (h2 : s_ge g k) : s_ge h k := ⟨Nat.le_trans h1.1 h2.1, Nat.le_trans h1.2 h2.2⟩
theorem s_ge_new {h : j_H} {c n : Nat} : s_ge h (j_new h c n) := ⟨by rw [s_new_cnt.1]; omega, by rw [s_new_cnt.2]; omega⟩
theorem s_cln_cnt {h : j_H} {a n : Nat} : (j_cln h a n).1.length = h.1.length + 1 ∧ s_sl (j_cln h a n) = s_sl h + n := by
  refine ⟨by simp [j_cln], ?_⟩
  unfold s_sl j_cln
  simp
theorem s_ge_cln {h : j_H} {a n : Nat} : s_ge h (j_cln h a n) := ⟨by rw [s_cln_cnt.1]; omega, by rw [s_cln_cnt.2]; omega⟩
theorem s_mna_cnt {h : j_H} {k n : Nat} : (j_mna h k n).1.length = h.1.length + (1 + k) ∧ s_sl (j_mna h k n) = s_sl h + (k + k * n) := by
  have hm1 : (j_mna h k n).1 = h.1 ++ ((36, k) :: List.replicate k (33, n)) := by
    unfold j_mna
    rw [j_mul_1]
    simp
  refine ⟨by rw [hm1]; simp; omega, ?_⟩
  unfold s_sl
  rw [hm1]
  simp
theorem s_ge_mna {h : j_H} {k n : Nat} : s_ge h (j_mna h k n) := ⟨by rw [s_mna_cnt.1]; omega, by rw [s_mna_cnt.2]; omega⟩
set_option maxHeartbeats 4000000 in
theorem j_step_cnt (y pc : Nat) (ls : j_L) (st : List j_V) (h : j_H) : j_step y pc ls st h True (fun _ _ _ g => s_ge h g) (fun _ g => s_ge h g) (fun _ _ _ => True) := by
  unfold j_step
  cases j_at y pc with
  | none => trivial
  | some q =>
    obtain ⟨i, a, b, z⟩ := q
    simp only [j_op]
    cases i
    case ifCond c off => cases c <;> (simp only [j_if]; split <;> first | trivial | (split <;> exact s_ge_rf h))
    case if_icmp c off => cases c <;> (simp only [j_if2]; split <;> first | trivial | (split <;> exact s_ge_rf h))
    case getfield =>
      dsimp only
      split
      · have G : ∀ a0 : Nat, j_get h a0 a b True (fun _ => s_ge h h) := by
          intro a0
          unfold j_get
          split
          · exact s_ge_rf h
          · exact s_ge_rf h
          · exact s_ge_rf h
          · simp only [j_op]
            split
            · exact s_ge_rf h
            · trivial
        unfold j_obk j_fk
        split
        · split
          · split
            · exact G _
            · split
              · exact G _
              · trivial
          · trivial
        · trivial
      · trivial
    case putfield =>
      dsimp only
      split
      · unfold j_ob
        split
        · split
          · unfold j_put
            split <;> split <;> first | trivial | exact s_ge_rf h | (split <;> first | trivial | exact s_ge_rf h)
          · trivial
        · trivial
      · trivial
    case invokevirtual =>
      dsimp only
      split
      · split
        · split
          · split
            · exact s_ge_cln
            · trivial
          · trivial
        · split
          · unfold j_obk
            split
            · split
              · split <;> trivial
              · trivial
            · trivial
          · trivial
      · trivial
    case invokespecial =>
      dsimp only
      split
      · trivial
      · split
        · split
          · split
            · exact s_ge_rf h
            · unfold j_obs
              split
              · split
                · trivial
                · unfold j_obk
                  split
                  · split <;> trivial
                  · trivial
              · trivial
          · trivial
        · trivial
    case invokestatic =>
      dsimp only
      split
      · trivial
      · split
        · split
          · split
            · split
              · split
                · exact s_ge_rf h
                · trivial
              · trivial
            · trivial
          · trivial
        · split <;> trivial
    case checkcast =>
      dsimp only
      split
      · unfold j_ob
        split
        · split
          · exact s_ge_rf h
          · trivial
        · trivial
      · trivial
    all_goals dsimp only
    all_goals first | trivial | exact s_ge_rf h | exact s_ge_new | ((try simp only [j_bI, j_bL, j_uI, j_uL, j_el, j_sI, j_sL, j_rg, j_op]); repeat' (first | trivial | exact s_ge_rf h | exact s_ge_new | exact s_ge_mna | split | dsimp only))
/-! the call -/
noncomputable def c_call : Nat → Nat → List j_V → j_H → Option j_Z
  | 0, _, _, _ => none
  | d + 1, y, as, h => if (j_ent as).length ≤ j_ml y then j_fin (c_call d) y 0 (j_loc y as) [] h else none
noncomputable def c_do (n : Nat) : Nat → Nat → List j_V → j_H → Option j_Z
  | 0, _, _, _ => none
  | d + 1, y, as, h => if (j_ent as).length ≤ j_ml y then j_run (c_do n d) n y 0 (j_loc y as) [] h else none
theorem c_do_call {n d y : Nat} {as : List j_V} {h : j_H} {z : j_Z} (e : c_do n d y as h = some z) : c_call d y as h = some z := by
  induction d generalizing y as h z with
  | zero => cases e
  | succ d ih =>
    unfold c_do at e
    unfold c_call
    split at e
    · rename_i hl
      rw [if_pos hl]
      exact (j_fin_some _).mpr ⟨n, j_run_sub (fun k as h z hz => ih hz) e⟩
    · cases e
theorem c_call_mono {d y : Nat} {as : List j_V} {h : j_H} {z : j_Z} (e : c_call d y as h = some z) : c_call (d + 1) y as h = some z := by
  induction d generalizing y as h z with
  | zero => cases e
  | succ d ih =>
    unfold c_call at e ⊢
    split at e
    · rename_i hl
      rw [if_pos hl]
      obtain ⟨n, e⟩ := (j_fin_some _).mp e
      exact (j_fin_some _).mpr ⟨n, j_run_sub (fun k as h z hz => ih hz) e⟩
    · cases e
theorem j_run_cnt {C : Nat → List j_V → j_H → Option j_Z} (hCc : ∀ k as h z, C k as h = some z → s_ge h z.2) {n y pc : Nat} {ls : j_L} {st : List j_V} {h : j_H} {z : j_Z} (e : j_run C n y pc ls st h = some z) : s_ge h z.2 := by
  induction n generalizing pc ls st h with
  | zero => cases e
  | succ n ih =>
    unfold j_run at e
    have h1 := j_step_cnt y pc ls st h
    rw [j_step_by] at e h1
    generalize j_res y pc ls st h = q at e h1
    match q, h1 with
    | none, _ => cases e
    | some (.inl (a, b, c, d)), h1 => exact s_ge_tr h1 (ih e)
    | some (.inr (.inl (v, g))), h1 => cases e; exact h1
    | some (.inr (.inr (a, b, c))), h1 =>
      simp only [j_by] at e
      cases hc : C a b h with
      | none => rw [hc] at e; cases e
      | some w => rw [hc] at e; exact s_ge_tr (hCc _ _ _ _ hc) (ih e)
theorem c_call_cnt {d y : Nat} {as : List j_V} {h : j_H} {z : j_Z} (e : c_call d y as h = some z) : s_ge h z.2 := by
  induction d generalizing y as h z with
  | zero => cases e
  | succ d ih =>
    unfold c_call at e
    split at e
    · obtain ⟨n, e⟩ := (j_fin_some _).mp e
      exact j_run_cnt (fun k as h z hz => ih hz) e
    · cases e
