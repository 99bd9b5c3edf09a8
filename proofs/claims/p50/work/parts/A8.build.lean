/-! Builders: what they hold, what stays; a new one. -/
/-- a builder at a, its row at b with room for c, its letters s -/
def sB (h : j_H) (a b c : Nat) (s : List Int) : Prop := (h.1[a]? = some (1, 4) ∧ h.1[b]? = some (34, c) ∧ j_rf h a 0 = some b) ∧ (h.2.2 a 1 = 0 ∧ h.2.2 a 3 = s.length) ∧ (s.length ≤ c ∧ 16 ≤ c ∧ c ≤ 1000) ∧ (∀ i : Nat, i < s.length → h.2.2 b i = s.getD i 0) ∧ (∀ i : Nat, i < c → -128 ≤ h.2.2 b i ∧ h.2.2 b i ≤ 127) ∧ (∀ x ∈ s, 0 ≤ x ∧ x ≤ 127) ∧ 2 ≤ a ∧ 2 ≤ b
/-- from h to h' only what W names has changed, at most c cells and n places have come -/
def xF (W : Nat → Prop) (c n : Nat) (h h' : j_H) : Prop := (∃ T : List (Nat × Nat), h'.1 = h.1 ++ T ∧ T.length ≤ c ∧ (T.map (fun q => q.2)).sum ≤ n) ∧ (h.2.1.length ≤ h'.2.1.length ∧ (h.2.1.length = h.1.length → h'.2.1.length = h'.1.length)) ∧ (∀ a : Nat, a < h.2.1.length → ¬ W a → h'.2.1.getD a [] = h.2.1.getD a []) ∧ (∀ a i : Nat, a < h.1.length ∨ 1000000 ≤ a → ¬ W a → h'.2.2 a i = h.2.2 a i)
theorem xF_rf {W : Nat → Prop} {h : j_H} : xF W 0 0 h h := ⟨⟨[], (List.append_nil _).symm, Nat.le_refl _, Nat.le_refl _⟩, ⟨Nat.le_refl _, fun e => e⟩, fun _ _ _ => rfl, fun _ _ _ _ => rfl⟩
theorem xF_le {W : Nat → Prop} {c n : Nat} {h h' : j_H} (x : xF W c n h h') : h.1.length ≤ h'.1.length ∧ h'.1.length ≤ h.1.length + c := by
  obtain ⟨⟨T, t1, t2, t3⟩, -⟩ := x
  rw [t1, List.length_append]
  omega
theorem xF_tr {W : Nat → Prop} {c n c' n' : Nat} {h h' h'' : j_H} (x : xF W c n h h') (y : xF W c' n' h' h'') : xF W (c + c') (n + n') h h'' := by
  have hl := xF_le x
  obtain ⟨⟨T, t1, t2, t3⟩, x2, x3, x4⟩ := x
  obtain ⟨⟨U, u1, u2, u3⟩, y2, y3, y4⟩ := y
  refine ⟨⟨T ++ U, by rw [u1, t1, List.append_assoc], by rw [List.length_append]; omega, by rw [List.map_append, List.sum_append]; omega⟩, ⟨Nat.le_trans x2.1 y2.1, fun e => y2.2 (x2.2 e)⟩, fun a ha hw => (y3 a (Nat.lt_of_lt_of_le ha x2.1) hw).trans (x3 a ha hw), fun a i ha hw => (y4 a i (by omega) hw).trans (x4 a i ha hw)⟩
theorem xF_w {W W' : Nat → Prop} {c n c' n' : Nat} {h h' : j_H} (x : xF W c n h h') (hl : h.2.1.length = h.1.length) (w : ∀ a, W a → W' a ∨ (h.1.length ≤ a ∧ a < 1000000)) (hc : c ≤ c') (hn : n ≤ n') : xF W' c' n' h h' := by
  obtain ⟨⟨T, t1, t2, t3⟩, x2, x3, x4⟩ := x
  refine ⟨⟨T, t1, by omega, by omega⟩, x2, fun a ha hw => x3 a ha (fun g => ?_), fun a i ha hw => x4 a i ha (fun g => ?_)⟩
  · rcases w a g with h1 | h1
    · exact hw h1
    · omega
  · rcases w a g with h1 | h1
    · exact hw h1
    · omega
/-- a new cell -/
theorem xF_new {W : Nat → Prop} {h : j_H} {k n : Nat} (hl : h.1.length < 1000000) : xF W 1 n h (j_new h k n) := by
  refine ⟨⟨[(k, n)], rfl, Nat.le_refl _, by simp⟩, ⟨?_, fun e => ?_⟩, fun a ha _ => ?_, fun a i ha _ => ?_⟩
  · show _ ≤ (h.2.1 ++ _).length
    rw [List.length_append]
    omega
  · show (h.2.1 ++ _).length = (h.1 ++ _).length
    rw [List.length_append, List.length_append, e]
    rfl
  · show (h.2.1 ++ _).getD a [] = _
    rw [List.getD_eq_getElem?_getD, List.getD_eq_getElem?_getD, List.getElem?_append_left ha]
  · show (if a = h.1.length then 0 else h.2.2 a i) = _
    rw [if_neg (by omega)]
theorem kq_old {h h' : j_H} {T : List (Nat × Nat)} (e : h'.1 = h.1 ++ T) {a : Nat} {q : Nat × Nat} (k : h.1[a]? = some q) : h'.1[a]? = some q := by
  have l := (List.getElem?_eq_some_iff.mp k).1
  rw [e, List.getElem?_append_left l]
  exact k
theorem kd_of {h : j_H} {a : Nat} {q : Nat × Nat} (k : h.1[a]? = some q) : j_kd h a = some q := by
  unfold j_kd
  rw [k]
theorem kq_new (h : j_H) (k n : Nat) : (j_new h k n).1[h.1.length]? = some (k, n) := by
  show (h.1 ++ [(k, n)])[h.1.length]? = _
  rw [List.getElem?_append_right (Nat.le_refl _), Nat.sub_self]
  rfl
theorem kq_old1 {h : j_H} {k n a : Nat} {q : Nat × Nat} (e : h.1[a]? = some q) : (j_new h k n).1[a]? = some q := kq_old (h := h) rfl e
theorem ml_286 : j_ml 286 = 1 := by decide +kernel
theorem E286 {d : Nat} {h : j_H} {a0 : Nat} : c_call (d + 1) 286 [jR a0] h = j_fin (c_call d) 286 0 [some (jR a0)] [] h := (E_of ml_286 (Nat.le_of_ble_eq_true rfl)).trans rfl
theorem ml_295 : j_ml 295 = 2 := by decide +kernel
theorem E295 {d : Nat} {h : j_H} {a0 : Nat} {x1 : Int} : c_call (d + 1) 295 [jR a0, jI x1] h = j_fin (c_call d) 295 0 [some (jR a0), some (jI x1)] [] h := (E_of ml_295 (Nat.le_of_ble_eq_true rfl)).trans rfl
/-- a builder's fields and row are laid -/
theorem R295 {d a : Nat} {h : j_H} (k1 : h.1[a]? = some (1, 4)) (hl : h.1.length < 900000) : c_call (d + 1) 295 [jR a, jI 16] h = some (none, ((((j_new h 34 16).1, j_srf (j_new h 34 16) a 0 (h.1.length), (j_new h 34 16).2.2)).1, (((j_new h 34 16).1, j_srf (j_new h 34 16) a 0 (h.1.length), (j_new h 34 16).2.2)).2.1, j_up (((j_new h 34 16).1, j_srf (j_new h 34 16) a 0 (h.1.length), (j_new h 34 16).2.2)).2.2 a 1 0)) := by
  refine E295.trans ?_
  refine (S_aload_n rfl at_295_0).trans ?_
  refine (S_objI rfl rfl (Nat.le_of_ble_eq_true rfl) at_295_1).trans ?_
  refine (S_getsI rfl at_295_4).trans ?_
  refine (S_if_eq at_295_7).trans ?_
  refine (if_neg (by decide)).trans ?_
  refine (S_aload_n rfl at_295_10).trans ?_
  refine (S_iload_n rfl at_295_11).trans ?_
  refine (S_newarr ⟨by decide, by decide, by decide, hl⟩ at_295_12).trans ?_
  refine (S_putR (show ((j_new h 34 16)).1[a]? = some (1, 4) from kq_old1 k1) rfl at_295_14).trans ?_
  refine (S_aload_n rfl at_295_17).trans ?_
  refine (S_iconst at_295_18).trans ?_
  refine (S_put2 (show (((j_new h 34 16).1, j_srf (j_new h 34 16) a 0 (h.1.length), (j_new h 34 16).2.2)).1[a]? = some (1, 4) from kq_old1 k1) rfl at_295_19).trans ?_
  refine (if_pos (by decide)).trans ?_
  refine (S_goto at_295_22).trans ?_
  exact S_ret rfl at_295_38
theorem R286 {d a : Nat} {h : j_H} (k1 : h.1[a]? = some (1, 4)) (hl : h.1.length < 900000) : c_call (d + 2) 286 [jR a] h = some (none, ((((j_new h 34 16).1, j_srf (j_new h 34 16) a 0 (h.1.length), (j_new h 34 16).2.2)).1, (((j_new h 34 16).1, j_srf (j_new h 34 16) a 0 (h.1.length), (j_new h 34 16).2.2)).2.1, j_up (((j_new h 34 16).1, j_srf (j_new h 34 16) a 0 (h.1.length), (j_new h 34 16).2.2)).2.2 a 1 0)) := by
  refine E286.trans ?_
  refine (S_aload_n rfl at_286_0).trans ?_
  refine (S_bipush at_286_1).trans ?_
  refine (S_invi (b := 1) (kd := 0) (by decide) kn_295 rfl (Nat.le_of_ble_eq_true rfl) at_286_3).trans ?_
  show (((c_call (d + 1)) 295 [jR a, jI 16] h).bind _) = _
  rw [R295 k1 hl]
  show j_fin (c_call (d + 1)) 286 6 [some (jR a)] [] (((((j_new h 34 16).1, j_srf (j_new h 34 16) a 0 (h.1.length), (j_new h 34 16).2.2)).1, (((j_new h 34 16).1, j_srf (j_new h 34 16) a 0 (h.1.length), (j_new h 34 16).2.2)).2.1, j_up (((j_new h 34 16).1, j_srf (j_new h 34 16) a 0 (h.1.length), (j_new h 34 16).2.2)).2.2 a 1 0)) = _
  exact S_ret rfl at_286_6
/-- the heap behind a builder's making, its cell being a -/
def nB (h : j_H) (a : Nat) : j_H := ((((j_new h 34 16).1, j_srf (j_new h 34 16) a 0 (h.1.length), (j_new h 34 16).2.2)).1, (((j_new h 34 16).1, j_srf (j_new h 34 16) a 0 (h.1.length), (j_new h 34 16).2.2)).2.1, j_up (((j_new h 34 16).1, j_srf (j_new h 34 16) a 0 (h.1.length), (j_new h 34 16).2.2)).2.2 a 1 0)
theorem rf_set {h : j_H} {a k q : Nat} {K : List (Nat × Nat)} {m : j_M0} (hr : k < (h.2.1.getD a []).length) : j_rf (K, j_srf h a k q, m) a k = some q := by
  have ha : a < h.2.1.length := by
    by_cases e : a < h.2.1.length
    · exact e
    · rw [List.getD_eq_getElem?_getD, List.getElem?_eq_none (by omega)] at hr
      exact absurd hr (Nat.not_lt_zero k)
  unfold j_rf j_srf
  rw [q_getD_set, if_pos ⟨rfl, ha⟩, List.getD_eq_getElem?_getD, List.getElem?_set_self hr]
  rfl
theorem rw_set {h : j_H} {a k q b : Nat} (hb : b ≠ a) : (j_srf h a k q).getD b [] = h.2.1.getD b [] := by
  unfold j_srf
  rw [q_getD_set, if_neg (fun e => hb e.1)]
theorem rw_new {h : j_H} {k n : Nat} (hw : h.2.1.length = h.1.length) : (j_new h k n).2.1.getD h.1.length [] = List.replicate (if k < 32 then n else if k = 36 then n else 0) none := by
  show (h.2.1 ++ _).getD h.1.length [] = _
  rw [List.getD_eq_getElem?_getD, List.getElem?_append_right (by omega), hw, Nat.sub_self]
  rfl
theorem rw_old {h : j_H} {k n a : Nat} (ha : a < h.2.1.length) : (j_new h k n).2.1.getD a [] = h.2.1.getD a [] := by
  show (h.2.1 ++ _).getD a [] = _
  rw [List.getD_eq_getElem?_getD, List.getD_eq_getElem?_getD, List.getElem?_append_left ha]
theorem j_new_l (h : j_H) (k n : Nat) : (j_new h k n).1.length = h.1.length + 1 := by
  show (h.1 ++ _).length = _
  rw [List.length_append]
  rfl
theorem j_new_w {h : j_H} {k n : Nat} (hw : h.2.1.length = h.1.length) : (j_new h k n).2.1.length = (j_new h k n).1.length := by
  show (h.2.1 ++ _).length = (h.1 ++ _).length
  rw [List.length_append, List.length_append, hw]
  rfl
/-- a builder newly made -/
theorem sB_new {h : j_H} (hw : h.2.1.length = h.1.length) (h2 : 2 ≤ h.1.length) (hl : h.1.length < 900000) : sB (nB (j_new h 1 4) h.1.length) h.1.length (h.1.length + 1) 16 [] ∧ xF (fun _ => False) 2 20 h (nB (j_new h 1 4) h.1.length) ∧ (nB (j_new h 1 4) h.1.length).1.length = h.1.length + 2 := by
  have l1 := j_new_l h 1 4
  have w1 := j_new_w (k := 1) (n := 4) hw
  have l2 := j_new_l (j_new h 1 4) 34 16
  have w2 := j_new_w (k := 34) (n := 16) w1
  have x1 : xF (fun a => a = h.1.length) 2 20 h (j_new (j_new h 1 4) 34 16) := xF_tr (xF_new (by omega)) (xF_new (by omega))
  refine ⟨⟨⟨kq_old1 (kq_new h 1 4), ?_, ?_⟩, ⟨?_, ?_⟩, ⟨Nat.zero_le _, by decide, by decide⟩, fun i hi => absurd hi (Nat.not_lt_zero i), fun i hi => ?_, ⟨(fun x hx => absurd hx (List.not_mem_nil)), by omega, by omega⟩⟩, ?_, ?_⟩
  · have := kq_new (j_new h 1 4) 34 16
    rw [l1] at this
    exact this
  · have e : (j_new (j_new h 1 4) 34 16).2.1.getD h.1.length [] = List.replicate 4 none := by
      rw [rw_old (by omega), rw_new hw]
      rfl
    have r := rf_set (h := j_new (j_new h 1 4) 34 16) (a := h.1.length) (k := 0) (q := (j_new h 1 4).1.length) (K := (nB (j_new h 1 4) h.1.length).1) (m := (nB (j_new h 1 4) h.1.length).2.2) (by rw [e]; decide)
    rw [← l1]
    exact r
  · show (if h.1.length = h.1.length then (if 1 = 1 then (0 : Int) else _) else _) = 0
    rw [if_pos rfl, if_pos rfl]
  · show (if h.1.length = h.1.length then (if 3 = 1 then (0 : Int) else (if h.1.length = (j_new h 1 4).1.length then 0 else (if h.1.length = h.1.length then 0 else h.2.2 h.1.length 3))) else _) = _
    rw [if_pos rfl, if_neg (by decide), if_neg (by omega), if_pos rfl]
    rfl
  · have e : (nB (j_new h 1 4) h.1.length).2.2 (h.1.length + 1) i = 0 := by
      show (if h.1.length + 1 = h.1.length then _ else (if h.1.length + 1 = (j_new h 1 4).1.length then 0 else _)) = _
      rw [if_neg (by omega), if_pos (by omega)]
    rw [e]
    decide
  · have x2 : xF (fun a => a = h.1.length) 2 20 h (nB (j_new h 1 4) h.1.length) := by
      obtain ⟨t1, t2, t3, t4⟩ := x1
      refine ⟨t1, ?_, fun a ha hn => ?_, fun a i ha hn => ?_⟩
      · show _ ≤ (j_srf _ _ _ _).length ∧ (_ → (j_srf _ _ _ _).length = _)
        unfold j_srf
        rw [List.length_set]
        exact t2
      · show (j_srf _ _ _ _).getD a [] = _
        rw [rw_set hn]
        exact t3 a ha hn
      · show (if a = h.1.length then _ else (j_new (j_new h 1 4) 34 16).2.2 a i) = _
        rw [if_neg hn]
        exact t4 a i ha hn
    exact xF_w x2 hw (fun a e => Or.inr ⟨by omega, by omega⟩) (Nat.le_refl _) (Nat.le_refl _)
  · show (j_new (j_new h 1 4) 34 16).1.length = _
    omega
