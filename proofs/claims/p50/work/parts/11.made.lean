/-! What is made; copies. -/
theorem s_ρ_last {b : Nat} {tt : Nat → Nat} {ws : va_W} {x : Nat × va_E} {k : Nat} (hk : k = ws.length + 2) : s_ρ b tt (ws ++ [x]) k = some x.1 := by
  subst hk
  rw [s_ρ_in (by simp)]
  show ((ws ++ [x]).map (fun q => q.1))[ws.length]? = some x.1
  simp
theorem j_rf_last {h : j_H} {k c i n : Nat} {m : j_M0} (hk : k = h.2.1.length) : j_rf (h.1 ++ [(c, n)], h.2.1 ++ [List.replicate i none], m) k = fun _ => none := by
  subst hk
  funext j
  unfold j_rf
  simp only [List.getD_eq_getElem?_getD]
  rw [List.getElem?_append_right (Nat.le_refl _), Nat.sub_self]
  simp only [List.getElem?_cons_zero, Option.getD_some, List.getElem?_replicate]
  split <;> rfl
theorem s_w_new {b : Nat} {tt : Nat → Nat} {L : Nat} {xs : Nat → Int32} {tys tys' : List (ClassId × FieldType)} {h : j_H} {ws : va_W} {x : Nat × va_E} {c n : Nat} (H : s_w b tt L xs tys h ws) (ht : ∀ q, q ∈ tys → q ∈ tys') (hn : n ≤ 100000) (hlt : h.1.length < 900000) (hc : s_cell tys' (s_ρ b tt (ws ++ [x])) (j_new h c n) h.1.length x.2) : s_w b tt L xs tys' (j_new h c n) (ws ++ [x]) := by
  refine s_w_app H ht ⟨_, rfl, rfl, fun q hq => by cases List.mem_singleton.mp hq; exact hn⟩ ⟨_, rfl, rfl⟩ (fun j hj i => ?_) (fun k q hq => ?_) (by show (h.1 ++ [(c, n)]).length ≤ _; rw [List.length_append, List.length_singleton]; omega) (fun a i g1 g2 => ?_)
  · show j_zero h.2.2 h.1.length j i = _
    unfold j_zero
    rw [if_neg (by omega)]
  · cases k with
    | zero => cases hq; exact hc
    | succ k => simp at hq
  · show j_zero h.2.2 h.1.length a i = _
    unfold j_zero
    rw [if_neg (by omega)]
    exact H.2.2.2.2.2.2.2 a i g1 g2
theorem s_hb {b : Nat} {tt : Nat → Nat} {L : Nat} {xs : Nat → Int32} {tys : List (ClassId × FieldType)} {h : j_H} {ws : va_W} (H : s_w b tt L xs tys h ws) (hlt : h.1.length < 900000) {x : Nat × va_E} : ws.length + [x].length + 2 ≤ 1000000 := by
  have := H.1
  rw [List.length_singleton]
  omega
theorem s_new_cnt {h : j_H} {c n : Nat} : (j_new h c n).1.length = h.1.length + 1 ∧ s_sl (j_new h c n) = s_sl h + n := by
  refine ⟨by simp [j_new], ?_⟩
  unfold s_sl j_new
  simp
theorem j_new_at {h : j_H} {c n : Nat} : (j_new h c n).1[h.1.length]? = some (c, n) := by
  show (h.1 ++ [(c, n)])[h.1.length]? = _
  simp
theorem j_new_z {h : j_H} {c n i : Nat} : (j_new h c n).2.2 h.1.length i = 0 := by
  show j_zero h.2.2 h.1.length h.1.length i = 0
  unfold j_zero
  rw [if_pos rfl]
theorem j_new_rf {b : Nat} {tt : Nat → Nat} {L : Nat} {xs : Nat → Int32} {tys : List (ClassId × FieldType)} {h : j_H} {ws : va_W} {c n i : Nat} (H : s_w b tt L xs tys h ws) : j_rf (j_new h c n) h.1.length i = none := congrFun (j_rf_last (H.1.trans H.2.1.symm)) i
section SN
variable {p : Program} {l : Launch} {e : Env} {R : Room} {s : State} {m : MethodId} {args : Array Value} {below : List Frame} {meth : Method} {c : Code} {Q : State → Prop} {D : va_G} {b : Nat} {tt : Nat → Nat} {L sb nL zc zs mc ms pc : Nat} {xs : Nat → Int32} {ρ0 : j_P} {q : j_M} {ls : j_L} {r : List j_V} {h : j_H}
theorem r_new (hC : s_C p s m args meth c R q b tt L sb xs nL) {ix c0 : Nat} {r0 : vw_C} (hr : vwCl[c0]? = some r0) (hcl : Cond.classLink (j_cnm q.2.2.2.2.1) ix r0.1 ∈ lwW) (hlt : h.1.length < 900000) (hcz : h.1.length + 1 ≤ zc) (hsz : s_sl h + r0.2.2 ≤ zs) (hRc : mc ≤ R.cells) (hRs : ms ≤ R.slots) (hdg : decode q.2.1 pc = .ok (.new ix, 3))
    (K : s_G D b tt L sb xs s ρ0 nL zc zs mc ms m (fun H locs cells slots g => W p l e R s m args below meth c H locs cells slots Q g) (pc + 3) ls (jR h.1.length :: r) (j_new h c0 r0.2.2)) : s_G D b tt L sb xs s ρ0 nL zc zs mc ms m (fun H locs cells slots g => W p l e R s m args below meth c H locs cells slots Q g) pc ls r h := by
  intro H locs cells slots ws tys lsR rl stR hS hx hl hv hst hc hs
  obtain ⟨z1, z2, z3, z4, z5, z6, z7, z8⟩ := s_cl hr
  have hRO := hC.2.2.2.2.2.2.2.2
  have hw := s_words hC
  have hlen : ((List.range r0.2.2).map (fun j => defaultValue (j_tf c0 j))).length = r0.2.2 := by simp
  refine va_new (ci := c0) (fs := (List.range r0.2.2).map (fun j => defaultValue (j_tf c0 j))) hC.1 hC.2.1 hw z1 (j_tf c0) z2 hC.2.2.2.1 (hw _ hcl) (hw _ z6) (hw _ z7) hS.2.2.1 hS.2.1 hS.2.2.2.1 hS.2.2.2.2 (fun q hq => Nat.le_trans hRO.2.2.2.2.2.2.2.2 hq) hr ?_ (by omega) (by omega) hdg (fun q1 H1 hP1 hD1 hS1 => ?_)
  · intro j hj
    unfold vp_V
    rw [List.getD_eq_getElem?_getD, List.getElem?_map, List.getElem?_range hj]
    rfl
  · have hlast : s_ρ b tt (ws ++ [(q1, .inr (c0, (List.range r0.2.2).map (fun j => defaultValue (j_tf c0 j))))]) (h.1.length) = some q1 := s_ρ_last hS.1.1
    obtain ⟨n1, n2⟩ := s_new_cnt (h := h) (c := c0) (n := r0.2.2)
    refine K H1 locs _ _ _ tys lsR rl (.ref q1 :: stR) ⟨s_w_new hS.1 (fun _ h => h) ?_ hlt ?_, hP1, hS.2.2.1, hD1, hS1⟩ (fun a q hq => s_ρ_app (s_hb hS.1 hlt) a q (hx a q hq)) (s_lo_mono (s_ρ_app (s_hb hS.1 hlt)) hl) hv ⟨⟨q1, rfl, hlast⟩, s_st_mono (s_ρ_app (s_hb hS.1 hlt)) hst⟩ (by rw [n1]; omega) (by rw [n2]; omega)
    · have h0 : j_clk c0 = true := List.all_eq_true.mp j_cl_ok c0 (List.mem_range.mpr (vwCl_lt hr))
      unfold j_clk at h0
      rw [hr] at h0
      simp only [Bool.and_eq_true] at h0
      have := of_decide_eq_true h0.2.2.2.2.2.2.2.2
      omega
    · refine ⟨r0, hr, j_new_at, hlen, fun j v hj => ?_⟩
      rw [List.getElem?_map] at hj
      have hjN : j < r0.2.2 := by
        rcases Nat.lt_or_ge j r0.2.2 with h1 | h1
        · exact h1
        · rw [List.getElem?_eq_none (by simpa using h1)] at hj
          cases hj
      rw [List.getElem?_range hjN] at hj
      cases hj
      change s_fld _ _ _ _ _ (defaultValue (j_tf c0 j))
      unfold s_fld
      rw [j_ty_tf, j_new_rf hS.1, j_new_z]
      rcases z4 j hjN with e1 | e1 | (e1 | e1) | ⟨n, e1⟩ | ⟨n, e1⟩ <;> rw [e1]
      · exact ⟨0, rfl, rfl⟩
      · exact ⟨0, rfl, rfl⟩
      · exact ⟨0, rfl, rfl⟩
      · exact ⟨0, rfl, rfl⟩
      · exact trivial
      · exact trivial
theorem r_newa_int (hC : s_C p s m args meth c R q b tt L sb xs nL) {n : Int} (hw0 : Cond.arrayClass .int ∈ lwW) (hn : 0 ≤ n ∧ n ≤ 100000) (hlt : h.1.length < 900000) (hcz : h.1.length + 1 ≤ zc) (hsz : s_sl h + n.toNat ≤ zs) (hRc : mc ≤ R.cells) (hRs : ms ≤ R.slots) (hdg : decode q.2.1 pc = .ok (.newarray .int, 2))
    (K : s_G D b tt L sb xs s ρ0 nL zc zs mc ms m (fun H locs cells slots g => W p l e R s m args below meth c H locs cells slots Q g) (pc + 2) ls (jR h.1.length :: r) (j_new h 32 n.toNat)) : s_G D b tt L sb xs s ρ0 nL zc zs mc ms m (fun H locs cells slots g => W p l e R s m args below meth c H locs cells slots Q g) pc ls (jI n :: r) h := by
  intro H locs cells slots ws tys lsR rl stR hS hx hl hv hst hc hs
  obtain ⟨w1, z, rfl, ⟨n1, rfl, e1⟩, hz⟩ := s_st1 hst
  have hRO := hC.2.2.2.2.2.2.2.2
  have hw := s_words hC
  have hk : n1.toNatClampNeg = n.toNat := by rw [← e1]; rfl
  have hb4 : n.toNat * componentBytes FieldType.int ≤ 536870912 := Nat.le_trans (Nat.mul_le_mul_right _ (show n.toNat ≤ 100000 by omega)) (by decide)
  refine va_newa (atype := .int) (N' := n.toNat) (a0 := (n.toNat, .inl (fun _ => 0))) hC.1 hC.2.1 (hw _ hw0) (ty := .int) rfl hS.2.2.1 hS.2.1 hS.2.2.2.1 hS.2.2.2.2 (fun q hq => Nat.le_trans hRO.2.2.2.2.2.2.2.2 hq) (fun _ => rfl) (fun h1 => ?_) hk hb4 (by omega) (by omega) hdg (fun q1 cA H1 hK1 hP1 hD1 hS1 => ?_)
  · have := Int32.lt_iff_toInt_lt.mp h1
    rw [e1] at this
    have h0 : (0 : Int32).toInt = 0 := rfl
    omega
  · obtain ⟨n1, n2⟩ := s_new_cnt (h := h) (c := 32) (n := n.toNat)
    have hcell : s_cell (tys ++ [(cA, FieldType.int)]) (s_ρ b tt (ws ++ [(q1, .inl (cA, n.toNat, .inl (fun _ => 0)))])) (j_new h 32 n.toNat) h.1.length (.inl (cA, n.toNat, .inl (fun _ => 0))) := ⟨32, j_new_at, Or.inl ⟨rfl, List.mem_append_right _ (List.mem_singleton.mpr rfl)⟩, fun i hi => j_new_z.symm⟩
    exact K H1 locs _ _ _ _ lsR rl (.ref q1 :: z) ⟨s_w_new hS.1 (fun _ h => List.mem_append_left _ h) (by omega) hlt hcell, hP1, hK1, hD1, hS1⟩ (fun a q hq => s_ρ_app (s_hb hS.1 hlt) a q (hx a q hq)) (s_lo_mono (s_ρ_app (s_hb hS.1 hlt)) hl) hv ⟨⟨q1, rfl, s_ρ_last hS.1.1⟩, s_st_mono (s_ρ_app (s_hb hS.1 hlt)) hz⟩ (by rw [n1]; omega) (by rw [n2]; omega)
theorem r_newa_long (hC : s_C p s m args meth c R q b tt L sb xs nL) {n : Int} (hw0 : Cond.arrayClass .long ∈ lwW) (hn : 0 ≤ n ∧ n ≤ 100000) (hlt : h.1.length < 900000) (hcz : h.1.length + 1 ≤ zc) (hsz : s_sl h + n.toNat ≤ zs) (hRc : mc ≤ R.cells) (hRs : ms ≤ R.slots) (hdg : decode q.2.1 pc = .ok (.newarray .long, 2))
    (K : s_G D b tt L sb xs s ρ0 nL zc zs mc ms m (fun H locs cells slots g => W p l e R s m args below meth c H locs cells slots Q g) (pc + 2) ls (jR h.1.length :: r) (j_new h 33 n.toNat)) : s_G D b tt L sb xs s ρ0 nL zc zs mc ms m (fun H locs cells slots g => W p l e R s m args below meth c H locs cells slots Q g) pc ls (jI n :: r) h := by
  intro H locs cells slots ws tys lsR rl stR hS hx hl hv hst hc hs
  obtain ⟨w1, z, rfl, ⟨n1, rfl, e1⟩, hz⟩ := s_st1 hst
  have hRO := hC.2.2.2.2.2.2.2.2
  have hw := s_words hC
  have hk : n1.toNatClampNeg = n.toNat := by rw [← e1]; rfl
  have hb4 : n.toNat * componentBytes FieldType.long ≤ 536870912 := Nat.le_trans (Nat.mul_le_mul_right _ (show n.toNat ≤ 100000 by omega)) (by decide)
  refine va_newa (atype := .long) (N' := n.toNat) (a0 := (n.toNat, .inr (.inl (fun _ => 0)))) hC.1 hC.2.1 (hw _ hw0) (ty := .long) rfl hS.2.2.1 hS.2.1 hS.2.2.2.1 hS.2.2.2.2 (fun q hq => Nat.le_trans hRO.2.2.2.2.2.2.2.2 hq) (fun _ => rfl) (fun h1 => ?_) hk hb4 (by omega) (by omega) hdg (fun q1 cA H1 hK1 hP1 hD1 hS1 => ?_)
  · have := Int32.lt_iff_toInt_lt.mp h1
    rw [e1] at this
    have h0 : (0 : Int32).toInt = 0 := rfl
    omega
  · obtain ⟨n1, n2⟩ := s_new_cnt (h := h) (c := 33) (n := n.toNat)
    have hcell : s_cell (tys ++ [(cA, FieldType.long)]) (s_ρ b tt (ws ++ [(q1, .inl (cA, n.toNat, .inr (.inl (fun _ => 0))))])) (j_new h 33 n.toNat) h.1.length (.inl (cA, n.toNat, .inr (.inl (fun _ => 0)))) := ⟨j_new_at, List.mem_append_right _ (List.mem_singleton.mpr rfl), fun i hi => j_new_z.symm⟩
    exact K H1 locs _ _ _ _ lsR rl (.ref q1 :: z) ⟨s_w_new hS.1 (fun _ h => List.mem_append_left _ h) (by omega) hlt hcell, hP1, hK1, hD1, hS1⟩ (fun a q hq => s_ρ_app (s_hb hS.1 hlt) a q (hx a q hq)) (s_lo_mono (s_ρ_app (s_hb hS.1 hlt)) hl) hv ⟨⟨q1, rfl, s_ρ_last hS.1.1⟩, s_st_mono (s_ρ_app (s_hb hS.1 hlt)) hz⟩ (by rw [n1]; omega) (by rw [n2]; omega)
theorem r_newa_byte (hC : s_C p s m args meth c R q b tt L sb xs nL) {n : Int} (hw0 : Cond.arrayClass .byte ∈ lwW) (hn : 0 ≤ n ∧ n ≤ 100000) (hlt : h.1.length < 900000) (hcz : h.1.length + 1 ≤ zc) (hsz : s_sl h + n.toNat ≤ zs) (hRc : mc ≤ R.cells) (hRs : ms ≤ R.slots) (hdg : decode q.2.1 pc = .ok (.newarray .byte, 2))
    (K : s_G D b tt L sb xs s ρ0 nL zc zs mc ms m (fun H locs cells slots g => W p l e R s m args below meth c H locs cells slots Q g) (pc + 2) ls (jR h.1.length :: r) (j_new h 34 n.toNat)) : s_G D b tt L sb xs s ρ0 nL zc zs mc ms m (fun H locs cells slots g => W p l e R s m args below meth c H locs cells slots Q g) pc ls (jI n :: r) h := by
  intro H locs cells slots ws tys lsR rl stR hS hx hl hv hst hc hs
  obtain ⟨w1, z, rfl, ⟨n1, rfl, e1⟩, hz⟩ := s_st1 hst
  have hRO := hC.2.2.2.2.2.2.2.2
  have hw := s_words hC
  have hk : n1.toNatClampNeg = n.toNat := by rw [← e1]; rfl
  have hb4 : n.toNat * componentBytes FieldType.byte ≤ 536870912 := Nat.le_trans (Nat.mul_le_mul_right _ (show n.toNat ≤ 100000 by omega)) (by decide)
  refine va_newa (atype := .byte) (N' := n.toNat) (a0 := (n.toNat, .inl (fun _ => 0))) hC.1 hC.2.1 (hw _ hw0) (ty := .byte) rfl hS.2.2.1 hS.2.1 hS.2.2.2.1 hS.2.2.2.2 (fun q hq => Nat.le_trans hRO.2.2.2.2.2.2.2.2 hq) (fun _ => rfl) (fun h1 => ?_) hk hb4 (by omega) (by omega) hdg (fun q1 cA H1 hK1 hP1 hD1 hS1 => ?_)
  · have := Int32.lt_iff_toInt_lt.mp h1
    rw [e1] at this
    have h0 : (0 : Int32).toInt = 0 := rfl
    omega
  · obtain ⟨n1, n2⟩ := s_new_cnt (h := h) (c := 34) (n := n.toNat)
    have hcell : s_cell (tys ++ [(cA, FieldType.byte)]) (s_ρ b tt (ws ++ [(q1, .inl (cA, n.toNat, .inl (fun _ => 0)))])) (j_new h 34 n.toNat) h.1.length (.inl (cA, n.toNat, .inl (fun _ => 0))) := ⟨34, j_new_at, Or.inr (Or.inl ⟨rfl, List.mem_append_right _ (List.mem_singleton.mpr rfl)⟩), fun i hi => j_new_z.symm⟩
    exact K H1 locs _ _ _ _ lsR rl (.ref q1 :: z) ⟨s_w_new hS.1 (fun _ h => List.mem_append_left _ h) (by omega) hlt hcell, hP1, hK1, hD1, hS1⟩ (fun a q hq => s_ρ_app (s_hb hS.1 hlt) a q (hx a q hq)) (s_lo_mono (s_ρ_app (s_hb hS.1 hlt)) hl) hv ⟨⟨q1, rfl, s_ρ_last hS.1.1⟩, s_st_mono (s_ρ_app (s_hb hS.1 hlt)) hz⟩ (by rw [n1]; omega) (by rw [n2]; omega)
theorem r_newa_boolean (hC : s_C p s m args meth c R q b tt L sb xs nL) {n : Int} (hw0 : Cond.arrayClass .boolean ∈ lwW) (hn : 0 ≤ n ∧ n ≤ 100000) (hlt : h.1.length < 900000) (hcz : h.1.length + 1 ≤ zc) (hsz : s_sl h + n.toNat ≤ zs) (hRc : mc ≤ R.cells) (hRs : ms ≤ R.slots) (hdg : decode q.2.1 pc = .ok (.newarray .boolean, 2))
    (K : s_G D b tt L sb xs s ρ0 nL zc zs mc ms m (fun H locs cells slots g => W p l e R s m args below meth c H locs cells slots Q g) (pc + 2) ls (jR h.1.length :: r) (j_new h 35 n.toNat)) : s_G D b tt L sb xs s ρ0 nL zc zs mc ms m (fun H locs cells slots g => W p l e R s m args below meth c H locs cells slots Q g) pc ls (jI n :: r) h := by
  intro H locs cells slots ws tys lsR rl stR hS hx hl hv hst hc hs
  obtain ⟨w1, z, rfl, ⟨n1, rfl, e1⟩, hz⟩ := s_st1 hst
  have hRO := hC.2.2.2.2.2.2.2.2
  have hw := s_words hC
  have hk : n1.toNatClampNeg = n.toNat := by rw [← e1]; rfl
  have hb4 : n.toNat * componentBytes FieldType.boolean ≤ 536870912 := Nat.le_trans (Nat.mul_le_mul_right _ (show n.toNat ≤ 100000 by omega)) (by decide)
  refine va_newa (atype := .boolean) (N' := n.toNat) (a0 := (n.toNat, .inl (fun _ => 0))) hC.1 hC.2.1 (hw _ hw0) (ty := .boolean) rfl hS.2.2.1 hS.2.1 hS.2.2.2.1 hS.2.2.2.2 (fun q hq => Nat.le_trans hRO.2.2.2.2.2.2.2.2 hq) (fun _ => rfl) (fun h1 => ?_) hk hb4 (by omega) (by omega) hdg (fun q1 cA H1 hK1 hP1 hD1 hS1 => ?_)
  · have := Int32.lt_iff_toInt_lt.mp h1
    rw [e1] at this
    have h0 : (0 : Int32).toInt = 0 := rfl
    omega
  · obtain ⟨n1, n2⟩ := s_new_cnt (h := h) (c := 35) (n := n.toNat)
    have hcell : s_cell (tys ++ [(cA, FieldType.boolean)]) (s_ρ b tt (ws ++ [(q1, .inl (cA, n.toNat, .inl (fun _ => 0)))])) (j_new h 35 n.toNat) h.1.length (.inl (cA, n.toNat, .inl (fun _ => 0))) := ⟨35, j_new_at, Or.inr (Or.inr ⟨rfl, List.mem_append_right _ (List.mem_singleton.mpr rfl)⟩), fun i hi => j_new_z.symm⟩
    exact K H1 locs _ _ _ _ lsR rl (.ref q1 :: z) ⟨s_w_new hS.1 (fun _ h => List.mem_append_left _ h) (by omega) hlt hcell, hP1, hK1, hD1, hS1⟩ (fun a q hq => s_ρ_app (s_hb hS.1 hlt) a q (hx a q hq)) (s_lo_mono (s_ρ_app (s_hb hS.1 hlt)) hl) hv ⟨⟨q1, rfl, s_ρ_last hS.1.1⟩, s_st_mono (s_ρ_app (s_hb hS.1 hlt)) hz⟩ (by rw [n1]; omega) (by rw [n2]; omega)
theorem r_cpy_int (hC : s_C p s m args meth c R q b tt L sb xs nL) {ix a0 b0 n0 n1 : Nat} {sp dp n : Int} (hw0 : Cond.methodLink (j_cnm q.2.2.2.2.1) ix arraycopyName ∈ lwW) (hnat : Cond.native arraycopyName ∈ lwW) (hstt : Cond.static arraycopyName ∈ lwW) (hini : Cond.initialized "java/lang/System" ∈ lwW) (ha2 : 2 ≤ a0) (hb2 : 2 ≤ b0) (hA : h.1[a0]? = some (32, n0)) (hB : h.1[b0]? = some (32, n1)) (hi : 0 ≤ n ∧ 0 ≤ sp ∧ 0 ≤ dp ∧ sp + n ≤ n0 ∧ dp + n ≤ n1) (hcat : (r.map j_cat).sum ≤ 8) (hdg : decode q.2.1 pc = .ok (.invokestatic ix, 3))
    (K : s_G D b tt L sb xs s ρ0 nL zc zs mc ms m (fun H locs cells slots g => W p l e R s m args below meth c H locs cells slots Q g) (pc + 3) ls r (h.1, h.2.1, j_cpy h.2.2 a0 sp.toNat b0 dp.toNat n.toNat)) : s_G D b tt L sb xs s ρ0 nL zc zs mc ms m (fun H locs cells slots g => W p l e R s m args below meth c H locs cells slots Q g) pc ls (jI n :: jI dp :: jR b0 :: jI sp :: jR a0 :: r) h := by
  intro H locs cells slots ws tys lsR rl stR hS hx hl hv hst hc hs
  obtain ⟨w1, w2, w3, w4, z, rfl, ⟨m1, rfl, e1⟩, ⟨m2, rfl, e2⟩, ⟨q1, rfl, hq1⟩, ⟨m3, rfl, e3⟩, hz⟩ := s_st4 hst
  obtain ⟨w5, z2, rfl, ⟨q0, rfl, hq0⟩, hz2⟩ := s_st1 hz
  have hw := s_words hC
  have k1 : m1.toNatClampNeg = n.toNat := by rw [← e1]; rfl
  have k2 : m2.toNatClampNeg = dp.toNat := by rw [← e2]; rfl
  have k3 : m3.toNatClampNeg = sp.toNat := by rw [← e3]; rfl
  have neg : ∀ (x : Int32) (y : Int), x.toInt = y → 0 ≤ y → ¬ x < 0 := fun x y hxy hy h1 => by
    have := Int32.lt_iff_toInt_lt.mp h1
    have h0 : (0 : Int32).toInt = 0 := rfl
    omega
  obtain ⟨ka, cA, f, rfl, hwa, hta, hfa⟩ := s_w_int hS.1 hA ha2 (Or.inl rfl) hq0
  obtain ⟨kb, cB, g, rfl, hwb, htb, hfb⟩ := s_w_int hS.1 hB hb2 (Or.inl rfl) hq1
  have hta : (cA, FieldType.int) ∈ tys := by rcases hta with h | h | h <;> first | exact h.2 | (exact absurd h.1 (by decide))
  have htb : (cB, FieldType.int) ∈ tys := by rcases htb with h | h | h <;> first | exact h.2 | (exact absurd h.1 (by decide))
  obtain ⟨t0, ht0⟩ := List.getElem?_of_mem hta
  obtain ⟨t1, ht1⟩ := List.getElem?_of_mem htb
  have hcell : s_cell tys (s_ρ b tt ws) (h.1, h.2.1, j_cpy h.2.2 (ka + 2) sp.toNat (kb + 2) dp.toNat n.toNat) (kb + 2) (.inl (cB, n1, .inl (va_cpy f g m3.toNatClampNeg m2.toNatClampNeg m1.toNatClampNeg))) := by
    refine ⟨32, hB, Or.inl ⟨rfl, htb⟩, fun j hj => ?_⟩
    show (va_cpy f g m3.toNatClampNeg m2.toNatClampNeg m1.toNatClampNeg j).toInt = j_cpy h.2.2 (ka + 2) sp.toNat (kb + 2) dp.toNat n.toNat (kb + 2) j
    unfold va_cpy j_cpy
    rw [if_pos rfl, k1, k2, k3]
    split
    · exact hfa _ (by omega)
    · exact hfb _ hj
  refine va_copyi hC.1 hC.2.1 (hC.2.2.1.trans hv.1.symm) hC.2.2.2.1 (hw _ hw0) (hw _ hnat) (hw _ hstt) (hw _ hini) hS.2.2.1 hS.2.1 hS.2.2.2.1 hS.2.2.2.2 ka kb t0 t1 hwa hwb ht0 ht1 rfl (neg _ _ e3 hi.2.1) (neg _ _ e2 hi.2.2.1) (neg _ _ e1 hi.1) (by omega) (by omega) (fun _ _ => rfl) hC.2.2.2.2.2.2.2.1 ?_ hdg (fun H1 locs1 hP1 hD1 hS1 => ?_)
  · have h8 := s_st_cat hz2
    have h40 := hC.2.2.2.2.2.2.1
    have hnf : nativeFrameWords "java/lang/System" "arraycopy" 5 = 7 := by decide +kernel
    omega
  · refine K H1 locs1 cells slots _ tys lsR rl z2 ⟨s_w_upd hS.1 hwb rfl rfl (fun j hj => ⟨fun i2 => ?_, fun _ => rfl⟩) hcell, hP1, hS.2.2.1, hD1, hS1⟩ (by rw [s_ρ_set hwb]; exact hx) (by rw [s_ρ_set hwb]; exact hl) hv (by rw [s_ρ_set hwb]; exact hz2) hc hs
    show j_cpy h.2.2 (ka + 2) sp.toNat (kb + 2) dp.toNat n.toNat j i2 = h.2.2 j i2
    unfold j_cpy
    rw [if_neg hj]
theorem r_cpy_long (hC : s_C p s m args meth c R q b tt L sb xs nL) {ix a0 b0 n0 n1 : Nat} {sp dp n : Int} (hw0 : Cond.methodLink (j_cnm q.2.2.2.2.1) ix arraycopyName ∈ lwW) (hnat : Cond.native arraycopyName ∈ lwW) (hstt : Cond.static arraycopyName ∈ lwW) (hini : Cond.initialized "java/lang/System" ∈ lwW) (ha2 : 2 ≤ a0) (hb2 : 2 ≤ b0) (hA : h.1[a0]? = some (33, n0)) (hB : h.1[b0]? = some (33, n1)) (hi : 0 ≤ n ∧ 0 ≤ sp ∧ 0 ≤ dp ∧ sp + n ≤ n0 ∧ dp + n ≤ n1) (hcat : (r.map j_cat).sum ≤ 8) (hdg : decode q.2.1 pc = .ok (.invokestatic ix, 3))
    (K : s_G D b tt L sb xs s ρ0 nL zc zs mc ms m (fun H locs cells slots g => W p l e R s m args below meth c H locs cells slots Q g) (pc + 3) ls r (h.1, h.2.1, j_cpy h.2.2 a0 sp.toNat b0 dp.toNat n.toNat)) : s_G D b tt L sb xs s ρ0 nL zc zs mc ms m (fun H locs cells slots g => W p l e R s m args below meth c H locs cells slots Q g) pc ls (jI n :: jI dp :: jR b0 :: jI sp :: jR a0 :: r) h := by
  intro H locs cells slots ws tys lsR rl stR hS hx hl hv hst hc hs
  obtain ⟨w1, w2, w3, w4, z, rfl, ⟨m1, rfl, e1⟩, ⟨m2, rfl, e2⟩, ⟨q1, rfl, hq1⟩, ⟨m3, rfl, e3⟩, hz⟩ := s_st4 hst
  obtain ⟨w5, z2, rfl, ⟨q0, rfl, hq0⟩, hz2⟩ := s_st1 hz
  have hw := s_words hC
  have k1 : m1.toNatClampNeg = n.toNat := by rw [← e1]; rfl
  have k2 : m2.toNatClampNeg = dp.toNat := by rw [← e2]; rfl
  have k3 : m3.toNatClampNeg = sp.toNat := by rw [← e3]; rfl
  have neg : ∀ (x : Int32) (y : Int), x.toInt = y → 0 ≤ y → ¬ x < 0 := fun x y hxy hy h1 => by
    have := Int32.lt_iff_toInt_lt.mp h1
    have h0 : (0 : Int32).toInt = 0 := rfl
    omega
  obtain ⟨ka, cA, f, rfl, hwa, hta, hfa⟩ := s_w_long hS.1 hA hq0
  obtain ⟨kb, cB, g, rfl, hwb, htb, hfb⟩ := s_w_long hS.1 hB hq1
  obtain ⟨t0, ht0⟩ := List.getElem?_of_mem hta
  obtain ⟨t1, ht1⟩ := List.getElem?_of_mem htb
  have hcell : s_cell tys (s_ρ b tt ws) (h.1, h.2.1, j_cpy h.2.2 (ka + 2) sp.toNat (kb + 2) dp.toNat n.toNat) (kb + 2) (.inl (cB, n1, .inr (.inl (va_cpy f g m3.toNatClampNeg m2.toNatClampNeg m1.toNatClampNeg)))) := by
    refine ⟨hB, htb, fun j hj => ?_⟩
    show (va_cpy f g m3.toNatClampNeg m2.toNatClampNeg m1.toNatClampNeg j).toInt = j_cpy h.2.2 (ka + 2) sp.toNat (kb + 2) dp.toNat n.toNat (kb + 2) j
    unfold va_cpy j_cpy
    rw [if_pos rfl, k1, k2, k3]
    split
    · exact hfa _ (by omega)
    · exact hfb _ hj
  refine va_copyl hC.1 hC.2.1 (hC.2.2.1.trans hv.1.symm) hC.2.2.2.1 (hw _ hw0) (hw _ hnat) (hw _ hstt) (hw _ hini) hS.2.2.1 hS.2.1 hS.2.2.2.1 hS.2.2.2.2 ka kb t0 t1 hwa hwb ht0 ht1 rfl (neg _ _ e3 hi.2.1) (neg _ _ e2 hi.2.2.1) (neg _ _ e1 hi.1) (by omega) (by omega) (fun _ _ => rfl) hC.2.2.2.2.2.2.2.1 ?_ hdg (fun H1 locs1 hP1 hD1 hS1 => ?_)
  · have h8 := s_st_cat hz2
    have h40 := hC.2.2.2.2.2.2.1
    have hnf : nativeFrameWords "java/lang/System" "arraycopy" 5 = 7 := by decide +kernel
    omega
  · refine K H1 locs1 cells slots _ tys lsR rl z2 ⟨s_w_upd hS.1 hwb rfl rfl (fun j hj => ⟨fun i2 => ?_, fun _ => rfl⟩) hcell, hP1, hS.2.2.1, hD1, hS1⟩ (by rw [s_ρ_set hwb]; exact hx) (by rw [s_ρ_set hwb]; exact hl) hv (by rw [s_ρ_set hwb]; exact hz2) hc hs
    show j_cpy h.2.2 (ka + 2) sp.toNat (kb + 2) dp.toNat n.toNat j i2 = h.2.2 j i2
    unfold j_cpy
    rw [if_neg hj]
theorem s_fitb {v : Int32} (h : -128 ≤ v.toInt ∧ v.toInt ≤ 127) : fits .byte (.int v) = true := by
  show (decide ((-128 : Int32) ≤ v) && decide (v ≤ (127 : Int32))) = true
  rw [Bool.and_eq_true, decide_eq_true_iff, decide_eq_true_iff, Int32.le_iff_toInt_le, Int32.le_iff_toInt_le]
  exact h
theorem r_cpy_byte (hC : s_C p s m args meth c R q b tt L sb xs nL) {ix a0 b0 n0 n1 : Nat} {sp dp n : Int} (hw0 : Cond.methodLink (j_cnm q.2.2.2.2.1) ix arraycopyName ∈ lwW) (hnat : Cond.native arraycopyName ∈ lwW) (hstt : Cond.static arraycopyName ∈ lwW) (hini : Cond.initialized "java/lang/System" ∈ lwW) (ha2 : 2 ≤ a0) (hb2 : 2 ≤ b0) (hA0 : j_kd h a0 = some (34, n0)) (hB : h.1[b0]? = some (34, n1)) (hbt : j_byt h.2.2 a0 sp.toNat n.toNat = true) (hi : 0 ≤ n ∧ 0 ≤ sp ∧ 0 ≤ dp ∧ sp + n ≤ n0 ∧ dp + n ≤ n1) (hcat : (r.map j_cat).sum ≤ 8) (hdg : decode q.2.1 pc = .ok (.invokestatic ix, 3))
    (K : s_G D b tt L sb xs s ρ0 nL zc zs mc ms m (fun H locs cells slots g => W p l e R s m args below meth c H locs cells slots Q g) (pc + 3) ls r (h.1, h.2.1, j_cpy h.2.2 a0 sp.toNat b0 dp.toNat n.toNat)) : s_G D b tt L sb xs s ρ0 nL zc zs mc ms m (fun H locs cells slots g => W p l e R s m args below meth c H locs cells slots Q g) pc ls (jI n :: jI dp :: jR b0 :: jI sp :: jR a0 :: r) h := by
  intro H locs cells slots ws tys lsR rl stR hS hx hl hv hst hc hs
  obtain ⟨w1, w2, w3, w4, z, rfl, ⟨m1, rfl, e1⟩, ⟨m2, rfl, e2⟩, ⟨q1, rfl, hq1⟩, ⟨m3, rfl, e3⟩, hz⟩ := s_st4 hst
  obtain ⟨w5, z2, rfl, ⟨q0, rfl, hq0⟩, hz2⟩ := s_st1 hz
  have hw := s_words hC
  have k1 : m1.toNatClampNeg = n.toNat := by rw [← e1]; rfl
  have k2 : m2.toNatClampNeg = dp.toNat := by rw [← e2]; rfl
  have k3 : m3.toNatClampNeg = sp.toNat := by rw [← e3]; rfl
  have neg : ∀ (x : Int32) (y : Int), x.toInt = y → 0 ≤ y → ¬ x < 0 := fun x y hxy hy h1 => by
    have := Int32.lt_iff_toInt_lt.mp h1
    have h0 : (0 : Int32).toInt = 0 := rfl
    omega
  have hRO := hC.2.2.2.2.2.2.2.2
  have hby : ∀ i, i < n.toNat → -128 ≤ h.2.2 a0 (sp.toNat + i) ∧ h.2.2 a0 (sp.toNat + i) ≤ 127 := fun i hi3 => by
    unfold j_byt at hbt
    exact of_decide_eq_true (List.all_eq_true.mp hbt i (List.mem_range.mpr hi3))
  rcases s_kd hA0 with hA | ⟨hA, hkc⟩
  · obtain ⟨ka, cA, f, rfl, hwa, hta, hfa⟩ := s_w_int hS.1 hA ha2 (Or.inr (Or.inl rfl)) hq0
    obtain ⟨kb, cB, g, rfl, hwb, htb, hfb⟩ := s_w_int hS.1 hB hb2 (Or.inr (Or.inl rfl)) hq1
    have hta : (cA, FieldType.byte) ∈ tys := by rcases hta with h | h | h <;> first | exact h.2 | (exact absurd h.1 (by decide))
    have htb : (cB, FieldType.byte) ∈ tys := by rcases htb with h | h | h <;> first | exact h.2 | (exact absurd h.1 (by decide))
    obtain ⟨t0, ht0⟩ := List.getElem?_of_mem hta
    obtain ⟨t1, ht1⟩ := List.getElem?_of_mem htb
    have hcell : s_cell tys (s_ρ b tt ws) (h.1, h.2.1, j_cpy h.2.2 (ka + 2) sp.toNat (kb + 2) dp.toNat n.toNat) (kb + 2) (.inl (cB, n1, .inl (va_cpy f g m3.toNatClampNeg m2.toNatClampNeg m1.toNatClampNeg))) := by
      refine ⟨34, hB, Or.inr (Or.inl ⟨rfl, htb⟩), fun j hj => ?_⟩
      show (va_cpy f g m3.toNatClampNeg m2.toNatClampNeg m1.toNatClampNeg j).toInt = j_cpy h.2.2 (ka + 2) sp.toNat (kb + 2) dp.toNat n.toNat (kb + 2) j
      unfold va_cpy j_cpy
      rw [if_pos rfl, k1, k2, k3]
      split
      · exact hfa _ (by omega)
      · exact hfb _ hj
    refine va_copyi hC.1 hC.2.1 (hC.2.2.1.trans hv.1.symm) hC.2.2.2.1 (hw _ hw0) (hw _ hnat) (hw _ hstt) (hw _ hini) hS.2.2.1 hS.2.1 hS.2.2.2.1 hS.2.2.2.2 ka kb t0 t1 hwa hwb ht0 ht1 rfl (neg _ _ e3 hi.2.1) (neg _ _ e2 hi.2.2.1) (neg _ _ e1 hi.1) (by omega) (by omega) (fun i hi3 => s_fitb (by rw [hfa _ (by omega), k3]; exact (hby i (by omega)))) hC.2.2.2.2.2.2.2.1 ?_ hdg (fun H1 locs1 hP1 hD1 hS1 => ?_)
    · have h8 := s_st_cat hz2
      have h40 := hC.2.2.2.2.2.2.1
      have hnf : nativeFrameWords "java/lang/System" "arraycopy" 5 = 7 := by decide +kernel
      omega
    · refine K H1 locs1 cells slots _ tys lsR rl z2 ⟨s_w_upd hS.1 hwb rfl rfl (fun j hj => ⟨fun i2 => ?_, fun _ => rfl⟩) hcell, hP1, hS.2.2.1, hD1, hS1⟩ (by rw [s_ρ_set hwb]; exact hx) (by rw [s_ρ_set hwb]; exact hl) hv (by rw [s_ρ_set hwb]; exact hz2) hc hs
      show j_cpy h.2.2 (ka + 2) sp.toNat (kb + 2) dp.toNat n.toNat j i2 = h.2.2 j i2
      unfold j_cpy
      rw [if_neg hj]
  · obtain ⟨hak, rfl, hm⟩ := s_w_k hS.1 hA hq0
    have hN0 : n0 ≤ 100 := by
      obtain ⟨i0, hi0, rfl⟩ := s_kc_in hkc
      rcases s_kc_all i0 hi0 _ _ hkc with h1 | h1 <;> omega
    have hfa : ∀ i, i < n0 → (Int32.ofInt (s_kb a0 i)).toInt = h.2.2 a0 i := fun i hi3 => by rw [hm]; exact s_kb_i _ _ (by omega)
    obtain ⟨kb, cB, g, rfl, hwb, htb, hfb⟩ := s_w_int hS.1 hB hb2 (Or.inr (Or.inl rfl)) hq1
    have htb : (cB, FieldType.byte) ∈ tys := by rcases htb with h | h | h <;> first | exact h.2 | (exact absurd h.1 (by decide))
    obtain ⟨t1, ht1⟩ := List.getElem?_of_mem htb
    have hcell : s_cell tys (s_ρ b tt ws) (h.1, h.2.1, j_cpy h.2.2 a0 sp.toNat (kb + 2) dp.toNat n.toNat) (kb + 2) (.inl (cB, n1, .inl (va_cpy (fun j => Int32.ofInt (s_kb a0 j)) g m3.toNatClampNeg m2.toNatClampNeg m1.toNatClampNeg))) := by
      refine ⟨34, hB, Or.inr (Or.inl ⟨rfl, htb⟩), fun j hj => ?_⟩
      show (va_cpy (fun j => Int32.ofInt (s_kb a0 j)) g m3.toNatClampNeg m2.toNatClampNeg m1.toNatClampNeg j).toInt = j_cpy h.2.2 a0 sp.toNat (kb + 2) dp.toNat n.toNat (kb + 2) j
      unfold va_cpy j_cpy
      rw [if_pos rfl, k1, k2, k3]
      split
      · exact hfa _ (by omega)
      · exact hfb _ hj
    refine vk_copyt hC.1 hC.2.1 (hC.2.2.1.trans hv.1.symm) hC.2.2.2.1 (hw _ hw0) (hw _ hnat) (hw _ hstt) (hw _ hini) hS.2.2.1 hS.2.1 hS.2.2.2.1 hS.2.2.2.2 (hRO.2.2.2.2.2.2.2.1.2.2.2.2.1 _ _ hkc) kb t1 hwb ht1 (neg _ _ e3 hi.2.1) (neg _ _ e2 hi.2.2.1) (neg _ _ e1 hi.1) (by omega) (by omega) (fun i hi3 => s_fitb (by rw [hfa _ (by omega), k3]; exact (hby i (by omega)))) hC.2.2.2.2.2.2.2.1 ?_ hdg (fun H1 locs1 hP1 hD1 hS1 => ?_)
    · have h8 := s_st_cat hz2
      have h40 := hC.2.2.2.2.2.2.1
      have hnf : nativeFrameWords "java/lang/System" "arraycopy" 5 = 7 := by decide +kernel
      omega
    · refine K H1 locs1 cells slots _ tys lsR rl z2 ⟨s_w_upd hS.1 hwb rfl rfl (fun j hj => ⟨fun i2 => ?_, fun _ => rfl⟩) hcell, hP1, hS.2.2.1, hD1, hS1⟩ (by rw [s_ρ_set hwb]; exact hx) (by rw [s_ρ_set hwb]; exact hl) hv (by rw [s_ρ_set hwb]; exact hz2) hc hs
      show j_cpy h.2.2 a0 sp.toNat (kb + 2) dp.toNat n.toNat j i2 = h.2.2 j i2
      unfold j_cpy
      rw [if_neg hj]
theorem r_castB (hC : s_C p s m args meth c R q b tt L sb xs nL) {a N ix : Nat} (hA : h.1[a]? = some (34, N)) (hlk : Cond.classLink (j_cnm q.2.2.2.2.1) ix "[B" ∈ lwW) (hdg : decode q.2.1 pc = .ok (.checkcast ix, 3))
    (K : s_G D b tt L sb xs s ρ0 nL zc zs mc ms m (fun H locs cells slots g => W p l e R s m args below meth c H locs cells slots Q g) (pc + 3) ls (jR a :: r) h) : s_G D b tt L sb xs s ρ0 nL zc zs mc ms m (fun H locs cells slots g => W p l e R s m args below meth c H locs cells slots Q g) pc ls (jR a :: r) h := by
  intro H locs cells slots ws tys lsR rl stR hS hx hl hv hst hc hs
  have hst0 := hst
  obtain ⟨w1, z, rfl, ⟨q1, rfl, hq⟩, hz⟩ := s_st1 hst
  obtain ⟨k, cA, f, rfl, hw, ht, hf⟩ := s_w_int hS.1 hA (s_w_two hS.1 hA (by omega)) (Or.inr (Or.inl rfl)) hq
  have ht : (cA, FieldType.byte) ∈ tys := by rcases ht with h | h | h <;> first | exact h.2 | (exact absurd h.1 (by decide))
  obtain ⟨t0, ht0⟩ := List.getElem?_of_mem ht
  exact va_castA hC.1 hC.2.1 hC.2.2.2.1 (s_words hC _ hlk) hS.2.1 k hw (hS.2.2.1.2 t0 _ ht0).2 hdg (K _ _ _ _ _ _ _ _ _ hS hx hl hv hst0 hc hs)
theorem r_clone (hC : s_C p s m args meth c R q b tt L sb xs nL) {a N ix : Nat} (hA : h.1[a]? = some (34, N)) (hbt : j_byt h.2.2 a 0 N = true) (hlt : h.1.length < 900000) (hcat : (r.map j_cat).sum ≤ 8) (m1 : Cond.methodLink (j_cnm q.2.2.2.2.1) ix ⟨"[B", "clone", "()Ljava/lang/Object;"⟩ ∈ lwW) (m2 : Cond.sameMethod "[B" "java/lang/Object" "clone" "()Ljava/lang/Object;" ∈ lwW) (m3 : Cond.native ⟨"java/lang/Object", "clone", "()Ljava/lang/Object;"⟩ ∈ lwW) (m4 : Cond.instanceMethod ⟨"java/lang/Object", "clone", "()Ljava/lang/Object;"⟩ ∈ lwW) (m5 : Cond.selects "[B" ⟨"[B", "clone", "()Ljava/lang/Object;"⟩ ⟨"java/lang/Object", "clone", "()Ljava/lang/Object;"⟩ ∈ lwW) (hcz : h.1.length + 1 ≤ zc) (hsz : s_sl h + N ≤ zs) (hRc : mc ≤ R.cells) (hRs : ms ≤ R.slots) (hdg : decode q.2.1 pc = .ok (.invokevirtual ix, 3))
    (K : s_G D b tt L sb xs s ρ0 nL zc zs mc ms m (fun H locs cells slots g => W p l e R s m args below meth c H locs cells slots Q g) (pc + 3) ls (jR h.1.length :: r) (j_cln h a N)) : s_G D b tt L sb xs s ρ0 nL zc zs mc ms m (fun H locs cells slots g => W p l e R s m args below meth c H locs cells slots Q g) pc ls (jR a :: r) h := by
  intro H locs cells slots ws tys lsR rl stR hS hx hl hv hst hc hs
  obtain ⟨w1, z, rfl, ⟨q1, rfl, hq⟩, hz⟩ := s_st1 hst
  have hRO := hC.2.2.2.2.2.2.2.2
  have hw := s_words hC
  obtain ⟨k, cA, f, rfl, hwk, ht, hf⟩ := s_w_int hS.1 hA (s_w_two hS.1 hA (by omega)) (Or.inr (Or.inl rfl)) hq
  have ht : (cA, FieldType.byte) ∈ tys := by rcases ht with h | h | h <;> first | exact h.2 | (exact absurd h.1 (by decide))
  obtain ⟨t0, ht0⟩ := List.getElem?_of_mem ht
  have hlk : k + 2 < h.1.length := (List.getElem?_eq_some_iff.mp hA).1
  have hN := s_big hS.1 hA
  have hby : ∀ i, i < N → -128 ≤ h.2.2 (k + 2) i ∧ h.2.2 (k + 2) i ≤ 127 := fun i hi3 => by
    unfold j_byt at hbt
    have h1 := of_decide_eq_true (List.all_eq_true.mp hbt i (List.mem_range.mpr hi3))
    rw [Nat.zero_add] at h1
    exact h1
  refine va_clone hC.1 hC.2.1 (hC.2.2.1.trans hv.1.symm) hC.2.2.2.1 (hw _ m1) (hw _ m2) (hw _ m3) (hw _ m4) (hw _ m5) hRO.2.2.2.2.2.2.2.1.2.2.2.2.2.2.2.1 hS.2.2.1 hS.2.1 hS.2.2.2.1 hS.2.2.2.2 (fun q hq => Nat.le_trans hRO.2.2.2.2.2.2.2.2 hq) k t0 hwk ht0 (hS.2.2.1.2 t0 _ ht0).2 (fun i v hiv => ?_) hC.2.2.2.2.2.2.2.1 ?_ (by omega) (by show slots + N ≤ _; omega) hdg (fun q2 H1 hK1 hP1 hD1 hS1 => ?_)
  · have hiv : (arrV cA N (fun j => .int (f j))).slots[i]? = some v := hiv
    have hi : i < N := by
      have h1 := (Array.getElem?_eq_some_iff.mp hiv).1
      rw [arrV_size] at h1
      exact h1
    rw [arrV_read _ _ hi] at hiv
    cases hiv
    exact s_fitb (by rw [hf i hi]; exact hby i hi)
  · have h8 := s_st_cat hz
    have h40 := hC.2.2.2.2.2.2.1
    omega
  · have hm2 : ∀ i, i < N → (j_cln h (k + 2) N).2.2 h.1.length i = h.2.2 (k + 2) i := fun i hi => by
      show (if h.1.length = h.1.length then (if 0 ≤ i ∧ i < 0 + N then j_zero h.2.2 h.1.length (k + 2) (0 + (i - 0)) else _) else _) = _
      rw [if_pos rfl, if_pos (by omega), Nat.zero_add, Nat.sub_zero]
      unfold j_zero
      rw [if_neg (by omega)]
    have hmo : ∀ j, j ≠ h.1.length → ∀ i, (j_cln h (k + 2) N).2.2 j i = h.2.2 j i := fun j hj i => by
      show (if j = h.1.length then _ else j_zero h.2.2 h.1.length j i) = _
      rw [if_neg hj]
      unfold j_zero
      rw [if_neg hj]
    have hcell : s_cell (tys ++ [(cA, FieldType.byte)]) (s_ρ b tt (ws ++ [(q2, .inl (cA, N, .inl f))])) (j_cln h (k + 2) N) h.1.length (.inl (cA, N, .inl f)) := by
      refine ⟨34, ?_, Or.inr (Or.inl ⟨rfl, List.mem_append_left _ ht⟩), fun i hi => by rw [hm2 i hi]; exact hf i hi⟩
      show (h.1 ++ [(34, N)])[h.1.length]? = _
      simp
    have hW : s_w b tt L xs (tys ++ [(cA, FieldType.byte)]) (j_cln h (k + 2) N) (ws ++ [(q2, .inl (cA, N, .inl f))]) := by
      refine s_w_app hS.1 (fun _ h => List.mem_append_left _ h) ⟨_, rfl, rfl, fun q hq => by cases List.mem_singleton.mp hq; exact hN⟩ ⟨_, rfl, rfl⟩ (fun j hj i => hmo j (by omega) i) (fun k2 q hq => ?_) (by show (h.1 ++ [(34, N)]).length ≤ _; rw [List.length_append, List.length_singleton]; omega) (fun a i g1 g2 => (hmo a (by omega) i).trans (hS.1.2.2.2.2.2.2.2 a i g1 g2))
      cases k2 with
      | zero => cases hq; exact hcell
      | succ k2 => simp at hq
    have c1 : (j_cln h (k + 2) N).1.length = h.1.length + 1 := by
      show (h.1 ++ [(34, N)]).length = _
      simp
    have c2 : s_sl (j_cln h (k + 2) N) = s_sl h + N := by
      unfold s_sl j_cln
      simp
    exact K H1 locs _ _ _ _ lsR rl (.ref q2 :: z) ⟨hW, hP1, hK1, hD1, hS1⟩ (fun a q hq => s_ρ_app (s_hb hS.1 hlt) a q (hx a q hq)) (s_lo_mono (s_ρ_app (s_hb hS.1 hlt)) hl) hv ⟨⟨q2, rfl, s_ρ_last hS.1.1⟩, s_st_mono (s_ρ_app (s_hb hS.1 hlt)) hz⟩ (by rw [c1]; omega) (by rw [c2]; show slots + N + zs = _; omega)
end SN
