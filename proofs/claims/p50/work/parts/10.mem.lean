/-! Rows of memory: elements, fields, what is made. -/
theorem j_w_mem {k : Nat} {w : Cond} (h : j_w k w = true) : w ∈ lwW := by
  unfold j_w at h
  rw [Bool.and_eq_true] at h
  exact List.mem_filter.mpr ⟨List.mem_of_getElem? (of_decide_eq_true h.1), h.2⟩
theorem j_any_mem {w : Cond} (h : lw_tb2.any (fun v => decide (v = w)) = true) : w ∈ lw_tb2 := by
  obtain ⟨v, h1, h2⟩ := List.any_eq_true.mp h
  exact of_decide_eq_true h2 ▸ h1
theorem j_has_mem {w : Cond} (h : j_has w = true) : w ∈ lwW := by
  unfold j_has at h
  rw [Bool.and_eq_true] at h
  exact List.mem_filter.mpr ⟨j_any_mem h.1, h.2⟩
theorem s_cl {ci : Nat} {r : vw_C} (h : vwCl[ci]? = some r) : (∀ w ∈ u_ws r.1 r.2.1 r.2.2, w ∈ lwW) ∧ (∀ k, k < r.2.2 → parseFieldDescriptor (r.2.1 k).2.2.1 = some (j_tf ci k)) ∧ (∀ k, k < r.2.2 → (r.2.1 k).1 = r.1 ∨ ci = 1) ∧ (∀ k, k < r.2.2 → j_tf ci k = .int ∨ j_tf ci k = .long ∨ (j_tf ci k = .boolean ∨ j_tf ci k = .byte) ∨ (∃ n, j_tf ci k = .object n) ∨ ∃ n, j_tf ci k = .array n) ∧ (∀ a, a < r.2.2 → ∀ b, b < r.2.2 → a ≠ b → (r.2.1 a).2.1 ≠ (r.2.1 b).2.1) ∧ Cond.instantiable r.1 r.2.2 ∈ lwW ∧ Cond.initialized r.1 ∈ lwW ∧ j_cnm ci = r.1 := by
  have h0 : j_clk ci = true := List.all_eq_true.mp j_cl_ok ci (List.mem_range.mpr (vwCl_lt h))
  unfold j_clk at h0
  rw [h] at h0
  simp only [Bool.and_eq_true] at h0
  obtain ⟨h1, h2, h3, h4, h5, h6, h7, h8, h9⟩ := h0
  have key : ∀ k, k < r.2.2 → _ := fun k hk => List.all_eq_true.mp h2 k (List.mem_range.mpr hk)
  refine ⟨fun w hw => ?_, fun k hk => ?_, fun k hk => ?_, fun k hk => ?_, fun a ha b hb hab => ?_, List.mem_filter.mpr ⟨j_any_mem h4, h5⟩, List.mem_filter.mpr ⟨j_any_mem h6, h7⟩, of_decide_eq_true h8⟩
  · have := List.all_eq_true.mp h1 w hw
    rw [Bool.and_eq_true] at this
    exact List.mem_filter.mpr ⟨j_any_mem this.1, this.2⟩
  · have := key k hk
    simp only [Bool.and_eq_true] at this
    exact of_decide_eq_true this.1
  · have := key k hk
    simp only [Bool.and_eq_true, Bool.or_eq_true, decide_eq_true_eq, beq_iff_eq] at this
    exact this.2.1
  · have := key k hk
    simp only [Bool.and_eq_true] at this
    have h9 := this.2.2
    generalize j_tf ci k = ty at h9
    cases ty <;> simp_all
  · have := List.all_eq_true.mp (List.all_eq_true.mp h3 a (List.mem_range.mpr ha)) b (List.mem_range.mpr hb)
    rw [Bool.or_eq_true] at this
    rcases this with h10 | h10
    · exact absurd (by simpa using h10) hab
    · exact of_decide_eq_true h10
theorem j_ty_tf (ci k : Nat) : j_ty ci k = j_tc (j_tf ci k) := by
  match ci with
  | 0 => rfl
  | 1 => rfl
  | 2 => rfl
  | 3 => rfl
  | 4 => rfl
  | 5 => rfl
  | 6 => rfl
  | 7 => rfl
  | 8 => rfl
  | 9 => rfl
  | 10 => rfl
  | 11 => rfl
  | n + 12 => rfl
theorem s_st4 {ρ : j_P} {v u t x : j_V} {r : List j_V} {k : List Value} (h : s_st ρ (v :: u :: t :: x :: r) k) : ∃ w1 w2 w3 w4 z, k = w1 :: w2 :: w3 :: w4 :: z ∧ s_val ρ v w1 ∧ s_val ρ u w2 ∧ s_val ρ t w3 ∧ s_val ρ x w4 ∧ s_st ρ r z := by
  obtain ⟨w1, w2, w3, z, rfl, h1, h2, h3, h4⟩ := s_st3 h
  obtain ⟨w4, z, rfl, h5, h6⟩ := s_st1 h4
  exact ⟨w1, w2, w3, w4, z, rfl, h1, h2, h3, h5, h6⟩
theorem s_at0 {b : Nat} {tt : Nat → Nat} {A k : Nat} {ws : va_W} {q : Nat} {e : va_E} (hA : A = k + 2) (hk : ws[k]? = some (q, e)) : s_ρ b tt ws A = some q := by
  subst hA
  rw [s_ρ_in (by have := (List.getElem?_eq_some_iff.mp hk).1; omega)]
  show (ws.map (fun q => q.1))[k]? = some q
  rw [List.getElem?_map, hk]
  rfl
section SM
variable {p : Program} {l : Launch} {e : Env} {R : Room} {s : State} {m : MethodId} {args : Array Value} {below : List Frame} {meth : Method} {c : Code} {Q : State → Prop} {D : va_G} {b : Nat} {tt : Nat → Nat} {L sb nL zc zs mc ms pc : Nat} {xs : Nat → Int32} {ρ0 : j_P} {q : j_M} {ls : j_L} {r : List j_V} {h : j_H}
theorem s_words (hC : s_C p s m args meth c R q b tt L sb xs nL) : ∀ w ∈ lwW, w.before args s = true := fun w hw => hC.2.2.2.2.1 w (List.mem_filter.mp hw).1 (List.mem_filter.mp hw).2
theorem s_kd {a c n : Nat} (e : j_kd h a = some (c, n)) : h.1[a]? = some (c, n) ∨ (h.1[a]? = none ∧ j_kc a = some (c, n)) := by
  unfold j_kd at e
  cases hl : h.1[a]? with
  | some x => rw [hl] at e; exact Or.inl e
  | none => rw [hl] at e; exact Or.inr ⟨rfl, e⟩
theorem s_kc_all : ∀ i : Nat, i < 22 → ∀ c n : Nat, j_kc (1000000 + i) = some (c, n) → (c = 34 ∧ n ≤ 100 ∧ (i < 20 → i % 2 = 1)) ∨ (c = 0 ∧ i % 2 = 0 ∧ i < 20) := by
  intro i hi c n e
  have h22 : i = 0 ∨ i = 1 ∨ i = 2 ∨ i = 3 ∨ i = 4 ∨ i = 5 ∨ i = 6 ∨ i = 7 ∨ i = 8 ∨ i = 9 ∨ i = 10 ∨ i = 11 ∨ i = 12 ∨ i = 13 ∨ i = 14 ∨ i = 15 ∨ i = 16 ∨ i = 17 ∨ i = 18 ∨ i = 19 ∨ i = 20 ∨ i = 21 := by omega
  rcases h22 with rfl | rfl | rfl | rfl | rfl | rfl | rfl | rfl | rfl | rfl | rfl | rfl | rfl | rfl | rfl | rfl | rfl | rfl | rfl | rfl | rfl | rfl <;> (cases e; decide)
theorem s_kc_in {a : Nat} {q : Nat × Nat} (e : j_kc a = some q) : ∃ i, i < 22 ∧ a = 1000000 + i := by
  unfold j_kc at e
  split at e
  · cases e
  · split at e
    · exact ⟨a - 1000000, by omega, by omega⟩
    · split at e
      · exact ⟨a - 1000000, by omega, by omega⟩
      · cases e
theorem s_kc {a c n : Nat} (e : j_kc a = some (c, n)) (hc : 32 ≤ c) : c = 34 ∧ n ≤ 100000 := by
  obtain ⟨i, hi, rfl⟩ := s_kc_in e
  rcases s_kc_all i hi c n e with h1 | h1 <;> omega
theorem s_kc0 {a c n : Nat} (e : j_kc a = some (c, n)) (hc : c < 13) : c = 0 ∧ ∃ i, i < 10 ∧ a = 1000000 + 2 * i := by
  obtain ⟨i, hi, rfl⟩ := s_kc_in e
  rcases s_kc_all i hi c n e with h1 | h1
  · omega
  · exact ⟨h1.1, i / 2, by omega, by omega⟩
theorem s_kb_r (a i : Nat) (hi : i < 100) : -128 ≤ s_kb a i ∧ s_kb a i ≤ 127 := by
  unfold s_kb
  split
  · omega
  · split
    · omega
    · split
      · omega
      · have key : ∀ t ∈ j_tx, ∀ x ∈ t.2.2, x < 128 := by decide
        split
        · rename_i t ht
          have h1 := key t (List.mem_of_getElem? ht)
          rw [List.getD_eq_getElem?_getD]
          cases hx : t.2.2[i]? with
          | none => simp
          | some x =>
            have := h1 x (List.mem_of_getElem? hx)
            simp only [Option.getD_some]
            omega
        · omega
theorem s_kb_i (a i : Nat) (hi : i < 100) : (Int32.ofInt (s_kb a i)).toInt = s_kb a i := by
  have := s_kb_r a i hi
  exact Int32.toInt_ofInt_of_le (by omega) (by omega)
theorem r_iaload (hC : s_C p s m args meth c R q b tt L sb xs nL) {a N : Nat} {i : Int} (hA : h.1[a]? = some (32, N)) (hi : 0 ≤ i ∧ i < N) (hdg : decode q.2.1 pc = .ok (.iaload, 1))
    (K : s_G D b tt L sb xs s ρ0 nL zc zs mc ms m (fun H locs cells slots g => W p l e R s m args below meth c H locs cells slots Q g) (pc + 1) ls (jI (h.2.2 a i.toNat) :: r) h) : s_G D b tt L sb xs s ρ0 nL zc zs mc ms m (fun H locs cells slots g => W p l e R s m args below meth c H locs cells slots Q g) pc ls (jI i :: jR a :: r) h := by
  intro H locs cells slots ws tys lsR rl stR hS hx hl hv hst hc hs
  obtain ⟨w1, w2, z, rfl, ⟨n1, rfl, e1⟩, ⟨q1, rfl, hq⟩, hz⟩ := s_st2 hst
  have hin : vp_in n1 N := vp_in_iff.mpr (by rw [e1]; exact hi)
  have hk : n1.toNatClampNeg = i.toNat := by rw [← e1]; rfl
  have hlt : i.toNat < N := by omega
  have hRO := hC.2.2.2.2.2.2.2.2
  rcases Nat.lt_or_ge a 2 with ha | ha
  · have h01 : a = 0 ∨ a = 1 := by omega
    rcases h01 with rfl | rfl
    · have hN := hS.1.2.2.1
      have eN : N = L := by have := hN.1.symm.trans hA; cases this; rfl
      subst eN
      have eb : b = q1 := Option.some.inj hq
      subst eb
      exact va_ti hC.1 hC.2.1 hRO.1 hS.2.2.2.2 hin rfl hdg (K _ _ _ _ _ _ _ _ _ hS hx hl hv ⟨⟨_, rfl, by rw [hk]; exact hN.2 _ hlt⟩, hz⟩ hc hs)
    · have hN := hS.1.2.2.2.1
      have eN : N = 6 := by have := hN.1.symm.trans hA; cases this; rfl
      subst eN
      have eb : tt 0 = q1 := Option.some.inj hq
      subst eb
      exact va_ti hC.1 hC.2.1 hRO.2.2.1 hS.2.2.2.2 hin rfl hdg (K _ _ _ _ _ _ _ _ _ hS hx hl hv ⟨⟨_, rfl, by rw [hk]; exact hN.2 _ hlt⟩, hz⟩ hc hs)
  · obtain ⟨k, cA, f, rfl, hw, ht, hf⟩ := s_w_int hS.1 hA ha (Or.inl rfl) hq
    have ht : (cA, FieldType.int) ∈ tys := by rcases ht with h | h | h <;> first | exact h.2 | (exact absurd h.1 (by decide))
    obtain ⟨t0, ht0⟩ := List.getElem?_of_mem ht
    exact va_iald hC.1 hC.2.1 hS.2.2.1 hS.2.1 k t0 hw ht0 hin hdg (K _ _ _ _ _ _ _ _ _ hS hx hl hv ⟨⟨_, rfl, by rw [hk]; exact hf _ hlt⟩, hz⟩ hc hs)
theorem r_laload (hC : s_C p s m args meth c R q b tt L sb xs nL) {a N : Nat} {i : Int} (hA : h.1[a]? = some (33, N)) (hi : 0 ≤ i ∧ i < N) (hdg : decode q.2.1 pc = .ok (.laload, 1))
    (K : s_G D b tt L sb xs s ρ0 nL zc zs mc ms m (fun H locs cells slots g => W p l e R s m args below meth c H locs cells slots Q g) (pc + 1) ls (jL (h.2.2 a i.toNat) :: r) h) : s_G D b tt L sb xs s ρ0 nL zc zs mc ms m (fun H locs cells slots g => W p l e R s m args below meth c H locs cells slots Q g) pc ls (jI i :: jR a :: r) h := by
  intro H locs cells slots ws tys lsR rl stR hS hx hl hv hst hc hs
  obtain ⟨w1, w2, z, rfl, ⟨n1, rfl, e1⟩, ⟨q1, rfl, hq⟩, hz⟩ := s_st2 hst
  have hin : vp_in n1 N := vp_in_iff.mpr (by rw [e1]; exact hi)
  have hk : n1.toNatClampNeg = i.toNat := by rw [← e1]; rfl
  have hlt : i.toNat < N := by omega
  obtain ⟨k, cA, f, rfl, hw, ht, hf⟩ := s_w_long hS.1 hA hq
  obtain ⟨t0, ht0⟩ := List.getElem?_of_mem ht
  exact va_lald hC.1 hC.2.1 hS.2.2.1 hS.2.1 k t0 hw ht0 hin hdg (K _ _ _ _ _ _ _ _ _ hS hx hl hv ⟨⟨_, rfl, by rw [hk]; exact hf _ hlt⟩, hz⟩ hc hs)
theorem r_baload (hC : s_C p s m args meth c R q b tt L sb xs nL) {a cc N : Nat} {i : Int} (hA0 : j_kd h a = some (cc, N)) (hcc : cc = 34 ∨ cc = 35) (hi : 0 ≤ i ∧ i < N) (hdg : decode q.2.1 pc = .ok (.baload, 1))
    (K : s_G D b tt L sb xs s ρ0 nL zc zs mc ms m (fun H locs cells slots g => W p l e R s m args below meth c H locs cells slots Q g) (pc + 1) ls (jI (h.2.2 a i.toNat) :: r) h) : s_G D b tt L sb xs s ρ0 nL zc zs mc ms m (fun H locs cells slots g => W p l e R s m args below meth c H locs cells slots Q g) pc ls (jI i :: jR a :: r) h := by
  intro H locs cells slots ws tys lsR rl stR hS hx hl hv hst hc hs
  obtain ⟨w1, w2, z, rfl, ⟨n1, rfl, e1⟩, ⟨q1, rfl, hq⟩, hz⟩ := s_st2 hst
  have hin : vp_in n1 N := vp_in_iff.mpr (by rw [e1]; exact hi)
  have hk : n1.toNatClampNeg = i.toNat := by rw [← e1]; rfl
  have hlt : i.toNat < N := by omega
  rcases s_kd hA0 with hA | ⟨hA, hkc⟩
  · obtain ⟨k, cA, f, rfl, hw, ht, hf⟩ := s_w_int hS.1 hA (s_w_two hS.1 hA (by omega)) (Or.inr hcc) hq
    rcases hcc with rfl | rfl
    · have ht : (cA, FieldType.byte) ∈ tys := by rcases ht with h | h | h <;> first | exact h.2 | (exact absurd h.1 (by decide))
      obtain ⟨t0, ht0⟩ := List.getElem?_of_mem ht
      exact va_bald hC.1 hC.2.1 hS.2.2.1 hS.2.1 k t0 hw ht0 hin hdg (K _ _ _ _ _ _ _ _ _ hS hx hl hv ⟨⟨_, rfl, by rw [hk]; exact hf _ hlt⟩, hz⟩ hc hs)
    · have ht : (cA, FieldType.boolean) ∈ tys := by rcases ht with h | h | h <;> first | exact h.2 | (exact absurd h.1 (by decide))
      obtain ⟨t0, ht0⟩ := List.getElem?_of_mem ht
      exact va_zald hC.1 hC.2.1 hS.2.2.1 hS.2.1 k t0 hw ht0 hin hdg (K _ _ _ _ _ _ _ _ _ hS hx hl hv ⟨⟨_, rfl, by rw [hk]; exact hf _ hlt⟩, hz⟩ hc hs)
  · have hRO := hC.2.2.2.2.2.2.2.2
    obtain ⟨-, rfl, hm⟩ := s_w_k hS.1 hA hq
    obtain ⟨rfl, h100⟩ := s_kc hkc (by omega)
    have hN : N ≤ 100 := by
      obtain ⟨i0, hi0, rfl⟩ := s_kc_in hkc
      rcases s_kc_all i0 hi0 _ _ hkc with h1 | h1 <;> omega
    exact va_tb hC.1 hC.2.1 (hRO.2.2.2.2.2.2.2.1.2.2.2.2.1 _ _ hkc) hS.2.2.2.2 hin rfl hdg (K _ _ _ _ _ _ _ _ _ hS hx hl hv ⟨⟨_, rfl, by rw [hk, hm]; exact s_kb_i _ _ (by omega)⟩, hz⟩ hc hs)
theorem va_aldA {cc : ByteArray} {cl : List vw_C} {a : Nat} {tys : List (ClassId × FieldType)} {ws : va_W} {ls : Array Slot} {rest : List Value} {H : Heap} {locs : List Loc} {cells slots : Nat} (hexec : p.tables.exec = Jvm.exec) (hb : c.code = cc) (hK : va_K D cl tys s) (hP : va_P D cl ws H) (q0 t0 : Nat) {cA : ClassId} {ty : FieldType} {n : Nat} {f : Nat → Option Nat} (ha : ws[q0]? = some (a, .inl (cA, n, .inr (.inr (.inr (.inr f)))))) (ht : tys[t0]? = some (cA, .array ty)) {i : Int32} (hin : vp_in i n) (hdg : decode cc pc = .ok (.aaload, 1))
    (kk : W p l e R s m args below meth c H locs cells slots Q (F0 m (pc + 1) ls (va_rf (f i.toNatClampNeg) :: rest))) : W p l e R s m args below meth c H locs cells slots Q (F0 m pc ls (.int i :: .ref a :: rest)) := by
  have hlt : i.toNatClampNeg < n := Nat.not_le.mp fun q => hin (Or.inr q)
  exact W.aald (v := va_rf (f i.toNatClampNeg)) (ty := .array ty) hexec hb (hP q0 _ ha) ((hK.2 t0 _ ht).1 n (fun j => va_rf (f j))) rfl (fun q => by cases q) (by show ¬ (i < 0 ∨ (arrV _ _ _).slots.size ≤ _); rw [arrV_size]; exact hin) (by show (arrV _ _ _).slots[_]? = _; rw [arrV_read _ _ hlt]) rfl rfl hdg kk
theorem r_aaload (hC : s_C p s m args meth c R q b tt L sb xs nL) {a N A : Nat} {i : Int} (hA : h.1[a]? = some (36, N)) (hi : 0 ≤ i ∧ i < N) (hrf : j_rf h a i.toNat = some A) (hdg : decode q.2.1 pc = .ok (.aaload, 1))
    (K : s_G D b tt L sb xs s ρ0 nL zc zs mc ms m (fun H locs cells slots g => W p l e R s m args below meth c H locs cells slots Q g) (pc + 1) ls (jR A :: r) h) : s_G D b tt L sb xs s ρ0 nL zc zs mc ms m (fun H locs cells slots g => W p l e R s m args below meth c H locs cells slots Q g) pc ls (jI i :: jR a :: r) h := by
  intro H locs cells slots ws tys lsR rl stR hS hx hl hv hst hc hs
  obtain ⟨w1, w2, z, rfl, ⟨n1, rfl, e1⟩, ⟨q1, rfl, hq⟩, hz⟩ := s_st2 hst
  have hin : vp_in n1 N := vp_in_iff.mpr (by rw [e1]; exact hi)
  have hk : n1.toNatClampNeg = i.toNat := by rw [← e1]; rfl
  have hlt : i.toNat < N := by omega
  obtain ⟨k, cA, f, rfl, hw, ht, hf⟩ := s_w_refs hS.1 hA hq
  obtain ⟨t0, ht0⟩ := List.getElem?_of_mem ht
  have h1 := hf _ hlt
  rw [hrf] at h1
  obtain ⟨q2, h2, h3⟩ := h1
  refine va_aldA hC.1 hC.2.1 hS.2.2.1 hS.2.1 k t0 hw ht0 hin hdg ?_
  rw [hk, h2]
  exact K _ _ _ _ _ _ _ _ _ hS hx hl hv ⟨⟨_, rfl, h3⟩, hz⟩ hc hs
theorem r_iastore (hC : s_C p s m args meth c R q b tt L sb xs nL) {a N : Nat} {i x : Int} (h2 : 2 ≤ a) (hA : h.1[a]? = some (32, N)) (hi : 0 ≤ i ∧ i < N)  (hdg : decode q.2.1 pc = .ok (.iastore, 1))
    (K : s_G D b tt L sb xs s ρ0 nL zc zs mc ms m (fun H locs cells slots g => W p l e R s m args below meth c H locs cells slots Q g) (pc + 1) ls r (h.1, h.2.1, j_up h.2.2 a i.toNat x)) : s_G D b tt L sb xs s ρ0 nL zc zs mc ms m (fun H locs cells slots g => W p l e R s m args below meth c H locs cells slots Q g) pc ls (jI x :: jI i :: jR a :: r) h := by
  intro H locs cells slots ws tys lsR rl stR hS hx hl hv hst hc hs
  obtain ⟨w0, w1, w2, z, rfl, ⟨n0, rfl, e0⟩, ⟨n1, rfl, e1⟩, ⟨q1, rfl, hq⟩, hz⟩ := s_st3 hst
  have hin : vp_in n1 N := vp_in_iff.mpr (by rw [e1]; exact hi)
  have hk : n1.toNatClampNeg = i.toNat := by rw [← e1]; rfl
  have hlt : i.toNat < N := by omega
  obtain ⟨k, cA, f, rfl, hw, ht, hf⟩ := s_w_int hS.1 hA h2 (by omega) hq
  have ht : (cA, FieldType.int) ∈ tys := by rcases ht with h | h | h <;> first | exact h.2 | (exact absurd h.1 (by decide))
  obtain ⟨t0, ht0⟩ := List.getElem?_of_mem ht
  have hcell : s_cell tys (s_ρ b tt ws) (h.1, h.2.1, j_up h.2.2 (k + 2) i.toNat x) (k + 2) (.inl (cA, N, .inl (upd f n1.toNatClampNeg n0))) := by
    refine ⟨32, hA, Or.inl ⟨rfl, ht⟩, fun j hj => ?_⟩
    show (upd f n1.toNatClampNeg n0 j).toInt = j_up h.2.2 (k + 2) i.toNat _ (k + 2) j
    unfold j_up upd
    rw [if_pos rfl, hk]
    split
    · exact e0
    · exact hf j hj
  refine va_iast hC.1 hC.2.1 hS.2.2.1 hS.2.1 hS.2.2.2.1 hS.2.2.2.2 k t0 hw ht0 hin hdg (fun H1 locs1 hP1 hD1 hS1 => ?_)
  refine K H1 locs1 cells slots _ tys lsR rl z ⟨s_w_upd hS.1 hw rfl rfl (fun j hj => ⟨fun i2 => ?_, fun _ => rfl⟩) hcell, hP1, hS.2.2.1, hD1, hS1⟩ (by rw [s_ρ_set hw]; exact hx) (by rw [s_ρ_set hw]; exact hl) hv (by rw [s_ρ_set hw]; exact hz) hc hs
  show j_up h.2.2 (k + 2) i.toNat _ j i2 = h.2.2 j i2
  unfold j_up
  rw [if_neg hj]
theorem r_bastore_b (hC : s_C p s m args meth c R q b tt L sb xs nL) {a N : Nat} {i x : Int} (h2 : 2 ≤ a) (hA : h.1[a]? = some (34, N)) (hi : 0 ≤ i ∧ i < N)  (hdg : decode q.2.1 pc = .ok (.bastore, 1))
    (K : s_G D b tt L sb xs s ρ0 nL zc zs mc ms m (fun H locs cells slots g => W p l e R s m args below meth c H locs cells slots Q g) (pc + 1) ls r (h.1, h.2.1, j_up h.2.2 a i.toNat (w8 x))) : s_G D b tt L sb xs s ρ0 nL zc zs mc ms m (fun H locs cells slots g => W p l e R s m args below meth c H locs cells slots Q g) pc ls (jI x :: jI i :: jR a :: r) h := by
  intro H locs cells slots ws tys lsR rl stR hS hx hl hv hst hc hs
  obtain ⟨w0, w1, w2, z, rfl, ⟨n0, rfl, e0⟩, ⟨n1, rfl, e1⟩, ⟨q1, rfl, hq⟩, hz⟩ := s_st3 hst
  have hin : vp_in n1 N := vp_in_iff.mpr (by rw [e1]; exact hi)
  have hk : n1.toNatClampNeg = i.toNat := by rw [← e1]; rfl
  have hlt : i.toNat < N := by omega
  obtain ⟨k, cA, f, rfl, hw, ht, hf⟩ := s_w_int hS.1 hA h2 (by omega) hq
  have ht : (cA, FieldType.byte) ∈ tys := by rcases ht with h | h | h <;> first | exact h.2 | (exact absurd h.1 (by decide))
  obtain ⟨t0, ht0⟩ := List.getElem?_of_mem ht
  have hcell : s_cell tys (s_ρ b tt ws) (h.1, h.2.1, j_up h.2.2 (k + 2) i.toNat (w8 x)) (k + 2) (.inl (cA, N, .inl (upd f n1.toNatClampNeg (vp_nar .byte n0)))) := by
    refine ⟨34, hA, Or.inr (Or.inl ⟨rfl, ht⟩), fun j hj => ?_⟩
    show (upd f n1.toNatClampNeg (vp_nar .byte n0) j).toInt = j_up h.2.2 (k + 2) i.toNat _ (k + 2) j
    unfold j_up upd
    rw [if_pos rfl, hk]
    split
    · rw [vp_nar_byte, Int8.toInt_toInt32, Int32.toInt_toInt8, e0]; rfl
    · exact hf j hj
  refine va_bast hC.1 hC.2.1 hS.2.2.1 hS.2.1 hS.2.2.2.1 hS.2.2.2.2 k t0 hw ht0 hin hdg (fun H1 locs1 hP1 hD1 hS1 => ?_)
  refine K H1 locs1 cells slots _ tys lsR rl z ⟨s_w_upd hS.1 hw rfl rfl (fun j hj => ⟨fun i2 => ?_, fun _ => rfl⟩) hcell, hP1, hS.2.2.1, hD1, hS1⟩ (by rw [s_ρ_set hw]; exact hx) (by rw [s_ρ_set hw]; exact hl) hv (by rw [s_ρ_set hw]; exact hz) hc hs
  show j_up h.2.2 (k + 2) i.toNat _ j i2 = h.2.2 j i2
  unfold j_up
  rw [if_neg hj]
theorem r_bastore_z (hC : s_C p s m args meth c R q b tt L sb xs nL) {a N : Nat} {i x : Int} (h2 : 2 ≤ a) (hA : h.1[a]? = some (35, N)) (hi : 0 ≤ i ∧ i < N) (hx01 : x = 0 ∨ x = 1) (hdg : decode q.2.1 pc = .ok (.bastore, 1))
    (K : s_G D b tt L sb xs s ρ0 nL zc zs mc ms m (fun H locs cells slots g => W p l e R s m args below meth c H locs cells slots Q g) (pc + 1) ls r (h.1, h.2.1, j_up h.2.2 a i.toNat x)) : s_G D b tt L sb xs s ρ0 nL zc zs mc ms m (fun H locs cells slots g => W p l e R s m args below meth c H locs cells slots Q g) pc ls (jI x :: jI i :: jR a :: r) h := by
  intro H locs cells slots ws tys lsR rl stR hS hx hl hv hst hc hs
  obtain ⟨w0, w1, w2, z, rfl, ⟨n0, rfl, e0⟩, ⟨n1, rfl, e1⟩, ⟨q1, rfl, hq⟩, hz⟩ := s_st3 hst
  have hin : vp_in n1 N := vp_in_iff.mpr (by rw [e1]; exact hi)
  have hk : n1.toNatClampNeg = i.toNat := by rw [← e1]; rfl
  have hlt : i.toNat < N := by omega
  obtain ⟨k, cA, f, rfl, hw, ht, hf⟩ := s_w_int hS.1 hA h2 (by omega) hq
  have ht : (cA, FieldType.boolean) ∈ tys := by rcases ht with h | h | h <;> first | exact h.2 | (exact absurd h.1 (by decide))
  obtain ⟨t0, ht0⟩ := List.getElem?_of_mem ht
  have hcell : s_cell tys (s_ρ b tt ws) (h.1, h.2.1, j_up h.2.2 (k + 2) i.toNat x) (k + 2) (.inl (cA, N, .inl (upd f n1.toNatClampNeg (vp_nar .boolean n0)))) := by
    refine ⟨35, hA, Or.inr (Or.inr ⟨rfl, ht⟩), fun j hj => ?_⟩
    show (upd f n1.toNatClampNeg (vp_nar .boolean n0) j).toInt = j_up h.2.2 (k + 2) i.toNat _ (k + 2) j
    unfold j_up upd
    rw [if_pos rfl, hk]
    split
    · rw [← e0]; rcases hx01 with h01 | h01
      · rw [show n0 = 0 from Int32.toInt_inj.mp (e0.trans h01)]; rfl
      · rw [show n0 = 1 from Int32.toInt_inj.mp (e0.trans h01)]; rfl
    · exact hf j hj
  refine va_zast hC.1 hC.2.1 hS.2.2.1 hS.2.1 hS.2.2.2.1 hS.2.2.2.2 k t0 hw ht0 hin hdg (fun H1 locs1 hP1 hD1 hS1 => ?_)
  refine K H1 locs1 cells slots _ tys lsR rl z ⟨s_w_upd hS.1 hw rfl rfl (fun j hj => ⟨fun i2 => ?_, fun _ => rfl⟩) hcell, hP1, hS.2.2.1, hD1, hS1⟩ (by rw [s_ρ_set hw]; exact hx) (by rw [s_ρ_set hw]; exact hl) hv (by rw [s_ρ_set hw]; exact hz) hc hs
  show j_up h.2.2 (k + 2) i.toNat _ j i2 = h.2.2 j i2
  unfold j_up
  rw [if_neg hj]
theorem r_lastore (hC : s_C p s m args meth c R q b tt L sb xs nL) {a N : Nat} {i x : Int} (h2 : 2 ≤ a) (hA : h.1[a]? = some (33, N)) (hi : 0 ≤ i ∧ i < N)  (hdg : decode q.2.1 pc = .ok (.lastore, 1))
    (K : s_G D b tt L sb xs s ρ0 nL zc zs mc ms m (fun H locs cells slots g => W p l e R s m args below meth c H locs cells slots Q g) (pc + 1) ls r (h.1, h.2.1, j_up h.2.2 a i.toNat x)) : s_G D b tt L sb xs s ρ0 nL zc zs mc ms m (fun H locs cells slots g => W p l e R s m args below meth c H locs cells slots Q g) pc ls (jL x :: jI i :: jR a :: r) h := by
  intro H locs cells slots ws tys lsR rl stR hS hx hl hv hst hc hs
  obtain ⟨w0, w1, w2, z, rfl, ⟨n0, rfl, e0⟩, ⟨n1, rfl, e1⟩, ⟨q1, rfl, hq⟩, hz⟩ := s_st3 hst
  have hin : vp_in n1 N := vp_in_iff.mpr (by rw [e1]; exact hi)
  have hk : n1.toNatClampNeg = i.toNat := by rw [← e1]; rfl
  have hlt : i.toNat < N := by omega
  obtain ⟨k, cA, f, rfl, hw, ht, hf⟩ := s_w_long hS.1 hA hq
  obtain ⟨t0, ht0⟩ := List.getElem?_of_mem ht
  have hcell : s_cell tys (s_ρ b tt ws) (h.1, h.2.1, j_up h.2.2 (k + 2) i.toNat x) (k + 2) (.inl (cA, N, .inr (.inl (vp_updL f n1.toNatClampNeg n0)))) := by
    refine ⟨hA, ht, fun j hj => ?_⟩
    show (vp_updL f n1.toNatClampNeg n0 j).toInt = j_up h.2.2 (k + 2) i.toNat _ (k + 2) j
    unfold j_up vp_updL
    rw [if_pos rfl, hk]
    split
    · exact e0
    · exact hf j hj
  refine va_last hC.1 hC.2.1 hS.2.2.1 hS.2.1 hS.2.2.2.1 hS.2.2.2.2 k t0 hw ht0 hin hdg (fun H1 locs1 hP1 hD1 hS1 => ?_)
  refine K H1 locs1 cells slots _ tys lsR rl z ⟨s_w_upd hS.1 hw rfl rfl (fun j hj => ⟨fun i2 => ?_, fun _ => rfl⟩) hcell, hP1, hS.2.2.1, hD1, hS1⟩ (by rw [s_ρ_set hw]; exact hx) (by rw [s_ρ_set hw]; exact hl) hv (by rw [s_ρ_set hw]; exact hz) hc hs
  show j_up h.2.2 (k + 2) i.toNat _ j i2 = h.2.2 j i2
  unfold j_up
  rw [if_neg hj]
theorem s_big {b : Nat} {tt : Nat → Nat} {L : Nat} {xs : Nat → Int32} {tys : List (ClassId × FieldType)} {h : j_H} {ws : va_W} {A c n : Nat} (H : s_w b tt L xs tys h ws) (hA : h.1[A]? = some (c, n)) : n ≤ 100000 := H.2.2.2.2.2.1 (c, n) (List.mem_of_getElem? hA)
theorem s_nat {n : Nat} (h : n ≤ 100000) : (Int32.ofNat n).toInt = n := Int32.toInt_ofNat_of_lt (by omega)
theorem r_alen (hC : s_C p s m args meth c R q b tt L sb xs nL) {a cc N : Nat} (hA0 : j_kd h a = some (cc, N)) (hcc : 32 ≤ cc) (hdg : decode q.2.1 pc = .ok (.arraylength, 1))
    (K : s_G D b tt L sb xs s ρ0 nL zc zs mc ms m (fun H locs cells slots g => W p l e R s m args below meth c H locs cells slots Q g) (pc + 1) ls (jI N :: r) h) : s_G D b tt L sb xs s ρ0 nL zc zs mc ms m (fun H locs cells slots g => W p l e R s m args below meth c H locs cells slots Q g) pc ls (jR a :: r) h := by
  intro H locs cells slots ws tys lsR rl stR hS hx hl hv hst hc hs
  obtain ⟨w1, z, rfl, ⟨q1, rfl, hq⟩, hz⟩ := s_st1 hst
  have hRO := hC.2.2.2.2.2.2.2.2
  rcases s_kd hA0 with hA | ⟨hA, hkc⟩
  rotate_left
  · obtain ⟨-, rfl, hm⟩ := s_w_k hS.1 hA hq
    obtain ⟨rfl, h100⟩ := s_kc hkc hcc
    exact va_tlen hC.1 hC.2.1 (hRO.2.2.2.2.2.2.2.1.2.2.2.2.1 _ _ hkc) hS.2.2.2.2 rfl hdg (K _ _ _ _ _ _ _ _ _ hS hx hl hv ⟨⟨_, rfl, s_nat h100⟩, hz⟩ hc hs)
  have hN := s_nat (s_big hS.1 hA)
  rcases Nat.lt_or_ge a 2 with ha | ha
  · have h01 : a = 0 ∨ a = 1 := by omega
    rcases h01 with rfl | rfl
    · have eN : N = L := by have := hS.1.2.2.1.1.symm.trans hA; cases this; rfl
      subst eN
      have eb : b = q1 := Option.some.inj hq
      subst eb
      exact va_tlen hC.1 hC.2.1 hRO.1 hS.2.2.2.2 rfl hdg (K _ _ _ _ _ _ _ _ _ hS hx hl hv ⟨⟨_, rfl, hN⟩, hz⟩ hc hs)
    · have eN : N = 6 := by have := hS.1.2.2.2.1.1.symm.trans hA; cases this; rfl
      subst eN
      have eb : tt 0 = q1 := Option.some.inj hq
      subst eb
      exact va_tlen hC.1 hC.2.1 hRO.2.2.1 hS.2.2.2.2 rfl hdg (K _ _ _ _ _ _ _ _ _ hS hx hl hv ⟨⟨_, rfl, hN⟩, hz⟩ hc hs)
  · obtain ⟨k, e, rfl, hw, he⟩ := s_w_cell hS.1 (List.getElem?_eq_some_iff.mp hA).1 ha hq
    have key : ∃ (cA : ClassId) (x : vp_A) (ty : FieldType), e = .inl (cA, x) ∧ (cA, ty) ∈ tys ∧ x.1 = N := by
      match e, he with
      | .inr (ci, fs), ⟨r, a1, a2, a3, a4⟩ =>
        rw [hA] at a2
        cases a2
        have := vwCl_lt a1
        omega
      | .inl (cA, n', .inl f), ⟨t, a1, a2, a3⟩ =>
        rw [hA] at a1
        cases a1
        rcases a2 with a2 | a2 | a2 <;> exact ⟨cA, _, _, rfl, a2.2, rfl⟩
      | .inl (cA, n', .inr (.inl f)), ⟨a1, a2, a3⟩ =>
        rw [hA] at a1
        cases a1
        exact ⟨cA, _, _, rfl, a2, rfl⟩
      | .inl (cA, n', .inr (.inr (.inr (.inr f)))), ⟨a1, a2, a3⟩ =>
        rw [hA] at a1
        cases a1
        exact ⟨cA, _, _, rfl, a2, rfl⟩
    obtain ⟨cA, x, ty, rfl, ht, hxN⟩ := key
    obtain ⟨t0, ht0⟩ := List.getElem?_of_mem ht
    exact va_alen hC.1 hC.2.1 hS.2.2.1 hS.2.1 k t0 hw ht0 (congrArg Int32.ofNat hxN) hdg (K _ _ _ _ _ _ _ _ _ hS hx hl hv ⟨⟨_, rfl, hN⟩, hz⟩ hc hs)
def j_gv (h : j_H) (a c k : Nat) : Option j_V := match j_ty c k with
  | 0 => some (jI (h.2.2 a k))
  | 1 => some (jL (h.2.2 a k))
  | 2 => some (jI (h.2.2 a k))
  | _ => (j_rk1 h a k).map jR
theorem s_fld_gv {ρ : j_P} {h : j_H} {a c k : Nat} {v : j_V} {w : Value} {y : Nat × Nat} (hA : h.1[a]? = some y) (hf : s_fld ρ h a c k w) (hv : j_gv h a c k = some v) : s_val ρ v w := by
  have e9 : j_rk1 h a k = j_rf h a k := by unfold j_rk1; rw [hA]
  unfold s_fld at hf
  unfold j_gv at hv
  rw [e9] at hv
  split at hf
  · rename_i e; rw [e] at hv; cases hv; exact hf
  · rename_i e; rw [e] at hv; cases hv; exact hf
  · rename_i e; rw [e] at hv; cases hv; exact hf
  · rename_i e0 e1 e2
    have hv : (j_rf h a k).map jR = some v := by
      split at hv
      · exact absurd (by assumption) e0
      · exact absurd (by assumption) e1
      · exact absurd (by assumption) e2
      · exact hv
    cases hr : j_rf h a k with
    | none => rw [hr] at hv; cases hv
    | some A =>
      rw [hr] at hv hf
      cases hv
      exact hf
theorem r_getf (hC : s_C p s m args meth c R q b tt L sb xs nL) {a c0 N k ix : Nat} {v : j_V} {r0 : vw_C} (hA0 : j_kd h a = some (c0, N)) (hr : vwCl[c0]? = some r0) (hk : k < r0.2.2) (hk1 : h.1[a]? = none → k ≤ 1) (hlink : Cond.fieldLink (j_cnm q.2.2.2.2.1) ix (r0.2.1 k).1 (r0.2.1 k).2.1 (r0.2.1 k).2.2.1 ∈ lwW ∨ ((∃ host, (Cond.fieldLinkNest (j_cnm q.2.2.2.2.1) ix (r0.2.1 k).1 (r0.2.1 k).2.1 (r0.2.1 k).2.2.1 host).before args s = true) ∧ c0 ≠ 0)) (hv0 : j_gv h a c0 k = some v) (hdg : decode q.2.1 pc = .ok (.getfield ix, 3))
    (K : s_G D b tt L sb xs s ρ0 nL zc zs mc ms m (fun H locs cells slots g => W p l e R s m args below meth c H locs cells slots Q g) (pc + 3) ls (v :: r) h) : s_G D b tt L sb xs s ρ0 nL zc zs mc ms m (fun H locs cells slots g => W p l e R s m args below meth c H locs cells slots Q g) pc ls (jR a :: r) h := by
  intro H locs cells slots ws tys lsR rl stR hS hx hl hv hst hc hs
  obtain ⟨w1, z, rfl, ⟨q1, rfl, hq⟩, hz⟩ := s_st1 hst
  rcases s_kd hA0 with hA | ⟨hA, hkc⟩
  · obtain ⟨k2, fs, r1, rfl, hw, hr1, hlen, hf⟩ := s_w_obj hS.1 hA (by have := vwCl_lt hr; omega) hq
    cases hr.symm.trans hr1
    have hkl : k < fs.length := by omega
    have hfk : fs[k]? = some fs[k] := List.getElem?_eq_getElem hkl
    have hval := s_fld_gv hA (hf k _ hfk) hv0
    obtain ⟨z1, z2, z3, z4, z5, z6, z7, z8⟩ := s_cl hr
    rcases hlink with h1 | ⟨⟨host, h1⟩, -⟩
    · exact va_get hC.1 hC.2.1 (s_words hC) z1 hC.2.2.2.1 hS.2.2.1 hS.2.1 k2 hw hr k hk (s_words hC _ h1) (fun x hx => hx) hfk hdg (K _ _ _ _ _ _ _ _ _ hS hx hl hv ⟨hval, hz⟩ hc hs)
    · exact va_getN hC.1 hC.2.1 (s_words hC) z1 hC.2.2.2.1 hS.2.2.1 hS.2.1 k2 hw hr k hk h1 (fun x hx => hx) hfk hdg (K _ _ _ _ _ _ _ _ _ hS hx hl hv ⟨hval, hz⟩ hc hs)
  · have hRO := hC.2.2.2.2.2.2.2.2
    obtain ⟨ha1, rfl, hm⟩ := s_w_k hS.1 hA hq
    obtain ⟨rfl, i, hi, rfl⟩ := s_kc0 hkc (vwCl_lt hr)
    cases (show some (RJ0, TJ0, 4) = some r0 from hr)
    have hT := hRO.2.2.2.2.2.2.2.1.2.2.2.2.2.1 i hi
    rw [show 1000000 + 2 * i - 999999 = 1 + 2 * i by omega]
    rcases hlink with h1 | ⟨-, h1⟩
    rotate_left
    · exact absurd rfl h1
    have hk2 := hk1 hA
    obtain rfl | rfl : k = 0 ∨ k = 1 := by omega
    · unfold j_gv at hv0
      have e1 : j_ty 0 0 = 3 := rfl
      have e2 : j_rk1 h (1000000 + 2 * i) 0 = some (1000000 + 2 * i + 1) := by
        unfold j_rk1
        rw [hA]
        show (if 1000000 ≤ 1000000 + 2 * i ∧ 0 = 0 then some (1000000 + 2 * i + 1) else none) = _
        rw [if_pos ⟨by omega, rfl⟩]
      rw [e1, e2] at hv0
      cases hv0
      have ha2 : s_ρ b tt ws (1000000 + 2 * i + 1) = some (tt (2 + 2 * i)) := by
        have h9 : ws.length + 2 ≤ 1000000 + 2 * i := by rw [← hS.1.1]; exact List.getElem?_eq_none_iff.mp hA
        rw [s_ρ_out (by omega)]
        unfold s_kρ
        rw [if_pos (by omega), show 1000000 + 2 * i + 1 - 999999 = 2 + 2 * i by omega]
      exact vk_getf hC.1 hC.2.1 hT.2.2 hS.2.2.2.2 hC.2.2.2.1 (s_words hC _ h1) (fun x hx => hx) hdg (K _ _ _ _ _ _ _ _ _ hS hx hl hv ⟨⟨_, rfl, ha2⟩, hz⟩ hc hs)
    · unfold j_gv at hv0
      have e1 : j_ty 0 1 = 2 := rfl
      have e2 : h.2.2 (1000000 + 2 * i) 1 = 0 := by
        rw [hm]
        unfold s_kb
        rw [if_neg (by omega), if_neg (by omega), if_pos (by omega)]
      rw [e1] at hv0
      simp only [e2] at hv0
      cases hv0
      exact vk_getf hC.1 hC.2.1 hT.2.1 hS.2.2.2.2 hC.2.2.2.1 (s_words hC _ h1) (fun x hx => hx) hdg (K _ _ _ _ _ _ _ _ _ hS hx hl hv ⟨⟨0, rfl, rfl⟩, hz⟩ hc hs)
def j_pv (h : j_H) (q c k : Nat) (v : j_V) : Option j_H := j_put h q c k v none some
theorem j_srf_ne {h : j_H} {a k q j i : Nat} {m : j_M0} (hj : j ≠ a) : j_rf (h.1, j_srf h a k q, m) j i = j_rf h j i := by
  unfold j_rf j_srf
  simp only [List.getD_eq_getElem?_getD, List.getElem?_set]
  rw [if_neg (fun e => hj e.symm)]
theorem j_srf_eq {h : j_H} {a k q i : Nat} {m : j_M0} (hi : i ≠ k) : j_rf (h.1, j_srf h a k q, m) a i = j_rf h a i := by
  unfold j_rf j_srf
  simp only [List.getD_eq_getElem?_getD, List.getElem?_set]
  split
  · split
    · simp only [Option.getD_some, List.getElem?_set]
      rw [if_neg (fun e => hi e.symm)]
    · rename_i h1 h2
      rw [List.getElem?_eq_none (Nat.not_lt.mp h2)]
  · rename_i h1
    exact absurd trivial h1
theorem j_srf_at {h : j_H} {a k q A : Nat} {m : j_M0} (e : j_rf (h.1, j_srf h a k q, m) a k = some A) : A = q ∨ j_rf h a k = some A := by
  unfold j_rf j_srf at e
  simp only [List.getD_eq_getElem?_getD, List.getElem?_set] at e
  split at e
  · split at e
    · simp only [Option.getD_some, List.getElem?_set] at e
      split at e
      · split at e
        · simp at e
          exact Or.inl e.symm
        · simp at e
      · rename_i h1
        exact absurd trivial h1
    · simp at e
  · rename_i h1
    exact absurd trivial h1
theorem j_srf_dom {h : j_H} {a k q : Nat} {m : j_M0} {A : Nat} (e : j_rf (h.1, j_srf h a k q, m) a k = some A) : A = q := by
  unfold j_rf j_srf at e
  simp only [List.getD_eq_getElem?_getD, List.getElem?_set] at e
  split at e
  · split at e
    · simp only [Option.getD_some, List.getElem?_set] at e
      split at e
      · split at e
        · simp at e
          exact e.symm
        · simp at e
      · rename_i h1
        exact absurd trivial h1
    · simp at e
  · rename_i h1
    exact absurd trivial h1
theorem s_put_cell {ρ : j_P} {tys : List (ClassId × FieldType)} {h g : j_H} {a c0 k N : Nat} {v : j_V} {w : Value} {fs : List Value} {r0 : vw_C} (hA : h.1[a]? = some (c0, N)) (hN : N = r0.2.2) (hr : vwCl[c0]? = some r0) (hk : k < r0.2.2) (hlen : fs.length = r0.2.2) (hf : ∀ (j : Nat) (v : Value), fs[j]? = some v → s_fld ρ h a c0 j v) (hv : s_val ρ v w) (hp : j_pv h a c0 k v = some g) :
    narrow (j_tf c0 k) w = w ∧ Jvm.fits (j_tf c0 k) w = true ∧ g.1 = h.1 ∧ g.2.1.length = h.2.1.length ∧ (∀ j, j ≠ a → (∀ i, g.2.2 j i = h.2.2 j i) ∧ ∀ i, j_rf g j i = j_rf h j i) ∧ s_cell tys ρ g a (.inr (c0, fs.set k w)) := by
  have hcell : ∀ g : j_H, g.1 = h.1 → (∀ i, i ≠ k → g.2.2 a i = h.2.2 a i ∧ j_rf g a i = j_rf h a i) → s_fld ρ g a c0 k w → s_cell tys ρ g a (.inr (c0, fs.set k w)) := by
    intro g h1 h2 h3
    refine ⟨r0, hr, by rw [h1, hA, hN], by rw [List.length_set]; exact hlen, fun j v hj => ?_⟩
    rw [List.getElem?_set] at hj
    by_cases e : k = j
    · subst e
      rw [if_pos rfl, if_pos (by omega)] at hj
      cases hj
      exact h3
    · rw [if_neg e] at hj
      exact s_fld_mono (fun _ _ h => h) (h2 j (fun q => e q.symm)).1 (h2 j (fun q => e q.symm)).2 (hf j v hj)
  have hup : ∀ (x : Int) (j : Nat), j ≠ a → ∀ i, j_up h.2.2 a k x j i = h.2.2 j i := fun x j hj i => by unfold j_up; rw [if_neg hj]
  have hup2 : ∀ (x : Int) (i : Nat), i ≠ k → j_up h.2.2 a k x a i = h.2.2 a i := fun x i hi => by unfold j_up; rw [if_pos rfl, if_neg hi]
  have hup3 : ∀ (x : Int), j_up h.2.2 a k x a k = x := fun x => by unfold j_up; rw [if_pos rfl, if_pos rfl]
  have hty := j_ty_tf c0 k
  unfold j_pv j_put at hp
  rcases (s_cl hr).2.2.2.1 k hk with e | e | (e | e) | ⟨n, e⟩ | ⟨n, e⟩
  · rw [e] at hty
    rw [hty] at hp
    simp only [j_tc] at hp
    split at hp
    · cases hp
      obtain ⟨n, rfl, e1⟩ := hv
      rw [e]
      refine ⟨rfl, rfl, rfl, rfl, fun j hj => ⟨hup _ j hj, fun _ => rfl⟩, hcell _ rfl (fun i hi => ⟨hup2 _ i hi, rfl⟩) ?_⟩
      unfold s_fld
      rw [hty]
      exact ⟨n, rfl, e1.trans (hup3 _).symm⟩
    · cases hp
  · rw [e] at hty
    rw [hty] at hp
    simp only [j_tc] at hp
    split at hp
    · cases hp
      obtain ⟨n, rfl, e1⟩ := hv
      rw [e]
      refine ⟨rfl, rfl, rfl, rfl, fun j hj => ⟨hup _ j hj, fun _ => rfl⟩, hcell _ rfl (fun i hi => ⟨hup2 _ i hi, rfl⟩) ?_⟩
      unfold s_fld
      rw [hty]
      exact ⟨n, rfl, e1.trans (hup3 _).symm⟩
    · cases hp
  · rw [e] at hty
    rw [hty] at hp
    simp only [j_tc] at hp
    split at hp
    · split at hp
      · rename_i hx
        cases hp
        obtain ⟨n, rfl, e1⟩ := hv
        rw [e]
        have hn : n = 0 ∨ n = 1 := by
          rcases hx with hx | hx
          · exact Or.inl (Int32.toInt_inj.mp (e1.trans hx))
          · exact Or.inr (Int32.toInt_inj.mp (e1.trans hx))
        refine ⟨by rcases hn with rfl | rfl <;> rfl, by rcases hn with rfl | rfl <;> rfl, rfl, rfl, fun j hj => ⟨hup _ j hj, fun _ => rfl⟩, hcell _ rfl (fun i hi => ⟨hup2 _ i hi, rfl⟩) ?_⟩
        unfold s_fld
        rw [hty]
        exact ⟨n, rfl, e1.trans (hup3 _).symm⟩
      · cases hp
    · cases hp
  · rw [e] at hty
    rw [hty] at hp
    simp only [j_tc] at hp
    split at hp
    · split at hp
      · rename_i hx
        cases hp
        obtain ⟨n, rfl, e1⟩ := hv
        rw [e]
        have hn : n = 0 ∨ n = 1 := by
          rcases hx with hx | hx
          · exact Or.inl (Int32.toInt_inj.mp (e1.trans hx))
          · exact Or.inr (Int32.toInt_inj.mp (e1.trans hx))
        refine ⟨by rcases hn with rfl | rfl <;> rfl, by rcases hn with rfl | rfl <;> rfl, rfl, rfl, fun j hj => ⟨hup _ j hj, fun _ => rfl⟩, hcell _ rfl (fun i hi => ⟨hup2 _ i hi, rfl⟩) ?_⟩
        unfold s_fld
        rw [hty]
        exact ⟨n, rfl, e1.trans (hup3 _).symm⟩
      · cases hp
    · cases hp
  · rw [e] at hty
    rw [hty] at hp
    simp only [j_tc] at hp
    split at hp
    · cases hp
      obtain ⟨q, rfl, e1⟩ := hv
      rw [e]
      refine ⟨rfl, rfl, rfl, by simp [j_srf], fun j hj => ⟨fun _ => rfl, fun i => j_srf_ne hj⟩, hcell _ rfl (fun i hi => ⟨rfl, j_srf_eq hi⟩) ?_⟩
      unfold s_fld
      rw [hty]
      simp only [j_tc]
      cases hA2 : j_rf (h.1, j_srf h a k _, h.2.2) a k with
      | none => trivial
      | some A =>
        have := j_srf_dom hA2
        subst this
        exact ⟨q, rfl, e1⟩
    · cases hp
  · rw [e] at hty
    rw [hty] at hp
    simp only [j_tc] at hp
    split at hp
    · cases hp
      obtain ⟨q, rfl, e1⟩ := hv
      rw [e]
      refine ⟨rfl, rfl, rfl, by simp [j_srf], fun j hj => ⟨fun _ => rfl, fun i => j_srf_ne hj⟩, hcell _ rfl (fun i hi => ⟨rfl, j_srf_eq hi⟩) ?_⟩
      unfold s_fld
      rw [hty]
      simp only [j_tc]
      cases hA2 : j_rf (h.1, j_srf h a k _, h.2.2) a k with
      | none => trivial
      | some A =>
        have := j_srf_dom hA2
        subst this
        exact ⟨q, rfl, e1⟩
    · cases hp
theorem r_putf (hC : s_C p s m args meth c R q b tt L sb xs nL) {a c0 N k ix : Nat} {v : j_V} {g : j_H} {r0 : vw_C} (hA : h.1[a]? = some (c0, N)) (hr : vwCl[c0]? = some r0) (hk : k < r0.2.2) (hlink : (Cond.fieldLink (j_cnm q.2.2.2.2.1) ix (r0.2.1 k).1 (r0.2.1 k).2.1 (r0.2.1 k).2.2.1 ∈ lwW ∧ ((r0.2.1 k).2.2.2 = false ∨ (q.2.2.2.2.2.1 = 2 ∧ j_cnm q.2.2.2.2.1 = (r0.2.1 k).1 ∧ (r0.2.1 k).2.2.2 = true))) ∨ ((∃ host, (Cond.fieldLinkNest (j_cnm q.2.2.2.2.1) ix (r0.2.1 k).1 (r0.2.1 k).2.1 (r0.2.1 k).2.2.1 host).before args s = true) ∧ (r0.2.1 k).2.2.2 = false)) (hp : j_pv h a c0 k v = some g) (hdg : decode q.2.1 pc = .ok (.putfield ix, 3))
    (K : s_G D b tt L sb xs s ρ0 nL zc zs mc ms m (fun H locs cells slots g => W p l e R s m args below meth c H locs cells slots Q g) (pc + 3) ls r g) : s_G D b tt L sb xs s ρ0 nL zc zs mc ms m (fun H locs cells slots g => W p l e R s m args below meth c H locs cells slots Q g) pc ls (v :: jR a :: r) h := by
  intro H locs cells slots ws tys lsR rl stR hS hx hl hv hst hc hs
  obtain ⟨w0, w1, z, rfl, hv0, ⟨q1, rfl, hq⟩, hz⟩ := s_st2 hst
  obtain ⟨k2, fs, r1, rfl, hw, hr1, hlen, hf⟩ := s_w_obj hS.1 hA (by have := vwCl_lt hr; omega) hq
  cases hr.symm.trans hr1
  have hkl : k < fs.length := by omega
  have hN : N = r0.2.2 := by
    obtain ⟨k3, e, e1, e2, e3⟩ := s_w_cell hS.1 (List.getElem?_eq_some_iff.mp hA).1 (by omega) hq
    cases (show k2 = k3 by omega)
    cases hw.symm.trans e2
    obtain ⟨r1, a1, a2, a3, a4⟩ := e3
    cases hr.symm.trans a1
    rw [hA] at a2
    cases a2
    rfl
  obtain ⟨p1, p2, p3, p4, p5, p6⟩ := s_put_cell (tys := tys) hA hN hr hk hlen hf hv0 hp
  obtain ⟨z1, z2, z3, z4, z5, z6, z7, z8⟩ := s_cl hr
  have fin : ∀ (H1 : Heap) (locs1 : List Loc), va_P D vwCl (ws.set k2 (q1, .inr (c0, fs.set k w0))) H1 → va_D (s_A sb) (ws.set k2 (q1, .inr (c0, fs.set k w0))) → va_S (s_A sb) s.heap H1 locs1 → W p l e R s m args below meth c H1 locs1 cells slots Q (F0 m (pc + 3) lsR z) := fun H1 locs1 hP1 hD1 hS1 =>
    K H1 locs1 cells slots _ tys lsR rl z ⟨s_w_upd hS.1 hw p3 p4 (fun j hj => p5 j hj) p6, hP1, hS.2.2.1, hD1, hS1⟩ (by rw [s_ρ_set hw]; exact hx) (by rw [s_ρ_set hw]; exact hl) hv (by rw [s_ρ_set hw]; exact hz) (by rw [p3]; exact hc) (by unfold s_sl; rw [p3]; exact hs)
  rcases hlink with ⟨h1, h2 | ⟨h2, h3, h4⟩⟩ | ⟨⟨host, h1⟩, h2⟩
  · exact va_put hC.1 hC.2.1 (s_words hC) z1 (j_tf c0) z2 z5 hC.2.2.2.1 hS.2.2.1 hS.2.1 hS.2.2.2.1 hS.2.2.2.2 k2 hw hr k hk (s_words hC _ h1) (fun x hx => hx) h2 (z2 k hk) p1 p2 hkl hdg fin
  · exact va_putF hC.1 hC.2.1 (s_words hC) z1 (j_tf c0) z2 z5 hC.2.2.2.1 hS.2.2.1 hS.2.1 hS.2.2.2.1 hS.2.2.2.2 k2 hw hr k hk (s_words hC _ h1) (fun x hx => hx) h4 (hC.2.2.2.2.2.1 h2) h3.symm (z2 k hk) p1 p2 hkl hdg fin
  · exact va_putN hC.1 hC.2.1 (s_words hC) z1 (j_tf c0) z2 z5 hC.2.2.2.1 hS.2.2.1 hS.2.1 hS.2.2.2.1 hS.2.2.2.2 k2 hw hr k hk h1 (fun x hx => hx) h2 (z2 k hk) p1 p2 hkl hdg fin
theorem r_gets (hC : s_C p s m args meth c R q b tt L sb xs nL) {ix : Nat} (hlink : Cond.fieldLink (j_cnm q.2.2.2.2.1) ix "WholePacks" "TENS" "[I" ∈ lwW ∨ ∃ host, (Cond.fieldLinkNest (j_cnm q.2.2.2.2.1) ix "WholePacks" "TENS" "[I" host).before args s = true) (hdg : decode q.2.1 pc = .ok (.getstatic ix, 3))
    (K : s_G D b tt L sb xs s ρ0 nL zc zs mc ms m (fun H locs cells slots g => W p l e R s m args below meth c H locs cells slots Q g) (pc + 3) ls (jR 1 :: r) h) : s_G D b tt L sb xs s ρ0 nL zc zs mc ms m (fun H locs cells slots g => W p l e R s m args below meth c H locs cells slots Q g) pc ls r h := by
  intro H locs cells slots ws tys lsR rl stR hS hx hl hv hst hc hs
  have hRO := hC.2.2.2.2.2.2.2.2
  rcases hlink with h1 | ⟨host, h1⟩
  · exact va_gets hC.1 hC.2.1 hRO.2.2.2.1 hS.2.2.2.2 hC.2.2.2.1 (s_words hC _ h1) (fun x hx => hx) hdg (K _ _ _ _ _ _ _ _ _ hS hx hl hv ⟨⟨tt 0, rfl, rfl⟩, hst⟩ hc hs)
  · exact va_getsN hC.1 hC.2.1 hRO.2.2.2.1 hS.2.2.2.2 hC.2.2.2.1 h1 (fun x hx => hx) hdg (K _ _ _ _ _ _ _ _ _ hS hx hl hv ⟨⟨tt 0, rfl, rfl⟩, hst⟩ hc hs)
end SM
