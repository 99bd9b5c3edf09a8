/-! Every method of the program meets what the abstract machine says of it. -/
section SX
variable {p : Program} {l : Launch} {e : Env} {R : Room} {s : State} {m : MethodId} {args : Array Value} {below : List Frame} {meth : Method} {c : Code} {Q : State → Prop} {D : va_G} {b : Nat} {tt : Nat → Nat} {L sb nL zc zs mc ms pc : Nat} {xs : Nat → Int32} {ρ0 : j_P} {q : j_M} {ls : j_L} {st r : List j_V} {h : j_H}
theorem s_run {d y : Nat} {z : j_Z} (hsp : ¬ j_spc y) (hC : s_C p s m args meth c R q b tt L sb xs nL) (hq : j_meth[y]? = some q) (hRm : d + 1 ≤ R.frames ∧ 124 + 32 * d ≤ R.locals) (hRc : mc ≤ R.cells) (hRs : ms ≤ R.slots) (hzc : zc = z.2.1.length) (hzs : zs = s_sl z.2) (IH : s_IH l D b tt L sb xs d)
    (RI : ∀ (pc : Nat) (H : Heap) (locs : List Loc) (cells slots : Nat) (ws : va_W) (tys : List (ClassId × FieldType)) (lsR : Array Slot) (v : Int32), decode q.2.1 pc = .ok (.ireturn, 1) → (j_ret y = 1 ∨ (j_ret y = 3 ∧ (v = 0 ∨ v = 1)) ∨ (j_ret y = 4 ∧ -128 ≤ v.toInt ∧ v.toInt ≤ 127) ∨ (j_ret y = 5 ∧ 0 ≤ v.toInt ∧ v.toInt ≤ 65535)) → s_St D b tt L sb xs s z.2 H locs tys ws → (∀ a q : Nat, ρ0 a = some q → s_ρ b tt ws a = some q) → s_ov (s_ρ b tt ws) z.1 (some (.int v)) → cells = mc → slots = ms → W p l e R s m args below meth c H locs cells slots Q (F0 m pc lsR [.int v]))
    (RA : ∀ (pc : Nat) (H : Heap) (locs : List Loc) (cells slots : Nat) (ws : va_W) (tys : List (ClassId × FieldType)) (lsR : Array Slot) (v : Nat), decode q.2.1 pc = .ok (.areturn, 1) → j_ret y = 6 → s_St D b tt L sb xs s z.2 H locs tys ws → (∀ a q : Nat, ρ0 a = some q → s_ρ b tt ws a = some q) → s_ov (s_ρ b tt ws) z.1 (some (.ref v)) → cells = mc → slots = ms → W p l e R s m args below meth c H locs cells slots Q (F0 m pc lsR [.ref v]))
    (RL : ∀ (pc : Nat) (H : Heap) (locs : List Loc) (cells slots : Nat) (ws : va_W) (tys : List (ClassId × FieldType)) (lsR : Array Slot) (v : Int64), decode q.2.1 pc = .ok (.lreturn, 1) → j_ret y = 2 → s_St D b tt L sb xs s z.2 H locs tys ws → (∀ a q : Nat, ρ0 a = some q → s_ρ b tt ws a = some q) → s_ov (s_ρ b tt ws) z.1 (some (.long v)) → cells = mc → slots = ms → W p l e R s m args below meth c H locs cells slots Q (F0 m pc lsR [.long v]))
    (RV : ∀ (pc : Nat) (H : Heap) (locs : List Loc) (cells slots : Nat) (ws : va_W) (tys : List (ClassId × FieldType)) (lsR : Array Slot), decode q.2.1 pc = .ok (.return_, 1) → j_ret y = 0 → s_St D b tt L sb xs s z.2 H locs tys ws → (∀ a q : Nat, ρ0 a = some q → s_ρ b tt ws a = some q) → s_ov (s_ρ b tt ws) z.1 none → cells = mc → slots = ms → W p l e R s m args below meth c H locs cells slots Q (F0 m pc lsR [])) : ∀ (n pc : Nat) (ls : j_L) (st : List j_V) (h : j_H), j_run (c_call d) n y pc ls st h = some z → ls.length = nL → s_G D b tt L sb xs s ρ0 nL zc zs mc ms m (fun H locs cells slots g => W p l e R s m args below meth c H locs cells slots Q g) pc ls st h := by
  intro n
  induction n with
  | zero => intro pc ls st h e; cases e
  | succ n ih =>
    intro pc ls st h e hn
    unfold j_run at e
    exact s_step hsp hC hq hRm hRc hRs hzc hzs IH RI RA RL RV (fun pc ls st h e hn => ih pc ls st h e hn) hn e
theorem j_run_s {C : Nat → List j_V → j_H → Option j_Z} {n y pc : Nat} {ls : j_L} {st : List j_V} {h : j_H} {z : j_Z} (e : j_run C n y pc ls st h = some z) : ∃ k, j_step y pc ls st h none (fun pc ls st h => j_run C k y pc ls st h) (fun v h => some (v, h)) (fun j as r => (C j as h).bind fun z => j_run C k y (pc + 3) ls (z.1.toList ++ r) z.2) = some z := by
  cases n with
  | zero => cases e
  | succ n => exact ⟨n, e⟩
theorem s_rv {n y x1 x2 : Nat} {x3 : Int} {z : j_Z} {C : Nat → List j_V → j_H → Option j_Z} (hat : j_at y pc = some (.return_, x1, x2, x3)) (hdg : decode q.2.1 pc = .ok (.return_, 1)) (hzc : zc = z.2.1.length) (hzs : zs = s_sl z.2)
    (RV : ∀ (pc : Nat) (H : Heap) (locs : List Loc) (cells slots : Nat) (ws : va_W) (tys : List (ClassId × FieldType)) (lsR : Array Slot), decode q.2.1 pc = .ok (.return_, 1) → j_ret y = 0 → s_St D b tt L sb xs s z.2 H locs tys ws → (∀ a q : Nat, ρ0 a = some q → s_ρ b tt ws a = some q) → s_ov (s_ρ b tt ws) z.1 none → cells = mc → slots = ms → W p l e R s m args below meth c H locs cells slots Q (F0 m pc lsR [])) (er : j_run C n y pc ls st h = some z) : s_G D b tt L sb xs s ρ0 nL zc zs mc ms m (fun H locs cells slots g => W p l e R s m args below meth c H locs cells slots Q g) pc ls st h := by
  obtain ⟨k, er⟩ := j_run_s er
  unfold j_step at er
  rw [hat] at er
  simp only [j_op] at er
  split at er
  · split at er
    · rename_i h1
      cases er
      intro H locs cells slots ws tys lsR rl stR hS hx hl hv hst hc hs
      have hzz : stR = [] := by
        cases stR with
        | nil => rfl
        | cons a b => exact hst.elim
      subst hzz
      exact RV pc H locs cells slots ws tys lsR hdg h1 hS hx trivial (by rw [hzc] at hc; simp only at hc; omega) (by rw [hzs] at hs; simp only at hs; omega)
    · cases er
  · cases er
set_option maxHeartbeats 4000000 in
/-- String(StringBuilder): hands nothing on beside -/
theorem s_sp1 {d n y : Nat} {z : j_Z} (hy : y = 276) (hq : j_meth[y]? = some q) (hC : s_C p s m args meth c R q b tt L sb xs nL) (hRm : d + 1 ≤ R.frames ∧ 124 + 32 * d ≤ R.locals) (hRc : mc ≤ R.cells) (hRs : ms ≤ R.slots) (hzc : zc = z.2.1.length) (hzs : zs = s_sl z.2) (IH : s_IH l D b tt L sb xs d)
    (RV : ∀ (pc : Nat) (H : Heap) (locs : List Loc) (cells slots : Nat) (ws : va_W) (tys : List (ClassId × FieldType)) (lsR : Array Slot), decode q.2.1 pc = .ok (.return_, 1) → j_ret y = 0 → s_St D b tt L sb xs s z.2 H locs tys ws → (∀ a q : Nat, ρ0 a = some q → s_ρ b tt ws a = some q) → s_ov (s_ρ b tt ws) z.1 none → cells = mc → slots = ms → W p l e R s m args below meth c H locs cells slots Q (F0 m pc lsR [])) (e0 : j_run (c_call d) n y 0 ls [] h = some z) (hn : ls.length = nL) : s_G D b tt L sb xs s ρ0 nL zc zs mc ms m (fun H locs cells slots g => W p l e R s m args below meth c H locs cells slots Q g) 0 ls [] h := by
  subst hy
  cases (show some (yJ0_init_81219, cJ0_init_81219, 2, none, 0, 2, 1) = some q from hq)
  have hw := s_words hC
  have hcall : ∀ k as h z, c_call d k as h = some z → s_ge h z.2 := fun k as h z hz => c_call_cnt hz
  obtain ⟨n1, e1⟩ := j_run_s e0
  unfold j_step at e1
  rw [show j_at 276 0 = some (.aload_n 0, 0, 0, 0) by decide +kernel] at e1
  simp only [j_op] at e1
  split at e1
  rotate_left
  · cases e1
  rename_i a hla
  refine r_aload_n hC hla (by decide +kernel) ?_
  obtain ⟨n2, e2⟩ := j_run_s e1
  unfold j_step at e2
  rw [show j_at 276 (0 + 1) = some (.aload_n 1, 0, 0, 0) by decide +kernel] at e2
  simp only [j_op] at e2
  split at e2
  rotate_left
  · cases e2
  rename_i a1 hla1
  refine r_aload_n hC hla1 (by decide +kernel) ?_
  obtain ⟨n3, e3⟩ := j_run_s e2
  unfold j_step at e3
  rw [show j_at 276 (0 + 1 + 1) = some (.goto 1, 3, 0, 0) by decide +kernel] at e3
  simp only [j_op] at e3
  obtain ⟨n4, e4⟩ := j_run_s e3
  unfold j_step at e4
  rw [show j_at 276 3 = some (.invokespecial 489, 277, 1, 0) by decide +kernel] at e4
  simp only [j_op] at e4
  have hm : j_meth[277]? = some (yJ0_init_db425, cJ0_init_db425, 5, none, 0, 2, 1) := rfl
  have e5 : ((c_call d 277 [jR a, jR a1] h).bind fun z => j_run (c_call d) n4 276 (3 + 3) ls (z.1.toList ++ []) z.2) = some z := by
    unfold j_obs at e4
    rw [hm] at e4
    simpa using e4
  obtain ⟨w, hw1, e6⟩ := i_bind e5
  obtain ⟨k1, k2, k3, k4, k5, -, -, k6⟩ := s_mok hm (by decide) (by decide)
  obtain ⟨k7, k8, k9⟩ := k6 rfl
  rw [if_pos (Or.inl rfl)] at k4
  intro H locs cells slots ws tys lsR rl stR hS hx hl hv hst hc hs
  obtain ⟨hge1, hge2⟩ := hcall _ _ _ _ hw1
  obtain ⟨hge3, hge4⟩ := j_run_cnt hcall e6
  obtain ⟨w1, w2, zz, rfl, ⟨q2, rfl, hq2⟩, ⟨q1, rfl, hq1⟩, hzz⟩ := s_st2 hst
  have hzz : zz = [] := by
    cases zz with
    | nil => rfl
    | cons a b => exact hzz.elim
  subst hzz
  have hfix : CallFix p m c cJ0_init_81219 nL s args lwW (j_cnm 0) := ⟨hC.1, hC.2.1, hC.2.2.1, hC.2.2.2.1, hw⟩
  have hM := IH _ _ _ _ hw1 (by decide) _ hm (by decide) ws tys [.ref q1, .ref q2] [.null] (Or.inr ⟨Or.inl rfl, .null, rfl, rfl, (show 2 + 1 ≤ j_ml 277 by decide +kernel)⟩) hS.1 ⟨⟨q1, rfl, hq1⟩, ⟨q2, rfl, hq2⟩, trivial⟩
  have hlk : Cond.methodLink "java/lang/String" 489 yJ0_init_db425 ∈ lwW := j_has_mem (by decide +kernel)
  refine lv_null hC.1 hC.2.1 (by decide +kernel) ?_
  refine s_back (pc := 3) (mc := mc) (ms := ms) (zc := zc) (zs := zs) (ls := ls) (r := []) ?_ hS hx hl hv (rest := []) trivial (by omega) (by omega) (va_runI (As := [.ref q2, .null]) hfix hM (cwI 2 hw k1 rfl rfl rfl (hw _ k2) (hw _ hlk) (hw _ k7) k8 ⟨k4.1, k4.2.1, k4.2.2⟩ ⟨hRm.1, by show 8 + (5 + 11) + (92 + 32 * d) ≤ R.locals; omega⟩) ⟨s_blind, fun U hU hW => s_start hC hS U hU hW⟩ rfl rfl (hv.1) rfl (lv_room (by decide)) (show decode cJ0_init_81219 3 = .ok (.invokespecial 489, 3) by decide +kernel) ⟨by omega, by omega⟩)
  exact s_rv (y := 276) (x1 := 0) (x2 := 0) (x3 := 0) (by decide +kernel) (by decide +kernel) hzc hzs RV e6
set_option maxHeartbeats 4000000 in
/-- String.checkIndex: hands a table of words on -/
theorem s_sp2 {d n y : Nat} {z : j_Z} (hy : y = 273) (hq : j_meth[y]? = some q) (hC : s_C p s m args meth c R q b tt L sb xs nL) (hRm : d + 1 ≤ R.frames ∧ 124 + 32 * d ≤ R.locals) (hRc : mc ≤ R.cells) (hRs : ms ≤ R.slots) (hzc : zc = z.2.1.length) (hzs : zs = s_sl z.2) (IH : s_IH l D b tt L sb xs d)
    (RV : ∀ (pc : Nat) (H : Heap) (locs : List Loc) (cells slots : Nat) (ws : va_W) (tys : List (ClassId × FieldType)) (lsR : Array Slot), decode q.2.1 pc = .ok (.return_, 1) → j_ret y = 0 → s_St D b tt L sb xs s z.2 H locs tys ws → (∀ a q : Nat, ρ0 a = some q → s_ρ b tt ws a = some q) → s_ov (s_ρ b tt ws) z.1 none → cells = mc → slots = ms → W p l e R s m args below meth c H locs cells slots Q (F0 m pc lsR [])) (e0 : j_run (c_call d) n y 0 ls [] h = some z) (hn : ls.length = nL) : s_G D b tt L sb xs s ρ0 nL zc zs mc ms m (fun H locs cells slots g => W p l e R s m args below meth c H locs cells slots Q g) 0 ls [] h := by
  subst hy
  cases (show some (yJ0_checkIndex_df160, cJ0_checkIndex_df160, 2, none, 0, 1, 2) = some q from hq)
  have hw := s_words hC
  have hcall : ∀ k as h z, c_call d k as h = some z → s_ge h z.2 := fun k as h z hz => c_call_cnt hz
  obtain ⟨n1, e1⟩ := j_run_s e0
  unfold j_step at e1
  rw [show j_at 273 0 = some (.iload_n 0, 0, 0, 0) by decide +kernel] at e1
  simp only [j_op] at e1
  split at e1
  rotate_left
  · cases e1
  rename_i a hla
  refine r_iload_n hC hla (by decide +kernel) ?_
  obtain ⟨n2, e2⟩ := j_run_s e1
  unfold j_step at e2
  rw [show j_at 273 (0 + 1) = some (.iload_n 1, 0, 0, 0) by decide +kernel] at e2
  simp only [j_op] at e2
  split at e2
  rotate_left
  · cases e2
  rename_i a1 hla1
  refine r_iload_n hC hla1 (by decide +kernel) ?_
  obtain ⟨n3, e3⟩ := j_run_s e2
  unfold j_step at e3
  rw [show j_at 273 (0 + 1 + 1) = some (.goto 3, 5, 0, 0) by decide +kernel] at e3
  simp only [j_op] at e3
  obtain ⟨n4, e4⟩ := j_run_s e3
  unfold j_step at e4
  rw [show j_at 273 5 = some (.invokestatic 1059, 282, 2, 0) by decide +kernel] at e4
  simp only [j_op] at e4
  have hm : j_meth[282]? = some (yJ3_checkIndex_8e157, cJ3_checkIndex_8e157, 3, some .int, 20, 1, 2) := rfl
  have e5 : ((c_call d 282 [jI a, jI a1] h).bind fun z => j_run (c_call d) n4 273 (5 + 3) ls (z.1.toList ++ []) z.2) = some z := by
    simpa using e4
  obtain ⟨w, hw1, e6⟩ := i_bind e5
  obtain ⟨k1, k2, k3, k4, k5, -, k6, -⟩ := s_mok hm (by decide) (by decide)
  have k7 := k6 rfl
  rw [if_pos (Or.inr rfl)] at k4
  have hRO := hC.2.2.2.2.2.2.2.2
  obtain ⟨v, hv1, hZ⟩ := hRO.2.2.2.2.2.2.2.1.2.2.2.2.2.2.2.2
  intro H locs cells slots ws tys lsR rl stR hS hx hl hv hst hc hs
  obtain ⟨hge1, hge2⟩ := hcall _ _ _ _ hw1
  obtain ⟨hge3, hge4⟩ := j_run_cnt hcall e6
  obtain ⟨w1, w2, zz, rfl, ⟨q2, rfl, hq2⟩, ⟨q1, rfl, hq1⟩, hzz⟩ := s_st2 hst
  have hzz : zz = [] := by
    cases zz with
    | nil => rfl
    | cons a b => exact hzz.elim
  subst hzz
  have hfix : CallFix p m c cJ0_checkIndex_df160 nL s args lwW (j_cnm 0) := ⟨hC.1, hC.2.1, hC.2.2.1, hC.2.2.2.1, hw⟩
  have hM := IH _ _ _ _ hw1 (by decide) _ hm (by decide) ws tys [.int q1, .int q2] [v] (Or.inr ⟨Or.inr rfl, v, rfl, hv1, (show 2 + 1 ≤ j_ml 282 by decide +kernel)⟩) hS.1 ⟨⟨q1, rfl, hq1⟩, ⟨q2, rfl, hq2⟩, trivial⟩
  have hlk : Cond.methodLink "java/lang/String" 1059 yJ3_checkIndex_8e157 ∈ lwW := j_has_mem (by decide +kernel)
  have hfl : Cond.fieldLink "java/lang/String" 1053 "jdk/internal/util/Preconditions" "SIOOBE_FORMATTER" "Ljava/util/function/BiFunction;" ∈ lwW := j_has_mem (by decide +kernel)
  refine va_gets (own := "java/lang/String") (index := 1053) hC.1 hC.2.1 hZ hS.2.2.2.2 hC.2.2.2.1 (hw _ hfl) (fun x hx => hx) (by decide +kernel) ?_
  show W p l e R s m args below meth c H locs cells slots Q (F0 m 5 lsR [v, .int q2, .int q1])
  refine s_back (pc := 5) (mc := mc) (ms := ms) (zc := zc) (zs := zs) (ls := ls) (r := []) ?_ hS hx hl hv (rest := []) trivial (by omega) (by omega) (va_runS (As := [.int q1, .int q2, v]) hfix hM (va_cwS 3 hw (s_good (fun v hv => ?_)) rfl rfl rfl ⟨k4.1, k4.2.1, k4.2.2⟩ ⟨hRm.1, by show 8 + (3 + 11) + (92 + 32 * d) ≤ R.locals; omega⟩) ⟨s_blind, fun U hU hW => s_start hC hS U hU hW⟩ rfl rfl (hv.1) rfl (lv_room (by decide)) (show decode cJ0_checkIndex_df160 5 = .ok (.invokestatic 1059, 3) by decide +kernel) ⟨by omega, by omega⟩)
  · obtain ⟨n5, e7⟩ := j_run_s e6
    unfold j_step at e7
    rw [show j_at 273 (5 + 3) = some (.pop, 0, 0, 0) by decide +kernel] at e7
    simp only [j_op] at e7
    split at e7
    · rename_i u r hst2
      split at e7
      · rename_i hc1
        rw [hst2]
        exact r_pop hC hc1 (by decide +kernel) (s_rv (y := 273) (x1 := 0) (x2 := 0) (x3 := 0) (by decide +kernel) (by decide +kernel) hzc hzs RV e7)
      · cases e7
    · cases e7
  · unfold va_wsS at hv
    rcases List.mem_append.mp hv with hv | hv
    · simp only [List.mem_cons, List.not_mem_nil, or_false] at hv
      rcases hv with rfl | rfl | rfl
      · exact hlk
      · exact k7
      · exact k2
    · exact (k1 v hv).1
theorem s_go {d y : Nat} {z : j_Z} (hC : s_C p s m args meth c R q b tt L sb xs nL) (hq : j_meth[y]? = some q) (hRm : d + 1 ≤ R.frames ∧ 124 + 32 * d ≤ R.locals) (hRc : mc ≤ R.cells) (hRs : ms ≤ R.slots) (hzc : zc = z.2.1.length) (hzs : zs = s_sl z.2) (IH : s_IH l D b tt L sb xs d)
    (RI : ∀ (pc : Nat) (H : Heap) (locs : List Loc) (cells slots : Nat) (ws : va_W) (tys : List (ClassId × FieldType)) (lsR : Array Slot) (v : Int32), decode q.2.1 pc = .ok (.ireturn, 1) → (j_ret y = 1 ∨ (j_ret y = 3 ∧ (v = 0 ∨ v = 1)) ∨ (j_ret y = 4 ∧ -128 ≤ v.toInt ∧ v.toInt ≤ 127) ∨ (j_ret y = 5 ∧ 0 ≤ v.toInt ∧ v.toInt ≤ 65535)) → s_St D b tt L sb xs s z.2 H locs tys ws → (∀ a q : Nat, ρ0 a = some q → s_ρ b tt ws a = some q) → s_ov (s_ρ b tt ws) z.1 (some (.int v)) → cells = mc → slots = ms → W p l e R s m args below meth c H locs cells slots Q (F0 m pc lsR [.int v]))
    (RA : ∀ (pc : Nat) (H : Heap) (locs : List Loc) (cells slots : Nat) (ws : va_W) (tys : List (ClassId × FieldType)) (lsR : Array Slot) (v : Nat), decode q.2.1 pc = .ok (.areturn, 1) → j_ret y = 6 → s_St D b tt L sb xs s z.2 H locs tys ws → (∀ a q : Nat, ρ0 a = some q → s_ρ b tt ws a = some q) → s_ov (s_ρ b tt ws) z.1 (some (.ref v)) → cells = mc → slots = ms → W p l e R s m args below meth c H locs cells slots Q (F0 m pc lsR [.ref v]))
    (RL : ∀ (pc : Nat) (H : Heap) (locs : List Loc) (cells slots : Nat) (ws : va_W) (tys : List (ClassId × FieldType)) (lsR : Array Slot) (v : Int64), decode q.2.1 pc = .ok (.lreturn, 1) → j_ret y = 2 → s_St D b tt L sb xs s z.2 H locs tys ws → (∀ a q : Nat, ρ0 a = some q → s_ρ b tt ws a = some q) → s_ov (s_ρ b tt ws) z.1 (some (.long v)) → cells = mc → slots = ms → W p l e R s m args below meth c H locs cells slots Q (F0 m pc lsR [.long v]))
    (RV : ∀ (pc : Nat) (H : Heap) (locs : List Loc) (cells slots : Nat) (ws : va_W) (tys : List (ClassId × FieldType)) (lsR : Array Slot), decode q.2.1 pc = .ok (.return_, 1) → j_ret y = 0 → s_St D b tt L sb xs s z.2 H locs tys ws → (∀ a q : Nat, ρ0 a = some q → s_ρ b tt ws a = some q) → s_ov (s_ρ b tt ws) z.1 none → cells = mc → slots = ms → W p l e R s m args below meth c H locs cells slots Q (F0 m pc lsR [])) : ∀ (n : Nat) (ls : j_L) (h : j_H), j_run (c_call d) n y 0 ls [] h = some z → ls.length = nL → s_G D b tt L sb xs s ρ0 nL zc zs mc ms m (fun H locs cells slots g => W p l e R s m args below meth c H locs cells slots Q g) 0 ls [] h := by
  intro n ls h e hn
  by_cases hsp : j_spc y
  · rcases hsp with hsp | hsp
    · exact s_sp1 hsp hq hC hRm hRc hRs hzc hzs IH RV e hn
    · exact s_sp2 hsp hq hC hRm hRc hRs hzc hzs IH RV e hn
  · exact s_run hsp hC hq hRm hRc hRs hzc hzs IH RI RA RL RV n 0 ls [] h e hn
end SX
theorem Met_ofWF {l : Launch} {y : MethodName} {ws ws' : List Cond} {rm : Room} {Pc : Array Value → State → Prop} {Qc : Array Value → State → Outcome → State → Prop} {mc ms : Nat} {free : Addr → Prop} {cc : ByteArray} {maxL : Nat} {ret : Option FieldType}
    (hy : plainFor y = true) (hw : ws = Cond.code y cc maxL ret :: ws')
    (body : ∀ p e s m args below meth c s₁, BodyLoose p l y (headSpec ws rm) cc maxL ret e s m args below meth c s₁ → c.maxLocals = maxL → Pc args s →
      W p l e (headSpec ws rm).room s m args below meth c s.heap [] 0 0 (MQ below Qc args s mc ms free) (entryFrame m args maxL)) : Met l y ws rm Pc Qc mc ms free := by
  refine MetFree.of_bodySF (code := cc) (maxLocals := maxL) (ret := ret) hy ?_ ?_
  · intro args s m h hn
    obtain ⟨meth, c, h1, h2, h3, h4, h5, h6, -, -⟩ := Cond.code_spec hn (atoms_spec (ws := ws) h _ (by rw [hw]; exact List.mem_cons_self))
    exact ⟨meth, c, h1, h2, h3, h4, h5, h6⟩
  · intro p e s m args below meth c s₁ B hml hP _
    have hh0 : s₁.heap = s.heap := by rw [B.state]; rfl
    obtain ⟨t, a1, o, b1, b2, b3⟩ := body p e s m args below meth c s₁ B hml hP s₁ hh0 (Stand.of_body B)
    exact ⟨t, o, a1, b1, b2, ⟨b3.1, b3.2⟩⟩
def r_ent : List Value → List (Option Value)
  | [] => []
  | v :: r => if v.category = 2 then some v :: none :: r_ent r else some v :: r_ent r
theorem s_ent {ρ : j_P} : ∀ {as : List j_V} {was : List Value}, s_st ρ as was → s_lo ρ (j_ent as) (r_ent was)
  | [], [], _ => trivial
  | v :: r, w :: q, h => by
    have hc := s_val_cat h.1
    unfold j_ent r_ent
    by_cases e : j_isL v = true
    · rw [if_pos e, if_pos (hc.trans (j_cat_isL.mp e))]
      exact ⟨h.1, s_ent (as := r) (was := q) h.2⟩
    · rw [if_neg e, if_neg (fun h2 => e (j_cat_isL.mpr (hc.symm.trans h2)))]
      exact ⟨h.1, s_ent (as := r) (was := q) h.2⟩
theorem s_lo_rep {ρ : j_P} {n : Nat} : ∀ {ls : j_L} {rl : List (Option Value)}, s_lo ρ ls rl → s_lo ρ (ls ++ List.replicate n none) (rl ++ List.replicate n none)
  | [], [], h => by
    simp only [List.nil_append]
    induction n with
    | zero => trivial
    | succ n ih => exact ih
  | none :: r, none :: q, h => s_lo_rep (ls := r) (rl := q) h
  | some v :: r, some w :: q, h => ⟨h.1, s_lo_rep (ls := r) (rl := q) h.2⟩
theorem s_as_rep {n : Nat} : ∀ k, s_as k (List.replicate n none) = [] := by
  induction n with
  | zero => intro k; rfl
  | succ n ih => intro k; exact ih (k + 1)
theorem s_as_ent {n : Nat} : ∀ (was : List Value) (k : Nat), s_as k (r_ent was ++ List.replicate n none) = lv_args k was
  | [], k => s_as_rep k
  | v :: r, k => by
    unfold r_ent lv_args
    by_cases e : v.category = 2
    · rw [if_pos e, if_pos e]
      exact congrArg (fun x => (k, v) :: x) (s_as_ent r (k + 1 + 1))
    · rw [if_neg e, if_neg e]
      exact congrArg (fun x => (k, v) :: x) (s_as_ent r (k + 1))
theorem s_sl_len : ∀ (was : List Value), (lg_sl was).length = (r_ent was).length
  | [] => rfl
  | v :: r => by
    have ih := s_sl_len r
    unfold r_ent
    unfold lg_sl at ih ⊢
    rw [List.flatMap_cons, List.length_append, ih]
    by_cases e : v.category = 2
    · rw [if_pos e, if_pos e]
      simp
      omega
    · rw [if_neg e, if_neg e]
      simp
      omega
theorem s_args_sub : ∀ (was ex : List Value) (k : Nat) (q : Nat × Value), q ∈ lv_args k was → q ∈ lv_args k (was ++ ex)
  | [], _, _, _, h => absurd h (by unfold lv_args; exact List.not_mem_nil)
  | v :: r, ex, k, q, h => by
    rw [List.cons_append]
    unfold lv_args at h ⊢
    split at h
    · rename_i e
      rw [if_pos e]
      rcases List.mem_cons.mp h with h | h
      · exact List.mem_cons.mpr (Or.inl h)
      · exact List.mem_cons.mpr (Or.inr (s_args_sub r ex _ q h))
    · rename_i e
      rw [if_neg e]
      rcases List.mem_cons.mp h with h | h
      · exact List.mem_cons.mpr (Or.inl h)
      · exact List.mem_cons.mpr (Or.inr (s_args_sub r ex _ q h))
theorem s_args_app {A : Array Slot} {n : Nat} {was ex : List Value} (h : lv_has A n (lv_args 0 (was ++ ex))) : lv_has A n (lv_args 0 was) := ⟨h.1, h.2.1, fun q hq => h.2.2 q (s_args_sub was ex 0 q hq)⟩
theorem s_nar_b {v : Int32} (h : -128 ≤ v.toInt ∧ v.toInt ≤ 127) : narrow .byte (.int v) = .int v := by
  show Value.int v.toInt8.toInt32 = .int v
  congr 1
  apply Int32.toInt_inj.mp
  rw [Int8.toInt_toInt32, Int32.toInt_toInt8]
  unfold Int.bmod
  simp only
  omega
theorem s_chr {v : Int32} (h : 0 ≤ v.toInt ∧ v.toInt ≤ 65535) : (v.toUInt32 % 65536).toInt32 = v := by
  have h1 : v.toBitVec.toNat < 65536 := by
    have h2 : v.toInt = v.toBitVec.toInt := rfl
    rw [h2, BitVec.toInt_eq_toNat_cond] at h
    split at h <;> omega
  rw [pk_char, Nat.mod_eq_of_lt h1]
  apply Int32.toBitVec_inj.mp
  apply BitVec.eq_of_toNat_eq
  rw [pk_tn (by omega)]
theorem s_nar_c {v : Int32} (h : 0 ≤ v.toInt ∧ v.toInt ≤ 65535) : narrow .char (.int v) = .int v := by
  have h1 := pk_nc v
  rw [s_chr h] at h1
  exact h1
set_option maxHeartbeats 4000000 in
theorem s_main (l : Launch) (D : va_G) (b : Nat) (tt : Nat → Nat) (L sb : Nat) (xs : Nat → Int32) : ∀ d, s_IH l D b tt L sb xs d := by
  intro d
  induction d with
  | zero => intro k as h z e; cases e
  | succ d ih =>
    intro k as h z e hk mq hmq h3 ws tys was ex hex hw hst
    have hcnt := c_call_cnt e
    unfold c_call at e
    split at e
    · rename_i hlen
      obtain ⟨n, e⟩ := (j_fin_some _).mp e
      obtain ⟨k1, k2, k3, k4, k5, k6, k7, k8⟩ := s_mok hmq hk h3
      have hml0 : j_ml k = mq.2.2.1 := by unfold j_ml; rw [hmq]
      rw [hml0] at hlen
      have hent := s_ent hst
      have hlen2 : (r_ent was).length = (j_ent as).length := (s_lo_len hent).symm
      refine Met_ofWF (ws' := lwW) (j_pf hmq) rfl ?_
      intro p e1 s m args below meth c s₁ B hml hP
      obtain ⟨rfl, hP1, hK1, hD1, hRO⟩ := hP
      rw [lg_entry_eq]
      have hsl : (lg_sl (was ++ ex)).length ≤ mq.2.2.1 := by
        have h1 : (lg_sl (was ++ ex)).length = (lg_sl was).length + (lg_sl ex).length := by
          unfold lg_sl
          rw [List.flatMap_append, List.length_append]
        rw [h1, s_sl_len was, hlen2]
        rcases hex with ⟨rfl, -, -⟩ | ⟨-, v, rfl, hv1, hv2⟩
        · exact hlen
        · rw [s_sl_len]
          unfold r_ent
          rw [if_neg (by omega)]
          rw [hml0] at hv2
          exact hv2
      have hv0 := lv_entry (was ++ ex) (n := mq.2.2.1) hsl
      have hv := s_args_app hv0
      have hpre := atoms_spec (ws := s_ws mq) B.pre
      have hC : s_C p s m (was ++ ex).toArray meth c (s_rm (d + 1) (z.2.1.length - h.1.length) (s_sl z.2 - s_sl h)) mq b tt L sb xs mq.2.2.1 := by
        refine ⟨B.exec, B.bytes, hml, by rw [← k3]; exact findClass_of_methodNamed B.named, fun w h1 h2 => hpre w (List.mem_cons_of_mem _ (List.mem_filter.mpr ⟨h1, h2⟩)), fun h2 => (name_of_methodNamed B.named B.method).1.trans (k8 h2).2.1, ?_, ?_, hRO⟩
        · show 40 ≤ 92 + 32 * (d + 1)
          omega
        · show 1 ≤ d + 1
          omega
      have hret := B.returns
      have hlocks := B.notSynchronized
      refine s_go (zc := z.2.1.length) (zs := s_sl z.2) (mc := z.2.1.length - h.1.length) (ms := s_sl z.2 - s_sl h) (ρ0 := s_ρ b tt ws) (D := D) hC hmq ⟨Nat.le_refl _, ?_⟩ (Nat.le_refl _) (Nat.le_refl _) rfl rfl ih ?_ ?_ ?_ ?_ n (j_loc k as) h e ?_ s.heap [] 0 0 ws tys _ (r_ent was ++ List.replicate (mq.2.2.1 - (lg_sl was).length) none) [] ⟨hw, hP1, hK1, hD1, va_S.rf⟩ (fun _ _ h => h) ?_ ?_ trivial ?_ ?_
      · show 124 + 32 * d ≤ 92 + 32 * (d + 1)
        omega
      · intro pc H locs cells slots ws1 tys1 lsR v hdg hr hS hx ho hc hs
        subst hc
        subst hs
        obtain ⟨q1, q2⟩ := r_ret (args := (was ++ ex).toArray) hS hx ho
        rcases hr with hr | ⟨hr, hv01⟩ | ⟨hr, hv01⟩ | ⟨hr, hv01⟩
        · exact W.iret B.exec B.bytes (hret.trans ((x_ret hmq hr).2.1 rfl)) q1 q2 hdg hlocks
        · refine W.zret (ty := .boolean) B.exec B.bytes (hret.trans ((x_ret hmq hr).2.2.2.1 rfl)) ?_ q1 q2 hdg hlocks
          rcases hv01 with rfl | rfl <;> rfl
        · exact W.zret (ty := .byte) B.exec B.bytes (hret.trans ((x_ret hmq hr).2.2.2.2.1 rfl)) (s_nar_b hv01) q1 q2 hdg hlocks
        · exact W.zret (ty := .char) B.exec B.bytes (hret.trans ((x_ret hmq hr).2.2.2.2.2.1 rfl)) (s_nar_c hv01) q1 q2 hdg hlocks
      · intro pc H locs cells slots ws1 tys1 lsR v hdg hr hS hx ho hc hs
        subst hc
        subst hs
        obtain ⟨q1, q2⟩ := r_ret (args := (was ++ ex).toArray) hS hx ho
        obtain ⟨rt, hrt1, hrt2⟩ := (x_ret hmq hr).2.2.2.2.2.2 rfl
        exact W.aret B.exec B.bytes (hret.trans hrt1) hrt2 (Or.inr ⟨_, rfl⟩) q1 q2 hdg hlocks
      · intro pc H locs cells slots ws1 tys1 lsR v hdg hr hS hx ho hc hs
        subst hc
        subst hs
        obtain ⟨q1, q2⟩ := r_ret (args := (was ++ ex).toArray) hS hx ho
        exact W.lret B.exec B.bytes (hret.trans ((x_ret hmq hr).2.2.1 rfl)) q1 q2 hdg hlocks
      · intro pc H locs cells slots ws1 tys1 lsR hdg hr hS hx ho hc hs
        subst hc
        subst hs
        obtain ⟨q1, q2⟩ := r_ret (args := (was ++ ex).toArray) hS hx ho
        exact W.vret B.exec B.bytes (hret.trans ((x_ret hmq hr).1 rfl)) q1 q2 hdg hlocks
      · unfold j_loc
        rw [hml0, List.length_append, List.length_replicate]
        omega
      · unfold j_loc
        rw [hml0, s_sl_len, hlen2]
        exact s_lo_rep hent
      · rw [s_as_ent]
        exact hv
      · have := hcnt.1
        omega
      · have := hcnt.2
        omega
    · cases e
