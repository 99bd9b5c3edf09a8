/-! THE CLAIM OUT OF ONE WALK OF THE LAW'S BODY. Your part is whole_start (and what it stands on); all else here is the same for every law, but numbers. -/
def R_law : String := "WholePacksLaw"
def lw_P (b : Addr) (xs : List Int32) (args : Array Value) (s : State) : Prop := args = #[.ref b] ∧ s.IntsAt b xs ∧ xs.length ≤ 3072 ∧ (Jvm.Cond.and given_1 narrow_1).before args s = true
def lw_Q (_ : Array Value) (s : State) (o : Outcome) (t : State) : Prop := o = .returned (some (.int 1)) ∧ Framed s o t [] 600000 7302249
def lw_Z (below : List Frame) (a : Array Value) (s : State) : State → Prop := fun t => ∃ o, t.status = .running ∧ Ended t below o ∧ lw_Q a s o t
/-- the law's own end, with 1 on the stack, nothing written that was there before, its room as the claim has it -/
theorem lw_ret {p : Program} {l : Launch} {e : Env} {s : State} {m : MethodId} {below : List Frame} {meth : Method} {c : Code} {b : Nat} (hx : p.tables.exec = Jvm.exec) (hb : c.code = code) (hr : meth.sig.returnType = ret) (hlocks : meth.locks = false) {pc : Nat} {H : Heap} {ls : Array Slot} (hdg : decode code pc = .ok (.ireturn, 1)) : W p l e room_1 s m #[Value.ref b] below meth c H [] 600000 7302249 (lw_Z below #[Value.ref b] s) (F0 m pc ls [.int 1]) := by
  intro T hT X
  obtain ⟨fs, hret, hrun, hended, hW, hframe⟩ := X.leave (v := some (.int 1)) (hlocks := hlocks) (fun h => by rw [hr] at h; cases h)
  have hmeth' : T.vm.method? m = some meth := X.method'
  refine ⟨T.setFrames fs, ?_, .returned (some (.int 1)), hrun, hended, rfl, ⟨_, rfl⟩, hW, hframe⟩
  jvm_step X.here [X.here.top, hx, hb, hdg, hmeth', hr, ret, narrow_b1]
  (try refine ⟨rfl, ?_⟩); (try refine ⟨rfl, ?_⟩)
  first | (intro acts; rw [hret _ acts rfl rfl rfl]) | rw [hret _ _ rfl rfl rfl]
  exact Steps.refl _
/-- what holds at the law's entry: the machine, the code, the tables' words (any of lw_tbl by 'hts w (by decide +kernel)'), the script of L ints xs at the cell b, what the Statement gives of the start (any of its parts by flat_of_before) -/
def lw_At (p : Program) (s : State) (m : MethodId) (meth : Method) (c : Code) (b L : Nat) (xs : Nat → Int32) : Prop :=
  p.tables.exec = Jvm.exec ∧ c.code = code ∧ meth.sig.returnType = ret ∧ c.maxLocals = 4 ∧ s.vm.findClass R_law = some m.cls ∧ (∀ w ∈ lw_tbl, w.before #[Value.ref b] s = true) ∧ va_X b L xs s s.heap ∧ b < s.heap.size ∧ meth.locks = false ∧ (Jvm.Cond.and given_1 narrow_1).before #[Value.ref b] s = true
/-- the heap of the start: the script, TENS -/
def l_h0 (L : Nat) (xs : Nat → Int32) : j_H := ([(32, L), (32, 6)], [[], []], fun a i => if a = 0 then (xs i).toInt else if a = 1 then (s_tn i).toInt else 0)
/-- what is left to show: the abstract machine's law answers 1 -/
def l_Goal : Prop := ∀ (L : Nat) (xs : Nat → Int32), L ≤ 3072 → ∃ h : j_H, j_fin (c_call 10) 271 0 [some (jR 0), none, none, none] [] (l_h0 L xs) = some (some (jI 1), h) ∧ h.1.length ≤ 600002 ∧ s_sl h ≤ 7302249 + 6
theorem l_tens (j : Nat) (hj : j < 6) {args : Array Value} {s : State} (hgv : (Jvm.Cond.and given_1 narrow_1).before args s = true) : (Term.elem (.static "WholePacks" "TENS" "[I") (.int (Int32.ofNat j))).eval args s none [] s = some (.int (s_tn j)) := by
  have hs := flat_of_before _ hgv
  match j, hj with
  | 0, _ => exact va_eqt (hs _ (by decide +kernel))
  | 1, _ => exact va_eqt (hs _ (by decide +kernel))
  | 2, _ => exact va_eqt (hs _ (by decide +kernel))
  | 3, _ => exact va_eqt (hs _ (by decide +kernel))
  | 4, _ => exact va_eqt (hs _ (by decide +kernel))
  | 5, _ => exact va_eqt (hs _ (by decide +kernel))
set_option maxHeartbeats 4000000 in
set_option maxRecDepth 100000 in
theorem l_start (HG : l_Goal) {p : Program} {e : Env} {s : State} {m : MethodId} {below : List Frame} {meth : Method} {c : Code} (l : Launch) (hflags : l.flags = flags0) {b L : Nat} {xs : Nat → Int32} (hL : L ≤ 3072) (C0 : lw_At p s m meth c b L xs) : W p l e room_1 s m #[Value.ref b] below meth c s.heap [] 0 0 (lw_Z below #[Value.ref b] s) (entryFrame m ([Value.ref b] : List Value).toArray 4) := by
  obtain ⟨hx, hb, hr, hml, hown, hts, hX, hbl, hlocks, hgv⟩ := C0
  obtain ⟨h, hfin, hcb, hsb⟩ := HG L xs hL
  obtain ⟨n, hrun⟩ := (j_fin_some _).mp hfin
  have hcnt := j_run_cnt (fun k as h z hz => c_call_cnt hz) hrun
  have hwords : ∀ w ∈ lwW, w.before #[Value.ref b] s = true := fun w hw => hts w (List.mem_filter.mp hw).1
  have hA : ∀ a : Nat, a < s.heap.size → ¬ s_A s.heap.size a := fun a ha h1 => absurd h1 (Nat.not_le.mpr ha)
  have hs := flat_of_before _ hgv
  obtain ⟨tt, hev, hT⟩ := va_Tof (args := #[Value.ref b]) (s := s) (tm := .static "WholePacks" "TENS" "[I") (ty := .int) (N := 6) (f := fun j => .int (s_tn j)) (A := s_A s.heap.size) (by decide) (hs _ (by decide +kernel)) (va_eqt (hs _ (by decide +kernel))) (fun j hj => l_tens j hj hgv) hA
  have hZ := va_Zof (A := s_A s.heap.size) (hts _ (j_any_mem j_lays)) (hts (.initialized "WholePacks") (by decide +kernel)) hev hA
  have hS : va_T .int b L (fun j => .int (xs j)) (s_A s.heap.size) s s.heap := by
    obtain ⟨scr, h1, h2, h3, h4, h5⟩ := hX
    exact ⟨scr, h1, h2, h3, Nat.le_of_eq h4.symm, by rw [h4], h5, hA b hbl⟩
  have hRO : s_RO b tt L s.heap.size xs s s.heap := by
    refine ⟨hS, by omega, hT, hZ, fun t ht => ?_, fun t ht => ?_, fun t ht => ?_, va_AOA.of (hts _ (j_any_mem j_over)), Nat.le_refl _⟩
    · have h1 := List.all_eq_true.mp j_fn_ok t ht
      unfold j_fnk at h1
      split at h1
      · simp only [Bool.and_eq_true] at h1
        exact va_Nw.of rfl (hts _ (List.mem_of_getElem? (of_decide_eq_true h1.2.2)))
      · cases h1
    · exact va_Nw.of rfl (hts _ (List.mem_of_getElem? (of_decide_eq_true (List.all_eq_true.mp j_fsn_ok t ht))))
    · exact va_Nw.of rfl (hts _ (List.mem_of_getElem? (of_decide_eq_true (List.all_eq_true.mp j_mn_ok t ht))))
  have hk : ∀ k : Nat, ∃ (cC : ClassId) (iS : Nat → Nat), ∀ r : vw_C, vwCl[k]? = some r → u_Kn s r.1 r.2.1 r.2.2 cC iS := by
    intro k
    cases hr : vwCl[k]? with
    | none => exact ⟨0, fun _ => 0, fun r h => by cases h⟩
    | some r =>
      obtain ⟨z1, z2, z3, z4, z5, z6, z7, z8⟩ := s_cl hr
      obtain ⟨cC, iS, h1⟩ := u_known (ws := lwW) hwords z1 (hwords _ z6)
      exact ⟨cC, iS, fun r2 h2 => by cases h2; exact h1⟩
  obtain ⟨D, hK⟩ : ∃ D : va_G, va_K D vwCl [] s := ⟨(fun k => (hk k).choose, fun k => (hk k).choose_spec.choose), fun k r h => (hk k).choose_spec.choose_spec r h, fun k q h => by simp at h⟩
  have hq : j_meth[271]? = some (yL_law, cL_law, 4, some .boolean, 13, 1, 1) := rfl
  have hC : s_C p s m #[Value.ref b] meth c room_1 (yL_law, cL_law, 4, some .boolean, 13, 1, 1) b tt L s.heap.size xs 4 := by
    have hkd : ((yL_law, cL_law, 4, some FieldType.boolean, 13, 1, 1) : j_M).2.2.2.2.2.1 = 2 → meth.name = "<init>" := fun h1 => absurd h1 (by decide)
    have h40 : 40 ≤ room_1.locals := by decide
    have h41 : 1 ≤ room_1.frames := by decide
    exact ⟨hx, hb, hml, hown, fun w h1 _ => hts w h1, hkd, h40, h41, hRO⟩
  rw [lg_entry_eq]
  have hv := lv_entry [.ref b] (n := 4) (Nat.le_of_ble_eq_true rfl)
  have h0w : s_w b tt L xs [] (l_h0 L xs) [] := by
    refine ⟨rfl, rfl, ⟨rfl, fun i hi => rfl⟩, ⟨rfl, fun i hi => rfl⟩, fun k q h => by simp at h, fun q hq => ?_⟩
    rcases List.mem_cons.mp hq with rfl | hq
    · show L ≤ 100000
      omega
    · cases List.mem_singleton.mp hq
      show 6 ≤ 100000
      omega
  have hsl0 : s_sl (l_h0 L xs) = L + 6 := by simp [s_sl, l_h0]
  refine s_run (y := 271) (d := 10) (z := (some (jI 1), h)) (zc := h.1.length) (zs := s_sl h) (mc := h.1.length - 2) (ms := s_sl h - (L + 6)) (ρ0 := []) (D := D) hC hq ⟨by decide, by decide⟩ ?_ ?_ rfl rfl (s_main l D b tt L s.heap.size xs 10) ?_ ?_ ?_ n 0 _ [] (l_h0 L xs) hrun rfl s.heap [] 0 0 [] [] _ [some (.ref b), none, none, none] [] ⟨h0w, fun k q h => by simp at h, hK, ⟨fun i j p q h => by simp at h, fun k q h => by simp at h⟩, va_S.rf⟩ (fun a q h => by simp at h) ⟨⟨b, rfl, rfl⟩, trivial⟩ hv trivial ?_ ?_
  · show h.1.length - 2 ≤ 600000
    omega
  · show s_sl h - (L + 6) ≤ 7302249
    omega
  · intro pc H locs cells slots ws1 tys1 lsR v hdg hr1 hS1 hx1 ho hc hs1
    obtain ⟨n1, e1, e2⟩ := ho
    cases e1
    have hv1 : v = 1 := Int32.toInt_inj.mp e2
    subst hv1
    refine va_forget (fun q hq => hS1.2.2.2.2.2.2 q hq) (W.widen (k := 600000) (n := 7302249) (by omega) (by omega) ?_)
    exact lw_ret hx hb hr hlocks hdg
  · intro pc H locs cells slots ws1 tys1 lsR v hdg hr1
    exact absurd hr1 (by decide)
  · intro pc H locs cells slots ws1 tys1 lsR hdg hr1
    exact absurd hr1 (by decide)
  · have := hcnt.1
    have h2 : (l_h0 L xs).1.length = 2 := rfl
    simp only [h2] at this ⊢
    omega
  · have := hcnt.2
    rw [hsl0] at this ⊢
    simp only at this
    omega
