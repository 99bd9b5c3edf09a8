/-! Every method of the program meets what the abstract machine says of it. -/
section SX
variable {p : Program} {l : Launch} {e : Env} {R : Room} {s : State} {m : MethodId} {args : Array Value} {below : List Frame} {meth : Method} {c : Code} {Q : State → Prop} {D : va_G} {b tt L sb nL zc zs mc ms pc : Nat} {xs : Nat → Int32} {ρ0 : List Nat} {q : j_M} {ls : j_L} {st r : List j_V} {h : j_H}
theorem s_run {d y : Nat} {z : j_Z} (hC : s_C p s m args meth c R q b tt L sb xs nL) (hq : j_meth[y]? = some q) (hRm : d + 1 ≤ R.frames ∧ 124 + 32 * d ≤ R.locals) (hRc : mc ≤ R.cells) (hRs : ms ≤ R.slots) (hzc : zc = z.2.1.length) (hzs : zs = s_sl z.2) (IH : s_IH l D b tt L sb xs d)
    (RI : ∀ (pc : Nat) (H : Heap) (locs : List Loc) (cells slots : Nat) (ws : va_W) (tys : List (ClassId × FieldType)) (lsR : Array Slot) (v : Int32), decode q.2.1 pc = .ok (.ireturn, 1) → (j_ret y = 1 ∨ (j_ret y = 3 ∧ (v = 0 ∨ v = 1))) → s_St D b tt L sb xs s z.2 H locs tys ws → (∀ a q : Nat, ρ0[a]? = some q → (s_ρ b tt ws)[a]? = some q) → s_ov (s_ρ b tt ws) z.1 (some (.int v)) → cells = mc → slots = ms → W p l e R s m args below meth c H locs cells slots Q (F0 m pc lsR [.int v]))
    (RL : ∀ (pc : Nat) (H : Heap) (locs : List Loc) (cells slots : Nat) (ws : va_W) (tys : List (ClassId × FieldType)) (lsR : Array Slot) (v : Int64), decode q.2.1 pc = .ok (.lreturn, 1) → j_ret y = 2 → s_St D b tt L sb xs s z.2 H locs tys ws → (∀ a q : Nat, ρ0[a]? = some q → (s_ρ b tt ws)[a]? = some q) → s_ov (s_ρ b tt ws) z.1 (some (.long v)) → cells = mc → slots = ms → W p l e R s m args below meth c H locs cells slots Q (F0 m pc lsR [.long v]))
    (RV : ∀ (pc : Nat) (H : Heap) (locs : List Loc) (cells slots : Nat) (ws : va_W) (tys : List (ClassId × FieldType)) (lsR : Array Slot), decode q.2.1 pc = .ok (.return_, 1) → j_ret y = 0 → s_St D b tt L sb xs s z.2 H locs tys ws → (∀ a q : Nat, ρ0[a]? = some q → (s_ρ b tt ws)[a]? = some q) → s_ov (s_ρ b tt ws) z.1 none → cells = mc → slots = ms → W p l e R s m args below meth c H locs cells slots Q (F0 m pc lsR [])) : ∀ (n pc : Nat) (ls : j_L) (st : List j_V) (h : j_H), j_run (c_call d) n y pc ls st h = some z → ls.length = nL → s_G D b tt L sb xs s ρ0 nL zc zs mc ms m (fun H locs cells slots g => W p l e R s m args below meth c H locs cells slots Q g) pc ls st h := by
  intro n
  induction n with
  | zero => intro pc ls st h e; cases e
  | succ n ih =>
    intro pc ls st h e hn
    unfold j_run at e
    exact s_step hC hq hRm hRc hRs hzc hzs IH RI RL RV (fun pc ls st h e hn => ih pc ls st h e hn) hn e
end SX
theorem Met_ofWF {l : Launch} {y : MethodName} {ws ws' : List Cond} {rm : Room} {Pc : Array Value → State → Prop} {Qc : Array Value → State → Outcome → State → Prop} {mc ms : Nat} {free : Addr → Prop} {cc : ByteArray} {maxL : Nat} {ret : Option FieldType}
    (hy : plainFor y = true) (hw : ws = Cond.code y cc maxL ret :: ws')
    (body : ∀ p e s m args below meth c s₁, BodyLoose p l y (headSpec ws rm) cc maxL ret e s m args below meth c s₁ → c.maxLocals = maxL → Pc args s →
      W p l e (headSpec ws rm).room s m args below meth c s.heap [] 0 0 (MQ below Qc args s mc ms free) (entryFrame m args maxL)) : Met l y ws rm Pc Qc mc ms free := by
  refine MetFree.of_bodySF (code := cc) (maxLocals := maxL) (ret := ret) hy ?_ ?_
  · intro args s m h hn
    obtain ⟨meth, c, h1, h2, h3, h4, h5, h6, -, -⟩ := Cond.code_spec hn (atoms_spec (ws := ws) h _ (by rw [hw]; exact List.mem_cons_self))
    exact ⟨meth, c, h1, h2, h3, h4, h5, h6⟩
  · intro p e s m args below meth c s₁ B hml hP _
    have hh0 : s₁.heap = s.heap := by rw [B.state]; rfl
    obtain ⟨t, a1, o, b1, b2, b3⟩ := body p e s m args below meth c s₁ B hml hP s₁ hh0 (Stand.of_body B)
    exact ⟨t, o, a1, b1, b2, ⟨b3.1, b3.2⟩⟩
def r_ent : List Value → List (Option Value)
  | [] => []
  | v :: r => if v.category = 2 then some v :: none :: r_ent r else some v :: r_ent r
theorem s_ent {ρ : List Nat} : ∀ {as : List j_V} {was : List Value}, s_st ρ as was → s_lo ρ (j_ent as) (r_ent was)
  | [], [], _ => trivial
  | v :: r, w :: q, h => by
    have hc := s_val_cat h.1
    unfold j_ent r_ent
    by_cases e : j_isL v = true
    · rw [if_pos e, if_pos (hc.trans (j_cat_isL.mp e))]
      exact ⟨h.1, s_ent (as := r) (was := q) h.2⟩
    · rw [if_neg e, if_neg (fun h2 => e (j_cat_isL.mpr (hc.symm.trans h2)))]
      exact ⟨h.1, s_ent (as := r) (was := q) h.2⟩
theorem s_lo_rep {ρ : List Nat} {n : Nat} : ∀ {ls : j_L} {rl : List (Option Value)}, s_lo ρ ls rl → s_lo ρ (ls ++ List.replicate n none) (rl ++ List.replicate n none)
  | [], [], h => by
    simp only [List.nil_append]
    induction n with
    | zero => trivial
    | succ n ih => exact ih
  | none :: r, none :: q, h => s_lo_rep (ls := r) (rl := q) h
  | some v :: r, some w :: q, h => ⟨h.1, s_lo_rep (ls := r) (rl := q) h.2⟩
theorem s_as_rep {n : Nat} : ∀ k, s_as k (List.replicate n none) = [] := by
  induction n with
  | zero => intro k; rfl
  | succ n ih => intro k; exact ih (k + 1)
theorem s_as_ent {n : Nat} : ∀ (was : List Value) (k : Nat), s_as k (r_ent was ++ List.replicate n none) = lv_args k was
  | [], k => s_as_rep k
  | v :: r, k => by
    unfold r_ent lv_args
    by_cases e : v.category = 2
    · rw [if_pos e, if_pos e]
      exact congrArg (fun x => (k, v) :: x) (s_as_ent r (k + 1 + 1))
    · rw [if_neg e, if_neg e]
      exact congrArg (fun x => (k, v) :: x) (s_as_ent r (k + 1))
theorem s_sl_len : ∀ (was : List Value), (lg_sl was).length = (r_ent was).length
  | [] => rfl
  | v :: r => by
    have ih := s_sl_len r
    unfold r_ent
    unfold lg_sl at ih ⊢
    rw [List.flatMap_cons, List.length_append, ih]
    by_cases e : v.category = 2
    · rw [if_pos e, if_pos e]
      simp
      omega
    · rw [if_neg e, if_neg e]
      simp
      omega
set_option maxHeartbeats 4000000 in
theorem s_main (l : Launch) (D : va_G) (b tt L sb : Nat) (xs : Nat → Int32) : ∀ d, s_IH l D b tt L sb xs d := by
  intro d
  induction d with
  | zero => intro k as h z e; cases e
  | succ d ih =>
    intro k as h z e hk mq hmq ws tys was hw hst
    have hcnt := c_call_cnt e
    unfold c_call at e
    split at e
    · rename_i hlen
      obtain ⟨n, e⟩ := (j_fin_some _).mp e
      obtain ⟨k1, k2, k3, k4, k5, k6, k7, k8⟩ := s_mok hmq hk
      have hml0 : j_ml k = mq.2.2.1 := by unfold j_ml; rw [hmq]
      rw [hml0] at hlen
      have hent := s_ent hst
      have hlen2 : (r_ent was).length = (j_ent as).length := (s_lo_len hent).symm
      refine Met_ofWF (ws' := lwW) (j_pf hmq) rfl ?_
      intro p e1 s m args below meth c s₁ B hml hP
      obtain ⟨rfl, hP1, hK1, hD1, hRO⟩ := hP
      rw [lg_entry_eq]
      have hv := lv_entry was (n := mq.2.2.1) (by rw [s_sl_len, hlen2]; exact hlen)
      have hpre := atoms_spec (ws := s_ws mq) B.pre
      have hC : s_C p s m was.toArray meth c (s_rm (d + 1) (z.2.1.length - h.1.length) (s_sl z.2 - s_sl h)) mq b tt L sb xs mq.2.2.1 := by
        refine ⟨B.exec, B.bytes, hml, by rw [← k3]; exact findClass_of_methodNamed B.named, fun w h1 h2 => hpre w (List.mem_cons_of_mem _ (List.mem_filter.mpr ⟨h1, h2⟩)), fun h2 => (name_of_methodNamed B.named B.method).1.trans (k8 h2).2.1, ?_, ?_, hRO⟩
        · show 40 ≤ 92 + 32 * (d + 1)
          omega
        · show 1 ≤ d + 1
          omega
      have hret := B.returns
      have hlocks := B.notSynchronized
      refine s_run (zc := z.2.1.length) (zs := s_sl z.2) (mc := z.2.1.length - h.1.length) (ms := s_sl z.2 - s_sl h) (ρ0 := s_ρ b tt ws) (D := D) hC hmq ⟨Nat.le_refl _, ?_⟩ (Nat.le_refl _) (Nat.le_refl _) rfl rfl ih ?_ ?_ ?_ n 0 (j_loc k as) [] h e ?_ s.heap [] 0 0 ws tys _ (r_ent was ++ List.replicate (mq.2.2.1 - (lg_sl was).length) none) [] ⟨hw, hP1, hK1, hD1, va_S.rf⟩ (fun _ _ h => h) ?_ ?_ trivial ?_ ?_
      · show 124 + 32 * d ≤ 92 + 32 * (d + 1)
        omega
      · intro pc H locs cells slots ws1 tys1 lsR v hdg hr hS hx ho hc hs
        subst hc
        subst hs
        obtain ⟨q1, q2⟩ := r_ret (args := was.toArray) hS hx ho
        rcases hr with hr | ⟨hr, hv01⟩
        · exact W.iret B.exec B.bytes (hret.trans ((x_ret hmq hr).2.1 rfl)) q1 q2 hdg hlocks
        · refine W.zret (ty := .boolean) B.exec B.bytes (hret.trans ((x_ret hmq hr).2.2.2 rfl)) ?_ q1 q2 hdg hlocks
          rcases hv01 with rfl | rfl <;> rfl
      · intro pc H locs cells slots ws1 tys1 lsR v hdg hr hS hx ho hc hs
        subst hc
        subst hs
        obtain ⟨q1, q2⟩ := r_ret (args := was.toArray) hS hx ho
        exact W.lret B.exec B.bytes (hret.trans ((x_ret hmq hr).2.2.1 rfl)) q1 q2 hdg hlocks
      · intro pc H locs cells slots ws1 tys1 lsR hdg hr hS hx ho hc hs
        subst hc
        subst hs
        obtain ⟨q1, q2⟩ := r_ret (args := was.toArray) hS hx ho
        exact W.vret B.exec B.bytes (hret.trans ((x_ret hmq hr).1 rfl)) q1 q2 hdg hlocks
      · unfold j_loc
        rw [hml0, List.length_append, List.length_replicate]
        omega
      · unfold j_loc
        rw [hml0, s_sl_len, hlen2]
        exact s_lo_rep hent
      · rw [s_as_ent]
        exact hv
      · have := hcnt.1
        omega
      · have := hcnt.2
        omega
    · cases e
