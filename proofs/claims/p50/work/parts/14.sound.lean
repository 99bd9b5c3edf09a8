/-! SOUNDNESS: what the abstract machine computes, the machine does. -/
section SI
variable {z : j_Z} {st : List j_V}
theorem i_bI {k : Int → Int → List j_V → Option j_Z} (e : j_bI st none k = some z) : ∃ x y r, st = jI y :: jI x :: r ∧ k x y r = some z := by
  unfold j_bI at e
  split at e
  · exact ⟨_, _, _, rfl, e⟩
  · cases e
theorem i_bL {k : Int → Int → List j_V → Option j_Z} (e : j_bL st none k = some z) : ∃ x y r, st = jL y :: jL x :: r ∧ k x y r = some z := by
  unfold j_bL at e
  split at e
  · exact ⟨_, _, _, rfl, e⟩
  · cases e
theorem i_uI {k : Int → List j_V → Option j_Z} (e : j_uI st none k = some z) : ∃ x r, st = jI x :: r ∧ k x r = some z := by
  unfold j_uI at e
  split at e
  · exact ⟨_, _, rfl, e⟩
  · cases e
theorem i_uL {k : Int → List j_V → Option j_Z} (e : j_uL st none k = some z) : ∃ x r, st = jL x :: r ∧ k x r = some z := by
  unfold j_uL at e
  split at e
  · exact ⟨_, _, rfl, e⟩
  · cases e
theorem i_el {k : Nat → Int → List j_V → Option j_Z} (e : j_el st none k = some z) : ∃ q i r, st = jI i :: jR q :: r ∧ k q i r = some z := by
  unfold j_el at e
  split at e
  · exact ⟨_, _, _, rfl, e⟩
  · cases e
theorem i_sI {k : Nat → Int → Int → List j_V → Option j_Z} (e : j_sI st none k = some z) : ∃ q i x r, st = jI x :: jI i :: jR q :: r ∧ k q i x r = some z := by
  unfold j_sI at e
  split at e
  · exact ⟨_, _, _, _, rfl, e⟩
  · cases e
theorem i_sL {k : Nat → Int → Int → List j_V → Option j_Z} (e : j_sL st none k = some z) : ∃ q i x r, st = jL x :: jI i :: jR q :: r ∧ k q i x r = some z := by
  unfold j_sL at e
  split at e
  · exact ⟨_, _, _, _, rfl, e⟩
  · cases e
theorem i_rg {h : j_H} {q kd : Nat} {i : Int} {k : Option j_Z} (e : j_rg h q kd i none k = some z) : ∃ n, h.1[q]? = some (kd, n) ∧ (0 ≤ i ∧ i < n) ∧ k = some z := by
  unfold j_rg at e
  split at e
  · rename_i c n hc
    split at e
    · rename_i hk
      split at e
      · exact ⟨n, by rw [hc, hk], by assumption, e⟩
      · cases e
    · cases e
  · cases e
theorem i_ob {h : j_H} {q c : Nat} {k : Option j_Z} (e : j_ob h q c none k = some z) : ∃ n, h.1[q]? = some (c, n) ∧ k = some z := by
  unfold j_ob at e
  split at e
  · rename_i d n hc
    split at e
    · rename_i hk
      exact ⟨n, by rw [hc, hk], e⟩
    · cases e
  · cases e
theorem i_obk {h : j_H} {q c : Nat} {k : Option j_Z} (e : j_obk h q c none k = some z) : ∃ n, j_kd h q = some (c, n) ∧ k = some z := by
  unfold j_obk at e
  split at e
  · rename_i d n hd
    split at e
    · rename_i hc
      exact ⟨n, by rw [hd, hc], e⟩
    · cases e
  · cases e
theorem i_fk {h : j_H} {a k : Nat} {g : Option j_Z} (e : j_fk h a k none g = some z) : (h.1[a]? = none → k ≤ 1) ∧ g = some z := by
  unfold j_fk at e
  split at e
  · rename_i hd
    exact ⟨fun h1 => (by rw [hd] at h1; cases h1), e⟩
  · split at e
    · rename_i hk
      exact ⟨fun _ => hk, e⟩
    · cases e
theorem i_op {β : Type} {o : Option β} {k : β → Option j_Z} (e : j_op o none k = some z) : ∃ v, o = some v ∧ k v = some z := by
  unfold j_op at e
  split at e
  · exact ⟨_, rfl, e⟩
  · cases e
theorem i_if {c : Int → Prop} [DecidablePred c] {t f : List j_V → Option j_Z} (e : j_if st none c t f = some z) : ∃ x r, st = jI x :: r ∧ (c x → t r = some z) ∧ (¬ c x → f r = some z) := by
  unfold j_if at e
  split at e
  · rename_i x r
    refine ⟨x, r, rfl, fun h => ?_, fun h => ?_⟩
    · rw [if_pos h] at e; exact e
    · rw [if_neg h] at e; exact e
  · cases e
theorem i_if2 {c : Int → Int → Prop} [∀ x y, Decidable (c x y)] {t f : List j_V → Option j_Z} (e : j_if2 st none c t f = some z) : ∃ x y r, st = jI y :: jI x :: r ∧ (c x y → t r = some z) ∧ (¬ c x y → f r = some z) := by
  unfold j_if2 at e
  split at e
  · rename_i y x r
    refine ⟨x, y, r, rfl, fun h => ?_, fun h => ?_⟩
    · rw [if_pos h] at e; exact e
    · rw [if_neg h] at e; exact e
  · cases e
theorem i_bind {C : Option j_Z} {f : j_Z → Option j_Z} (e : (C.bind f) = some z) : ∃ w, C = some w ∧ f w = some z := by
  cases C with
  | none => cases e
  | some w => exact ⟨w, rfl, e⟩
theorem i_get {h : j_H} {a c k : Nat} {g : j_V → Option j_Z} (e : j_get h a c k none g = some z) : ∃ v, j_gv h a c k = some v ∧ g v = some z := by
  unfold j_get at e
  unfold j_gv
  generalize j_ty c k = t at e ⊢
  match t, e with
  | 0, e => exact ⟨_, rfl, e⟩
  | 1, e => exact ⟨_, rfl, e⟩
  | 2, e => exact ⟨_, rfl, e⟩
  | n + 3, e =>
    obtain ⟨v, h1, h2⟩ := i_op e
    exact ⟨_, by rw [h1]; rfl, h2⟩
theorem i_put {h : j_H} {a c k : Nat} {v : j_V} {g : j_H → Option j_Z} (e : j_put h a c k v none g = some z) : ∃ h1, j_pv h a c k v = some h1 ∧ g h1 = some z := by
  unfold j_put at e
  unfold j_pv j_put
  split at e
  · split at e
    · exact ⟨_, rfl, e⟩
    · cases e
  · split at e
    · exact ⟨_, rfl, e⟩
    · cases e
  · split at e
    · split at e
      · rename_i hx
        exact ⟨_, if_pos hx, e⟩
      · cases e
    · cases e
  · split at e
    · exact ⟨_, rfl, e⟩
    · cases e
end SI
theorem s_ov_st {ρ : j_P} {v : Option j_V} {w : Option Value} {r : List j_V} {q : List Value} (h : s_ov ρ v w) (hq : s_st ρ r q) : s_st ρ (v.toList ++ r) (w.toList ++ q) := by
  match v, w, h with
  | none, none, _ => exact hq
  | some v, some w, h => exact ⟨h, hq⟩
def s_IH (l : Launch) (D : va_G) (b : Nat) (tt : Nat → Nat) (L sb : Nat) (xs : Nat → Int32) (d : Nat) : Prop := ∀ (k : Nat) (as : List j_V) (h : j_H) (z : j_Z), c_call d k as h = some z → k ≠ 271 → ∀ mq : j_M, j_meth[k]? = some mq → mq.2.2.2.2.2.1 ≠ 3 → ∀ (ws : va_W) (tys : List (ClassId × FieldType)) (was ex : List Value), (ex = [] ∧ k ≠ 277 ∧ k ≠ 282 ∨ (k = 277 ∨ k = 282) ∧ ∃ v : Value, ex = [v] ∧ v.category = 1 ∧ (j_ent as).length + 1 ≤ j_ml k) → s_w b tt L xs tys h ws → s_st (s_ρ b tt ws) as was →
  Met l mq.1 (s_ws mq) (s_rm d (z.2.1.length - h.1.length) (s_sl z.2 - s_sl h)) (va_Pc (was ++ ex) (s_Pre D b tt L sb xs tys ws)) (s_Q D b tt L sb xs (s_ρ b tt ws) z.2 z.1) (z.2.1.length - h.1.length) (s_sl z.2 - s_sl h) (s_A sb)
theorem s_lenset {ls l1 : j_L} {k nL : Nat} {v : j_V} (hn : ls.length = nL) (h : j_s1 ls k v = some l1) : l1.length = nL := by
  obtain ⟨-, -, rfl⟩ := j_s1_some h
  simpa using hn
theorem s_lenset2 {ls l1 : j_L} {k nL : Nat} {v : j_V} (hn : ls.length = nL) (h : j_s2 ls k v = some l1) : l1.length = nL := by
  obtain ⟨-, -, rfl⟩ := j_s2_some h
  simpa using hn
theorem s_kd_ne {h : j_H} {a c n : Nat} (e : j_kd h a = some (c, n)) (h34 : c ≠ 34) (h0 : c ≠ 0) : h.1[a]? = some (c, n) := by
  rcases s_kd e with h1 | ⟨-, h1⟩
  · exact h1
  · obtain ⟨i, hi, rfl⟩ := s_kc_in h1
    rcases s_kc_all i hi c n h1 with h2 | h2
    · exact absurd h2.1 h34
    · exact absurd h2.1 h0
/-- a nest mate's field is none of a text's -/
theorem j_fn_0 {t : Nat × Nat × Nat × Nat × Nat × Nat} {own : String} {ix c0 b : Nat} {host : String} {r0 : vw_C} (ht : t ∈ j_fn) (e : j_fnw t = Cond.fieldLinkNest own ix (r0.2.1 b).1 (r0.2.1 b).2.1 (r0.2.1 b).2.2.1 host) (hr : vwCl[c0]? = some r0) : c0 ≠ 0 := by
  intro h0
  subst h0
  cases (show some (RJ0, TJ0, 4) = some r0 from hr)
  have h1 : j_fn.all (fun t => match j_fnw t with | .fieldLinkNest _ _ C _ _ _ => decide (C ≠ "java/lang/String") | _ => true) = true := by decide +kernel
  have h2 := List.all_eq_true.mp h1 t ht
  rw [e] at h2
  have h3 : (TJ0 b).1 = "java/lang/String" := by
    unfold TJ0
    split <;> rfl
  have h4 : decide ((TJ0 b).1 ≠ "java/lang/String") = true := h2
  exact absurd h3 (of_decide_eq_true h4)
/-- a final field is its own class's -/
theorem x_fin {ci k : Nat} {r : vw_C} (hr : vwCl[ci]? = some r) (hk : k < r.2.2) (hf : (r.2.1 k).2.2.2 = true) : (r.2.1 k).1 = r.1 := by
  rcases (s_cl hr).2.2.1 k hk with h1 | rfl
  · exact h1
  · cases (show some (RJ4, TJ4, 4) = some r from hr)
    have h3 : (TJ4 k).2.2.2 = false := by
      unfold TJ4
      split <;> rfl
    have hf : (TJ4 k).2.2.2 = true := hf
    rw [h3] at hf
    cases hf
theorem x_vrc {a : Nat} {mq : j_M} (hm : j_meth[a]? = some mq) (h : mq.1 = j_asb mq.1 ∨ a = 287) : j_rcv mq.2.2.2.2.1 = 1 := by
  rcases h with h | h
  · have h1 : j_meth.all (fun q => decide (q.1.cls ≠ "java/lang/AbstractStringBuilder") || q.2.2.2.2.1 == 16) = true := by decide +kernel
    have h2 := List.all_eq_true.mp h1 mq (List.mem_of_getElem? hm)
    have h3 : mq.1.cls = "java/lang/AbstractStringBuilder" := by rw [h]; rfl
    rw [h3] at h2
    have h4 : mq.2.2.2.2.1 = 16 := by simpa using h2
    rw [h4]
    rfl
  · subst h
    cases (show some (yJ4_length_8abf5, cJ4_length_8abf5, 1, some .int, 1, 0, 0) = some mq from hm)
    rfl
section SS
variable {p : Program} {l : Launch} {e : Env} {R : Room} {s : State} {m : MethodId} {args : Array Value} {below : List Frame} {meth : Method} {c : Code} {Q : State → Prop} {D : va_G} {b : Nat} {tt : Nat → Nat} {L sb nL zc zs mc ms pc : Nat} {xs : Nat → Int32} {ρ0 : j_P} {q : j_M} {ls : j_L} {st r : List j_V} {h : j_H}
/-- whose method is called -/
theorem s_recv (hC : s_C p s m args meth c R q b tt L sb xs nL) {H : Heap} {locs : List Loc} {tys : List (ClassId × FieldType)} {ws : va_W} (hS : s_St D b tt L sb xs s h H locs tys ws) {A ci N q1 : Nat} (hA : j_kd h A = some (ci, N)) (hci : ci < 13) (hq : s_ρ b tt ws A = some q1) : ∃ r1 : vw_C, vwCl[ci]? = some r1 ∧ ∃ cell : Cell, H[q1]? = some cell ∧ cell.vm.isStatics = false ∧ s.vm.findClass r1.1 = some cell.cls := by
  rcases s_kd hA with hA | ⟨hA, hkc⟩
  · obtain ⟨k0, fs, r1, rfl, hwk, hr1, -, -⟩ := s_w_obj hS.1 hA (by omega) hq
    exact ⟨r1, hr1, va_recv hS.2.2.1 hS.2.1 hr1 hwk⟩
  · obtain ⟨ha1, rfl, -⟩ := s_w_k hS.1 hA hq
    obtain ⟨rfl, i, hi, rfl⟩ := s_kc0 hkc hci
    refine ⟨(RJ0, TJ0, 4), rfl, ?_⟩
    rw [show 1000000 + 2 * i - 999999 = 1 + 2 * i by omega]
    exact va_Orecv (hC.2.2.2.2.2.2.2.2.2.2.2.2.2.2.2.1.2.2.2.2.2.1 i hi).1 hS.2.2.2.2
/-- behind a call -/
theorem s_back {w : j_Z} {k1 k2 : Nat} {H : Heap} {locs : List Loc} {cells slots : Nat} {ws : va_W} {tys : List (ClassId × FieldType)} {lsR : Array Slot} {rl : List (Option Value)} {st0 rest : List Value} {a : Array Value}
    (K : s_G D b tt L sb xs s ρ0 nL zc zs mc ms m (fun H locs cells slots g => W p l e R s m args below meth c H locs cells slots Q g) (pc + 3) ls (w.1.toList ++ r) w.2) (hS : s_St D b tt L sb xs s h H locs tys ws) (hx : ∀ a q : Nat, ρ0 a = some q → s_ρ b tt ws a = some q) (hl : s_lo (s_ρ b tt ws) ls rl) (hv : lv_has lsR nL (s_as 0 rl)) (hr : s_st (s_ρ b tt ws) r rest)
    (hc : cells + k1 + zc = mc + w.2.1.length) (hs : slots + k2 + zs = ms + s_sl w.2)
    (run : va_Run p l e R s m args below meth c H locs cells slots k1 k2 (F0 m pc lsR st0) rest (s_Q D b tt L sb xs (s_ρ b tt ws) w.2 w.1 a) (s_A sb)) : W p l e R s m args below meth c H locs cells slots Q (F0 m pc lsR st0) := by
  refine r_call run hS.2.2.2.2 (fun ov H1 locs1 ws1 tys1 ho hS1 hρ => ?_)
  exact K H1 locs1 _ _ ws1 tys1 lsR rl _ hS1 (fun a q h1 => hρ a q (hx a q h1)) (s_lo_mono hρ hl) hv (s_ov_st ho (s_st_mono hρ hr)) hc hs
set_option maxHeartbeats 8000000 in
theorem s_step {d n y : Nat} {z : j_Z} (hsp : ¬ j_spc y) (hC : s_C p s m args meth c R q b tt L sb xs nL) (hq : j_meth[y]? = some q) (hRm : d + 1 ≤ R.frames ∧ 124 + 32 * d ≤ R.locals) (hRc : mc ≤ R.cells) (hRs : ms ≤ R.slots) (hzc : zc = z.2.1.length) (hzs : zs = s_sl z.2) (IH : s_IH l D b tt L sb xs d)
    (RI : ∀ (pc : Nat) (H : Heap) (locs : List Loc) (cells slots : Nat) (ws : va_W) (tys : List (ClassId × FieldType)) (lsR : Array Slot) (v : Int32), decode q.2.1 pc = .ok (.ireturn, 1) → (j_ret y = 1 ∨ (j_ret y = 3 ∧ (v = 0 ∨ v = 1)) ∨ (j_ret y = 4 ∧ -128 ≤ v.toInt ∧ v.toInt ≤ 127) ∨ (j_ret y = 5 ∧ 0 ≤ v.toInt ∧ v.toInt ≤ 65535)) → s_St D b tt L sb xs s z.2 H locs tys ws → (∀ a q : Nat, ρ0 a = some q → s_ρ b tt ws a = some q) → s_ov (s_ρ b tt ws) z.1 (some (.int v)) → cells = mc → slots = ms → W p l e R s m args below meth c H locs cells slots Q (F0 m pc lsR [.int v]))
    (RA : ∀ (pc : Nat) (H : Heap) (locs : List Loc) (cells slots : Nat) (ws : va_W) (tys : List (ClassId × FieldType)) (lsR : Array Slot) (v : Nat), decode q.2.1 pc = .ok (.areturn, 1) → j_ret y = 6 → s_St D b tt L sb xs s z.2 H locs tys ws → (∀ a q : Nat, ρ0 a = some q → s_ρ b tt ws a = some q) → s_ov (s_ρ b tt ws) z.1 (some (.ref v)) → cells = mc → slots = ms → W p l e R s m args below meth c H locs cells slots Q (F0 m pc lsR [.ref v]))
    (RL : ∀ (pc : Nat) (H : Heap) (locs : List Loc) (cells slots : Nat) (ws : va_W) (tys : List (ClassId × FieldType)) (lsR : Array Slot) (v : Int64), decode q.2.1 pc = .ok (.lreturn, 1) → j_ret y = 2 → s_St D b tt L sb xs s z.2 H locs tys ws → (∀ a q : Nat, ρ0 a = some q → s_ρ b tt ws a = some q) → s_ov (s_ρ b tt ws) z.1 (some (.long v)) → cells = mc → slots = ms → W p l e R s m args below meth c H locs cells slots Q (F0 m pc lsR [.long v]))
    (RV : ∀ (pc : Nat) (H : Heap) (locs : List Loc) (cells slots : Nat) (ws : va_W) (tys : List (ClassId × FieldType)) (lsR : Array Slot), decode q.2.1 pc = .ok (.return_, 1) → j_ret y = 0 → s_St D b tt L sb xs s z.2 H locs tys ws → (∀ a q : Nat, ρ0 a = some q → s_ρ b tt ws a = some q) → s_ov (s_ρ b tt ws) z.1 none → cells = mc → slots = ms → W p l e R s m args below meth c H locs cells slots Q (F0 m pc lsR []))
    (K : ∀ (pc : Nat) (ls : j_L) (st : List j_V) (h : j_H), j_run (c_call d) n y pc ls st h = some z → ls.length = nL → s_G D b tt L sb xs s ρ0 nL zc zs mc ms m (fun H locs cells slots g => W p l e R s m args below meth c H locs cells slots Q g) pc ls st h) (hn : ls.length = nL)
    (e00 : j_step y pc ls st h none (fun pc ls st h => j_run (c_call d) n y pc ls st h) (fun v h => some (v, h)) (fun k as r => (c_call d k as h).bind fun z => j_run (c_call d) n y (pc + 3) ls (z.1.toList ++ r) z.2) = some z) : s_G D b tt L sb xs s ρ0 nL zc zs mc ms m (fun H locs cells slots g => W p l e R s m args below meth c H locs cells slots Q g) pc ls st h := by
  unfold j_step at e00
  obtain ⟨⟨i, a, b0, z0⟩, hat, e0⟩ := i_op e00
  clear e00
  obtain ⟨⟨n0, hdg, hln⟩, hax⟩ := x_at hsp hq hat
  have hw := s_words hC
  have hcall : ∀ k as h z, c_call d k as h = some z → s_ge h z.2 := fun k as h z hz => c_call_cnt hz
  cases i
  case iadd =>
    dsimp only at e0 hdg hln hax
    have hn0 : n0 = 1 := by simpa [j_ln] using hln
    subst hn0
    obtain ⟨x, y1, r, rfl, e1⟩ := i_bI e0
    exact r_iadd hC hdg (K _ _ _ _ e1 hn)
  case isub =>
    dsimp only at e0 hdg hln hax
    have hn0 : n0 = 1 := by simpa [j_ln] using hln
    subst hn0
    obtain ⟨x, y1, r, rfl, e1⟩ := i_bI e0
    exact r_isub hC hdg (K _ _ _ _ e1 hn)
  case imul =>
    dsimp only at e0 hdg hln hax
    have hn0 : n0 = 1 := by simpa [j_ln] using hln
    subst hn0
    obtain ⟨x, y1, r, rfl, e1⟩ := i_bI e0
    exact r_imul hC hdg (K _ _ _ _ e1 hn)
  case iand =>
    dsimp only at e0 hdg hln hax
    have hn0 : n0 = 1 := by simpa [j_ln] using hln
    subst hn0
    obtain ⟨x, y1, r, rfl, e1⟩ := i_bI e0
    exact r_iand hC hdg (K _ _ _ _ e1 hn)
  case ixor =>
    dsimp only at e0 hdg hln hax
    have hn0 : n0 = 1 := by simpa [j_ln] using hln
    subst hn0
    obtain ⟨x, y1, r, rfl, e1⟩ := i_bI e0
    exact r_ixor hC hdg (K _ _ _ _ e1 hn)
  case iushr =>
    dsimp only at e0 hdg hln hax
    have hn0 : n0 = 1 := by simpa [j_ln] using hln
    subst hn0
    obtain ⟨x, y1, r, rfl, e1⟩ := i_bI e0
    exact r_iushr hC hdg (K _ _ _ _ e1 hn)
  case ladd =>
    dsimp only at e0 hdg hln hax
    have hn0 : n0 = 1 := by simpa [j_ln] using hln
    subst hn0
    obtain ⟨x, y1, r, rfl, e1⟩ := i_bL e0
    exact r_ladd hC hdg (K _ _ _ _ e1 hn)
  case lsub =>
    dsimp only at e0 hdg hln hax
    have hn0 : n0 = 1 := by simpa [j_ln] using hln
    subst hn0
    obtain ⟨x, y1, r, rfl, e1⟩ := i_bL e0
    exact r_lsub hC hdg (K _ _ _ _ e1 hn)
  case lmul =>
    dsimp only at e0 hdg hln hax
    have hn0 : n0 = 1 := by simpa [j_ln] using hln
    subst hn0
    obtain ⟨x, y1, r, rfl, e1⟩ := i_bL e0
    exact r_lmul hC hdg (K _ _ _ _ e1 hn)
  case land =>
    dsimp only at e0 hdg hln hax
    have hn0 : n0 = 1 := by simpa [j_ln] using hln
    subst hn0
    obtain ⟨x, y1, r, rfl, e1⟩ := i_bL e0
    exact r_land hC hdg (K _ _ _ _ e1 hn)
  case lor =>
    dsimp only at e0 hdg hln hax
    have hn0 : n0 = 1 := by simpa [j_ln] using hln
    subst hn0
    obtain ⟨x, y1, r, rfl, e1⟩ := i_bL e0
    exact r_lor hC hdg (K _ _ _ _ e1 hn)
  case lxor =>
    dsimp only at e0 hdg hln hax
    have hn0 : n0 = 1 := by simpa [j_ln] using hln
    subst hn0
    obtain ⟨x, y1, r, rfl, e1⟩ := i_bL e0
    exact r_lxor hC hdg (K _ _ _ _ e1 hn)
  case lcmp =>
    dsimp only at e0 hdg hln hax
    have hn0 : n0 = 1 := by simpa [j_ln] using hln
    subst hn0
    obtain ⟨x, y1, r, rfl, e1⟩ := i_bL e0
    exact r_lcmp hC hdg (K _ _ _ _ e1 hn)
  case idiv =>
    dsimp only at e0 hdg hln hax
    have hn0 : n0 = 1 := by simpa [j_ln] using hln
    subst hn0
    obtain ⟨x, y1, r, rfl, e1⟩ := i_bI e0
    split at e1
    · cases e1
    · rename_i hy1
      exact r_idiv hC hy1 hdg (K _ _ _ _ e1 hn)
  case irem =>
    dsimp only at e0 hdg hln hax
    have hn0 : n0 = 1 := by simpa [j_ln] using hln
    subst hn0
    obtain ⟨x, y1, r, rfl, e1⟩ := i_bI e0
    split at e1
    · cases e1
    · rename_i hy1
      exact r_irem hC hy1 hdg (K _ _ _ _ e1 hn)
  case ldiv =>
    dsimp only at e0 hdg hln hax
    have hn0 : n0 = 1 := by simpa [j_ln] using hln
    subst hn0
    obtain ⟨x, y1, r, rfl, e1⟩ := i_bL e0
    split at e1
    · cases e1
    · rename_i hy1
      exact r_ldiv hC hy1 hdg (K _ _ _ _ e1 hn)
  case lrem =>
    dsimp only at e0 hdg hln hax
    have hn0 : n0 = 1 := by simpa [j_ln] using hln
    subst hn0
    obtain ⟨x, y1, r, rfl, e1⟩ := i_bL e0
    split at e1
    · cases e1
    · rename_i hy1
      exact r_lrem hC hy1 hdg (K _ _ _ _ e1 hn)
  case lshl =>
    dsimp only at e0 hdg hln hax
    have hn0 : n0 = 1 := by simpa [j_ln] using hln
    subst hn0
    split at e0
    · exact r_lshl hC hdg (K _ _ _ _ e0 hn)
    · cases e0
  case ineg =>
    dsimp only at e0 hdg hln hax
    have hn0 : n0 = 1 := by simpa [j_ln] using hln
    subst hn0
    obtain ⟨x, r, rfl, e1⟩ := i_uI e0
    exact r_ineg hC hdg (K _ _ _ _ e1 hn)
  case i2l =>
    dsimp only at e0 hdg hln hax
    have hn0 : n0 = 1 := by simpa [j_ln] using hln
    subst hn0
    obtain ⟨x, r, rfl, e1⟩ := i_uI e0
    exact r_i2l hC hdg (K _ _ _ _ e1 hn)
  case i2b =>
    dsimp only at e0 hdg hln hax
    have hn0 : n0 = 1 := by simpa [j_ln] using hln
    subst hn0
    obtain ⟨x, r, rfl, e1⟩ := i_uI e0
    exact r_i2b hC hdg (K _ _ _ _ e1 hn)
  case i2s =>
    dsimp only at e0 hdg hln hax
    have hn0 : n0 = 1 := by simpa [j_ln] using hln
    subst hn0
    obtain ⟨x, r, rfl, e1⟩ := i_uI e0
    exact r_i2s hC hdg (K _ _ _ _ e1 hn)
  case lneg =>
    dsimp only at e0 hdg hln hax
    have hn0 : n0 = 1 := by simpa [j_ln] using hln
    subst hn0
    obtain ⟨x, r, rfl, e1⟩ := i_uL e0
    exact r_lneg hC hdg (K _ _ _ _ e1 hn)
  case l2i =>
    dsimp only at e0 hdg hln hax
    have hn0 : n0 = 1 := by simpa [j_ln] using hln
    subst hn0
    obtain ⟨x, r, rfl, e1⟩ := i_uL e0
    exact r_l2i hC hdg (K _ _ _ _ e1 hn)
  case iconst n1 =>
    dsimp only at e0 hdg hln hax
    have hn0 : n0 = 1 := by simpa [j_ln] using hln
    subst hn0
    unfold j_ax at hax
    simp only [Bool.and_eq_true, beq_iff_eq] at hax
    exact r_iconst hC (by rw [hax.2, hax.1]) hdg (K _ _ _ _ e0 hn)
  case bipush n1 =>
    dsimp only at e0 hdg hln hax
    have hn0 : n0 = 2 := by simpa [j_ln] using hln
    subst hn0
    unfold j_ax at hax
    simp only [Bool.and_eq_true, beq_iff_eq] at hax
    exact r_bipush hC hax.2 hdg (K _ _ _ _ e0 hn)
  case sipush n1 =>
    dsimp only at e0 hdg hln hax
    have hn0 : n0 = 3 := by simpa [j_ln] using hln
    subst hn0
    unfold j_ax at hax
    simp only [Bool.and_eq_true, beq_iff_eq] at hax
    exact r_sipush hC hax.2 hdg (K _ _ _ _ e0 hn)
  case lconst n1 =>
    dsimp only at e0 hdg hln hax
    have hn0 : n0 = 1 := by simpa [j_ln] using hln
    subst hn0
    unfold j_ax at hax
    simp only [beq_iff_eq] at hax
    exact r_lconst hC hax.symm hdg (K _ _ _ _ e0 hn)
  case ldc ix =>
    dsimp only at e0 hdg hln hax
    have hn0 : n0 = 2 := by simpa [j_ln] using hln
    subst hn0
    unfold j_ax at hax
    simp only [Bool.or_eq_true, Bool.and_eq_true, beq_iff_eq] at hax
    rcases hax with (rfl | ⟨rfl, hax⟩) | ⟨rfl, hax⟩
    · rw [if_neg (by decide), if_neg (by decide)] at e0; cases e0
    · rw [if_pos rfl] at e0
      have h1 := x_kt0 (by simpa using hax)
      exact r_ldc hC h1.2 (hw _ h1.1) hdg (K _ _ _ _ e0 hn)
    · rw [if_neg (by decide), if_pos rfl] at e0
      obtain ⟨x, hx0, hix, ho, hk⟩ := x_st (by simpa using hax)
      exact r_ldcS hC hx0 hk hix ho hdg (K _ _ _ _ e0 hn)
  case ldc_w ix =>
    dsimp only at e0 hdg hln hax
    have hn0 : n0 = 3 := by simpa [j_ln] using hln
    subst hn0
    unfold j_ax at hax
    simp only [Bool.or_eq_true, Bool.and_eq_true, beq_iff_eq] at hax
    rcases hax with rfl | ⟨rfl, hax⟩
    · rw [if_neg (by decide)] at e0; cases e0
    · rw [if_pos rfl] at e0
      have h1 := x_kt0 (by simpa using hax)
      exact r_ldc_w hC h1.2 (hw _ h1.1) hdg (K _ _ _ _ e0 hn)
  case ldc2_w ix =>
    dsimp only at e0 hdg hln hax
    have hn0 : n0 = 3 := by simpa [j_ln] using hln
    subst hn0
    unfold j_ax at hax
    have h1 := x_kt1 hax
    exact r_ldc2_w hC h1.2 (hw _ h1.1) hdg (K _ _ _ _ e0 hn)
  case iload_n k =>
    dsimp only at e0 hdg hln hax
    have hn0 : n0 = 1 := by simpa [j_ln] using hln
    subst hn0
    split at e0
    · rename_i hld
      exact r_iload_n hC hld hdg (K _ _ _ _ e0 hn)
    · cases e0
  case iload k =>
    dsimp only at e0 hdg hln hax
    have hn0 : n0 = 2 := by simpa [j_ln] using hln
    subst hn0
    split at e0
    · rename_i hld
      exact r_iload hC hld hdg (K _ _ _ _ e0 hn)
    · cases e0
  case lload_n k =>
    dsimp only at e0 hdg hln hax
    have hn0 : n0 = 1 := by simpa [j_ln] using hln
    subst hn0
    split at e0
    · rename_i hld
      exact r_lload_n hC hld hdg (K _ _ _ _ e0 hn)
    · cases e0
  case lload k =>
    dsimp only at e0 hdg hln hax
    have hn0 : n0 = 2 := by simpa [j_ln] using hln
    subst hn0
    split at e0
    · rename_i hld
      exact r_lload hC hld hdg (K _ _ _ _ e0 hn)
    · cases e0
  case aload_n k =>
    dsimp only at e0 hdg hln hax
    have hn0 : n0 = 1 := by simpa [j_ln] using hln
    subst hn0
    split at e0
    · rename_i hld
      exact r_aload_n hC hld hdg (K _ _ _ _ e0 hn)
    · cases e0
  case aload k =>
    dsimp only at e0 hdg hln hax
    have hn0 : n0 = 2 := by simpa [j_ln] using hln
    subst hn0
    split at e0
    · rename_i hld
      exact r_aload hC hld hdg (K _ _ _ _ e0 hn)
    · cases e0
  case istore_n k =>
    dsimp only at e0 hdg hln hax
    have hn0 : n0 = 1 := by simpa [j_ln] using hln
    subst hn0
    obtain ⟨x, r, rfl, e1⟩ := i_uI e0
    obtain ⟨l1, hl1, e1⟩ := i_op e1
    exact r_istore_n hC hn hl1 hdg (K _ _ _ _ e1 (s_lenset hn hl1))
  case istore k =>
    dsimp only at e0 hdg hln hax
    have hn0 : n0 = 2 := by simpa [j_ln] using hln
    subst hn0
    obtain ⟨x, r, rfl, e1⟩ := i_uI e0
    obtain ⟨l1, hl1, e1⟩ := i_op e1
    exact r_istore hC hn hl1 hdg (K _ _ _ _ e1 (s_lenset hn hl1))
  case lstore_n k =>
    dsimp only at e0 hdg hln hax
    have hn0 : n0 = 1 := by simpa [j_ln] using hln
    subst hn0
    obtain ⟨x, r, rfl, e1⟩ := i_uL e0
    obtain ⟨l1, hl1, e1⟩ := i_op e1
    exact r_lstore_n hC hn hl1 hdg (K _ _ _ _ e1 (s_lenset2 hn hl1))
  case lstore k =>
    dsimp only at e0 hdg hln hax
    have hn0 : n0 = 2 := by simpa [j_ln] using hln
    subst hn0
    obtain ⟨x, r, rfl, e1⟩ := i_uL e0
    obtain ⟨l1, hl1, e1⟩ := i_op e1
    exact r_lstore hC hn hl1 hdg (K _ _ _ _ e1 (s_lenset2 hn hl1))
  case astore_n k =>
    dsimp only at e0 hdg hln hax
    have hn0 : n0 = 1 := by simpa [j_ln] using hln
    subst hn0
    split at e0
    · obtain ⟨l1, hl1, e1⟩ := i_op e0
      exact r_astore_n hC hn hl1 hdg (K _ _ _ _ e1 (s_lenset hn hl1))
    · cases e0
  case astore k =>
    dsimp only at e0 hdg hln hax
    have hn0 : n0 = 2 := by simpa [j_ln] using hln
    subst hn0
    split at e0
    · obtain ⟨l1, hl1, e1⟩ := i_op e0
      exact r_astore hC hn hl1 hdg (K _ _ _ _ e1 (s_lenset hn hl1))
    · cases e0
  case ishl =>
    dsimp only at e0 hdg hln hax
    have hn0 : n0 = 1 := by simpa [j_ln] using hln
    subst hn0
    obtain ⟨x, y1, r, rfl, e1⟩ := i_bI e0
    exact r_ishl hC hdg (K _ _ _ _ e1 hn)
  case ishr =>
    dsimp only at e0 hdg hln hax
    have hn0 : n0 = 1 := by simpa [j_ln] using hln
    subst hn0
    obtain ⟨x, y1, r, rfl, e1⟩ := i_bI e0
    exact r_ishr hC hdg (K _ _ _ _ e1 hn)
  case i2c =>
    dsimp only at e0 hdg hln hax
    have hn0 : n0 = 1 := by simpa [j_ln] using hln
    subst hn0
    obtain ⟨x, r, rfl, e1⟩ := i_uI e0
    exact r_i2c hC hdg (K _ _ _ _ e1 hn)
  case pop =>
    dsimp only at e0 hdg hln hax
    have hn0 : n0 = 1 := by simpa [j_ln] using hln
    subst hn0
    split at e0
    · split at e0
      · rename_i hc1
        exact r_pop hC hc1 hdg (K _ _ _ _ e0 hn)
      · cases e0
    · cases e0
  case dup_x1 =>
    dsimp only at e0 hdg hln hax
    have hn0 : n0 = 1 := by simpa [j_ln] using hln
    subst hn0
    split at e0
    · split at e0
      · rename_i hc1
        exact r_dup_x1 hC hc1.1 hc1.2 hdg (K _ _ _ _ e0 hn)
      · cases e0
    · cases e0
  case ifnonnull off =>
    dsimp only at e0 hdg hln hax
    have hn0 : n0 = 3 := by simpa [j_ln] using hln
    subst hn0
    unfold j_ax at hax
    simp only [beq_iff_eq] at hax
    split at e0
    · exact r_ifnonnull hC hax hdg (K _ _ _ _ e0 hn)
    · cases e0
  case checkcast ix =>
    dsimp only at e0 hdg hln hax
    have hn0 : n0 = 3 := by simpa [j_ln] using hln
    subst hn0
    unfold j_ax at hax
    simp only [Bool.and_eq_true, beq_iff_eq] at hax
    obtain ⟨ho, rfl⟩ := hax
    have hm := j_misc2
    simp only [Bool.and_eq_true] at hm
    split at e0
    · obtain ⟨N, hA, e1⟩ := i_ob e0
      exact r_castB hC hA (by rw [ho]; exact j_has_mem hm.1) hdg (K _ _ _ _ e1 hn)
    · cases e0
  case iinc k n1 =>
    dsimp only at e0 hdg hln hax
    have hn0 : n0 = 3 := by simpa [j_ln] using hln
    subst hn0
    unfold j_ax at hax
    simp only [beq_iff_eq] at hax
    split at e0
    · rename_i hld
      obtain ⟨l1, hl1, e1⟩ := i_op e0
      exact r_iinc hC hn hax hld hl1 hdg (K _ _ _ _ e1 (s_lenset hn hl1))
    · cases e0
  case dup =>
    dsimp only at e0 hdg hln hax
    have hn0 : n0 = 1 := by simpa [j_ln] using hln
    subst hn0
    split at e0
    · split at e0
      · rename_i hc1
        exact r_dup hC hc1 hdg (K _ _ _ _ e0 hn)
      · cases e0
    · cases e0
  case dup2 =>
    dsimp only at e0 hdg hln hax
    have hn0 : n0 = 1 := by simpa [j_ln] using hln
    subst hn0
    split at e0
    · exact r_dup2_2 hC hdg (K _ _ _ _ e0 hn)
    · split at e0
      · rename_i hc1
        exact r_dup2_1 hC hc1.1 hc1.2 hdg (K _ _ _ _ e0 hn)
      · cases e0
    · cases e0
  case goto off =>
    dsimp only at e0 hdg hln hax
    have hn0 : n0 = 3 := by simpa [j_ln] using hln
    subst hn0
    unfold j_ax at hax
    simp only [beq_iff_eq] at hax
    exact r_goto hC hax hdg (K _ _ _ _ e0 hn)
  case ifCond cd off =>
    dsimp only at hdg hln hax
    have hn0 : n0 = 3 := by simpa [j_ln] using hln
    subst hn0
    unfold j_ax at hax
    simp only [beq_iff_eq] at hax
    cases cd
    case eq =>
      dsimp only at e0
      obtain ⟨x, r, rfl, e1, e2⟩ := i_if e0
      exact r_if_eq hC hax hdg (fun hh => K _ _ _ _ (e1 hh) hn) (fun hh => K _ _ _ _ (e2 hh) hn)
    case ne =>
      dsimp only at e0
      obtain ⟨x, r, rfl, e1, e2⟩ := i_if e0
      exact r_if_ne hC hax hdg (fun hh => K _ _ _ _ (e1 hh) hn) (fun hh => K _ _ _ _ (e2 hh) hn)
    case lt =>
      dsimp only at e0
      obtain ⟨x, r, rfl, e1, e2⟩ := i_if e0
      exact r_if_lt hC hax hdg (fun hh => K _ _ _ _ (e1 hh) hn) (fun hh => K _ _ _ _ (e2 hh) hn)
    case ge =>
      dsimp only at e0
      obtain ⟨x, r, rfl, e1, e2⟩ := i_if e0
      exact r_if_ge hC hax hdg (fun hh => K _ _ _ _ (e1 hh) hn) (fun hh => K _ _ _ _ (e2 hh) hn)
    case gt =>
      dsimp only at e0
      obtain ⟨x, r, rfl, e1, e2⟩ := i_if e0
      exact r_if_gt hC hax hdg (fun hh => K _ _ _ _ (e1 hh) hn) (fun hh => K _ _ _ _ (e2 hh) hn)
    case le =>
      dsimp only at e0
      obtain ⟨x, r, rfl, e1, e2⟩ := i_if e0
      exact r_if_le hC hax hdg (fun hh => K _ _ _ _ (e1 hh) hn) (fun hh => K _ _ _ _ (e2 hh) hn)
  case if_icmp cd off =>
    dsimp only at hdg hln hax
    have hn0 : n0 = 3 := by simpa [j_ln] using hln
    subst hn0
    unfold j_ax at hax
    simp only [beq_iff_eq] at hax
    cases cd
    case eq =>
      dsimp only at e0
      obtain ⟨x, y1, r, rfl, e1, e2⟩ := i_if2 e0
      exact r_icmp_eq hC hax hdg (fun hh => K _ _ _ _ (e1 hh) hn) (fun hh => K _ _ _ _ (e2 hh) hn)
    case ne =>
      dsimp only at e0
      obtain ⟨x, y1, r, rfl, e1, e2⟩ := i_if2 e0
      exact r_icmp_ne hC hax hdg (fun hh => K _ _ _ _ (e1 hh) hn) (fun hh => K _ _ _ _ (e2 hh) hn)
    case lt =>
      dsimp only at e0
      obtain ⟨x, y1, r, rfl, e1, e2⟩ := i_if2 e0
      exact r_icmp_lt hC hax hdg (fun hh => K _ _ _ _ (e1 hh) hn) (fun hh => K _ _ _ _ (e2 hh) hn)
    case ge =>
      dsimp only at e0
      obtain ⟨x, y1, r, rfl, e1, e2⟩ := i_if2 e0
      exact r_icmp_ge hC hax hdg (fun hh => K _ _ _ _ (e1 hh) hn) (fun hh => K _ _ _ _ (e2 hh) hn)
    case gt =>
      dsimp only at e0
      obtain ⟨x, y1, r, rfl, e1, e2⟩ := i_if2 e0
      exact r_icmp_gt hC hax hdg (fun hh => K _ _ _ _ (e1 hh) hn) (fun hh => K _ _ _ _ (e2 hh) hn)
    case le =>
      dsimp only at e0
      obtain ⟨x, y1, r, rfl, e1, e2⟩ := i_if2 e0
      exact r_icmp_le hC hax hdg (fun hh => K _ _ _ _ (e1 hh) hn) (fun hh => K _ _ _ _ (e2 hh) hn)
  case tableswitch dd lo hi offs =>
    dsimp only at e0 hdg hln hax
    obtain ⟨x, r, rfl, e1⟩ := i_uI e0
    refine r_tsw hC hdg (fun h1 h2 => ?_) (fun o h1 h2 ho => ?_) (fun h1 => ?_)
    · rw [if_pos ⟨h1, h2⟩] at e1
      obtain ⟨o, ho, -⟩ := i_op e1
      exact ⟨o, ho⟩
    · rw [if_pos ⟨h1, h2⟩] at e1
      obtain ⟨o2, ho2, e2⟩ := i_op e1
      cases ho.symm.trans ho2
      split at e2
      · rename_i h3
        exact ⟨_, (Int.toNat_of_nonneg h3).symm, K _ _ _ _ e2 hn⟩
      · cases e2
    · rw [if_neg h1] at e1
      split at e1
      · rename_i h3
        exact ⟨_, (Int.toNat_of_nonneg h3).symm, K _ _ _ _ e1 hn⟩
      · cases e1
  case iaload =>
    dsimp only at e0 hdg hln hax
    have hn0 : n0 = 1 := by simpa [j_ln] using hln
    subst hn0
    obtain ⟨a1, i1, r, rfl, e1⟩ := i_el e0
    obtain ⟨N, hA, hi, e2⟩ := i_rg e1
    exact r_iaload hC hA hi hdg (K _ _ _ _ e2 hn)
  case laload =>
    dsimp only at e0 hdg hln hax
    have hn0 : n0 = 1 := by simpa [j_ln] using hln
    subst hn0
    obtain ⟨a1, i1, r, rfl, e1⟩ := i_el e0
    obtain ⟨N, hA, hi, e2⟩ := i_rg e1
    exact r_laload hC hA hi hdg (K _ _ _ _ e2 hn)
  case baload =>
    dsimp only at e0 hdg hln hax
    have hn0 : n0 = 1 := by simpa [j_ln] using hln
    subst hn0
    obtain ⟨a1, i1, r, rfl, e1⟩ := i_el e0
    split at e1
    · rename_i cc N hA
      split at e1
      · rename_i h1
        exact r_baload hC hA h1.1 h1.2 hdg (K _ _ _ _ e1 hn)
      · cases e1
    · cases e1
  case aaload =>
    dsimp only at e0 hdg hln hax
    have hn0 : n0 = 1 := by simpa [j_ln] using hln
    subst hn0
    obtain ⟨a1, i1, r, rfl, e1⟩ := i_el e0
    obtain ⟨N, hA, hi, e2⟩ := i_rg e1
    obtain ⟨A, hrf, e3⟩ := i_op e2
    exact r_aaload hC hA hi hrf hdg (K _ _ _ _ e3 hn)
  case iastore =>
    dsimp only at e0 hdg hln hax
    have hn0 : n0 = 1 := by simpa [j_ln] using hln
    subst hn0
    obtain ⟨a1, i1, x, r, rfl, e1⟩ := i_sI e0
    split at e1
    · cases e1
    · rename_i h2
      obtain ⟨N, hA, hi, e2⟩ := i_rg e1
      exact r_iastore hC (by omega) hA hi hdg (K _ _ _ _ e2 hn)
  case lastore =>
    dsimp only at e0 hdg hln hax
    have hn0 : n0 = 1 := by simpa [j_ln] using hln
    subst hn0
    obtain ⟨a1, i1, x, r, rfl, e1⟩ := i_sL e0
    split at e1
    · cases e1
    · rename_i h2
      obtain ⟨N, hA, hi, e2⟩ := i_rg e1
      exact r_lastore hC (by omega) hA hi hdg (K _ _ _ _ e2 hn)
  case bastore =>
    dsimp only at e0 hdg hln hax
    have hn0 : n0 = 1 := by simpa [j_ln] using hln
    subst hn0
    obtain ⟨a1, i1, x, r, rfl, e1⟩ := i_sI e0
    split at e1
    · cases e1
    · rename_i h2
      split at e1
      · rename_i cc N hA
        split at e1
        · rename_i hi
          split at e1
          · rename_i h3
            subst h3
            exact r_bastore_b hC (by omega) hA hi hdg (K _ _ _ _ e1 hn)
          · split at e1
            · rename_i h3
              have hA2 : h.1[a1]? = some (35, N) := by rw [hA, h3.1]
              exact r_bastore_z hC (by omega) hA2 hi h3.2 hdg (K _ _ _ _ e1 hn)
            · cases e1
        · cases e1
      · cases e1
  case arraylength =>
    dsimp only at e0 hdg hln hax
    have hn0 : n0 = 1 := by simpa [j_ln] using hln
    subst hn0
    split at e0
    · split at e0
      · rename_i cc N hA
        split at e0
        · rename_i h1
          exact r_alen hC hA h1 hdg (K _ _ _ _ e0 hn)
        · cases e0
      · cases e0
    · cases e0
  case getfield ix =>
    dsimp only at e0 hdg hln hax
    have hn0 : n0 = 3 := by simpa [j_ln] using hln
    subst hn0
    unfold j_ax at hax
    simp only [Bool.or_eq_true] at hax
    split at e0
    · obtain ⟨N, hA, e1'⟩ := i_obk e0
      obtain ⟨hk1, e1⟩ := i_fk e1'
      obtain ⟨v, hv0, e2⟩ := i_get e1
      rcases hax with hax | hax
      · obtain ⟨r0, hr, hk, hlk⟩ := x_ft hax
        exact r_getf hC hA hr hk hk1 (Or.inl hlk) hv0 hdg (K _ _ _ _ e2 hn)
      · obtain ⟨r0, t, hr, hk, ht, htw⟩ := x_fn hax
        exact r_getf hC hA hr hk hk1 (Or.inr ⟨⟨_, by rw [← htw]; exact va_Nw.use rfl (hC.2.2.2.2.2.2.2.2.2.2.2.2.1 t ht)⟩, j_fn_0 ht htw hr⟩) hv0 hdg (K _ _ _ _ e2 hn)
    · cases e0
  case putfield ix =>
    dsimp only at e0 hdg hln hax
    have hn0 : n0 = 3 := by simpa [j_ln] using hln
    subst hn0
    unfold j_ax at hax
    simp only [Bool.or_eq_true, Bool.and_eq_true, Bool.not_eq_true', beq_iff_eq] at hax
    split at e0
    · obtain ⟨N, hA, e1⟩ := i_ob e0
      obtain ⟨h1, hp, e2⟩ := i_put e1
      rcases hax with ⟨hax, hf⟩ | ⟨hax, hf⟩
      · obtain ⟨r0, hr, hk, hlk⟩ := x_ft (by simpa using hax)
        unfold j_fin? at hf
        rw [hr] at hf
        refine r_putf hC hA hr hk (Or.inl ⟨hlk, ?_⟩) hp hdg (K _ _ _ _ e2 hn)
        cases hfin : (r0.2.1 b0).2.2.2 with
        | false => exact Or.inl rfl
        | true =>
          right
          simp only [hfin] at hf
          rcases hf with hf | hf
          · cases hf
          · exact ⟨hf.1, by rw [← hf.2, (s_cl hr).2.2.2.2.2.2.2]; exact (x_fin hr hk hfin).symm, rfl⟩
      · obtain ⟨r0, t, hr, hk, ht, htw⟩ := x_fn (by simpa using hax)
        unfold j_fin? at hf
        rw [hr] at hf
        exact r_putf hC hA hr hk (Or.inr ⟨⟨_, by rw [← htw]; exact va_Nw.use rfl (hC.2.2.2.2.2.2.2.2.2.2.2.2.1 t ht)⟩, hf⟩) hp hdg (K _ _ _ _ e2 hn)
    · cases e0
  case getstatic ix =>
    dsimp only at e0 hdg hln hax
    have hn0 : n0 = 3 := by simpa [j_ln] using hln
    subst hn0
    unfold j_ax at hax
    simp only [Bool.or_eq_true, Bool.and_eq_true, beq_iff_eq, bne_iff_ne] at hax
    rcases hax with ⟨rfl, hax | hax⟩ | ⟨h99, hax⟩
    · rw [if_pos rfl] at e0
      exact r_gets hC (Or.inl (x_fs (by simpa using hax))) hdg (K _ _ _ _ e0 hn)
    · rw [if_pos rfl] at e0
      obtain ⟨t, ht, htw⟩ := x_fsn (by simpa using hax)
      exact r_gets hC (Or.inr ⟨_, by rw [← htw]; exact va_Nw.use rfl (hC.2.2.2.2.2.2.2.2.2.2.2.2.2.1 t ht)⟩) hdg (K _ _ _ _ e0 hn)
    · rcases x_gs (by simpa using hax) with ⟨rfl, hlk⟩ | ⟨rfl, hlk⟩ | ⟨rfl, hlk⟩
      · rw [if_neg (by decide), if_pos rfl] at e0
        exact r_getsC hC hlk hw hdg (K _ _ _ _ e0 hn)
      · rw [if_neg (by decide), if_neg (by decide), if_pos (by decide)] at e0
        exact r_getsO hC hlk hw hdg (K _ _ _ _ e0 hn)
      · rw [if_neg (by decide), if_neg (by decide), if_pos (by decide)] at e0
        exact r_getsT hC hlk hw hdg (K _ _ _ _ e0 hn)
  case new ix =>
    dsimp only at e0 hdg hln hax
    have hn0 : n0 = 3 := by simpa [j_ln] using hln
    subst hn0
    unfold j_ax at hax
    simp only [Bool.or_eq_true, beq_iff_eq] at hax
    split at e0
    · rename_i h13
      rcases hax with rfl | hax
      · exact absurd h13.1 (by decide)
      obtain ⟨r0, hr, hcl⟩ := x_ct (by simpa using hax)
      have hcz : j_cz a = r0.2.2 := by unfold j_cz; rw [hr]
      rw [hcz] at e0
      have hge := j_run_cnt hcall e0
      obtain ⟨g1, g2⟩ := hge
      rw [s_new_cnt.1] at g1
      rw [s_new_cnt.2] at g2
      exact r_new hC hr hcl h13.2 (by omega) (by omega) hRc hRs hdg (K _ _ _ _ e0 hn)
    · cases e0
  case newarray t =>
    dsimp only at e0 hdg hln hax
    have hn0 : n0 = 2 := by simpa [j_ln] using hln
    subst hn0
    obtain ⟨x, r, rfl, e1⟩ := i_uI e0
    split at e1
    · rename_i hx
      have hge := j_run_cnt hcall e1
      obtain ⟨g1, g2⟩ := hge
      rw [s_new_cnt.1] at g1
      rw [s_new_cnt.2] at g2
      have hm := j_misc
      simp only [Bool.and_eq_true] at hm
      obtain ⟨m1, m2, m3, m4, m5, m6, m7, m8, m9, m10⟩ := hm
      cases t
      case int => exact r_newa_int hC (j_has_mem m6) ⟨hx.2.1, hx.2.2.1⟩ hx.2.2.2 (by omega) (by omega) hRc hRs hdg (K _ _ _ _ e1 hn)
      case long => exact r_newa_long hC (j_has_mem m7) ⟨hx.2.1, hx.2.2.1⟩ hx.2.2.2 (by omega) (by omega) hRc hRs hdg (K _ _ _ _ e1 hn)
      case byte => exact r_newa_byte hC (j_has_mem m8) ⟨hx.2.1, hx.2.2.1⟩ hx.2.2.2 (by omega) (by omega) hRc hRs hdg (K _ _ _ _ e1 hn)
      case boolean => exact r_newa_boolean hC (j_has_mem m9) ⟨hx.2.1, hx.2.2.1⟩ hx.2.2.2 (by omega) (by omega) hRc hRs hdg (K _ _ _ _ e1 hn)
      all_goals exact absurd hx.1 (by decide)
    · cases e1
  case multianewarray ix dm =>
    dsimp only at e0 hdg hln hax
    have hn0 : n0 = 4 ∧ dm = 2 := by simpa [j_ln] using hln
    obtain ⟨rfl, rfl⟩ := hn0
    unfold j_ax at hax
    simp only [Bool.and_eq_true, beq_iff_eq] at hax
    obtain ⟨ho, rfl⟩ := hax
    split at e0
    · split at e0
      · rename_i hx
        have hge := j_run_cnt hcall e0
        obtain ⟨g1, g2⟩ := hge
        rw [s_mna_cnt.1] at g1
        rw [s_mna_cnt.2] at g2
        have hm := j_misc
        simp only [Bool.and_eq_true] at hm
        obtain ⟨m1, m2, m3, m4, m5, m6, m7, m8, m9, m10⟩ := hm
        exact r_mna hC ho (j_has_mem m10) (j_has_mem m7) ⟨hx.1.1, hx.1.2.1, hx.1.2.2.1, hx.1.2.2.2.1⟩ hx.1.2.2.2.2 hx.2 (by omega) (by omega) hRc hRs hdg (K _ _ _ _ e0 hn)
      · cases e0
    · cases e0
  case ireturn =>
    dsimp only at e0 hdg hln hax
    have hn0 : n0 = 1 := by simpa [j_ln] using hln
    subst hn0
    split at e0
    · rename_i x
      have key : z = (some (jI x), h) ∧ (j_ret y = 1 ∨ (j_ret y = 3 ∧ (x = 0 ∨ x = 1)) ∨ (j_ret y = 4 ∧ -128 ≤ x ∧ x ≤ 127) ∨ (j_ret y = 5 ∧ 0 ≤ x ∧ x ≤ 65535)) := by
        split at e0
        · cases e0; exact ⟨rfl, Or.inl (by assumption)⟩
        · split at e0
          · rename_i h3
            split at e0
            · cases e0; exact ⟨rfl, Or.inr (Or.inl ⟨h3, by assumption⟩)⟩
            · cases e0
          · split at e0
            · rename_i h3
              split at e0
              · cases e0; exact ⟨rfl, Or.inr (Or.inr (Or.inl ⟨h3, by assumption⟩))⟩
              · cases e0
            · split at e0
              · rename_i h3
                split at e0
                · cases e0; exact ⟨rfl, Or.inr (Or.inr (Or.inr ⟨h3, by assumption⟩))⟩
                · cases e0
              · cases e0
      obtain ⟨hz, hx0⟩ := key
      subst hz
      intro H locs cells slots ws tys lsR rl stR hS hx hl hv hst hc hs
      obtain ⟨w1, zz, rfl, ⟨n1, rfl, e1⟩, hzz⟩ := s_st1 hst
      have hzz : zz = [] := by
        cases zz with
        | nil => rfl
        | cons a b => exact hzz.elim
      subst hzz
      refine RI pc H locs cells slots ws tys lsR n1 hdg ?_ hS hx ⟨n1, rfl, e1⟩ (by rw [hzc] at hc; simp only at hc; omega) (by rw [hzs] at hs; simp only at hs; omega)
      rcases hx0 with h1 | ⟨h1, h2 | h2⟩ | ⟨h1, h2⟩ | ⟨h1, h2⟩
      · exact Or.inl h1
      · exact Or.inr (Or.inl ⟨h1, Or.inl (Int32.toInt_inj.mp (e1.trans h2))⟩)
      · exact Or.inr (Or.inl ⟨h1, Or.inr (Int32.toInt_inj.mp (e1.trans h2))⟩)
      · exact Or.inr (Or.inr (Or.inl ⟨h1, by rw [e1]; exact h2⟩))
      · exact Or.inr (Or.inr (Or.inr ⟨h1, by rw [e1]; exact h2⟩))
    · cases e0
  case areturn =>
    dsimp only at e0 hdg hln hax
    have hn0 : n0 = 1 := by simpa [j_ln] using hln
    subst hn0
    split at e0
    · rename_i x
      split at e0
      · rename_i h1
        cases e0
        intro H locs cells slots ws tys lsR rl stR hS hx hl hv hst hc hs
        obtain ⟨w1, zz, rfl, ⟨n1, rfl, e1⟩, hzz⟩ := s_st1 hst
        have hzz : zz = [] := by
          cases zz with
          | nil => rfl
          | cons a b => exact hzz.elim
        subst hzz
        exact RA pc H locs cells slots ws tys lsR n1 hdg h1 hS hx ⟨n1, rfl, e1⟩ (by rw [hzc] at hc; simp only at hc; omega) (by rw [hzs] at hs; simp only at hs; omega)
      · cases e0
    · cases e0
  case lreturn =>
    dsimp only at e0 hdg hln hax
    have hn0 : n0 = 1 := by simpa [j_ln] using hln
    subst hn0
    split at e0
    · rename_i x
      split at e0
      · rename_i h1
        cases e0
        intro H locs cells slots ws tys lsR rl stR hS hx hl hv hst hc hs
        obtain ⟨w1, zz, rfl, ⟨n1, rfl, e1⟩, hzz⟩ := s_st1 hst
        have hzz : zz = [] := by
          cases zz with
          | nil => rfl
          | cons a b => exact hzz.elim
        subst hzz
        exact RL pc H locs cells slots ws tys lsR n1 hdg h1 hS hx ⟨n1, rfl, e1⟩ (by rw [hzc] at hc; simp only at hc; omega) (by rw [hzs] at hs; simp only at hs; omega)
      · cases e0
    · cases e0
  case return_ =>
    dsimp only at e0 hdg hln hax
    have hn0 : n0 = 1 := by simpa [j_ln] using hln
    subst hn0
    split at e0
    · split at e0
      · rename_i h1
        cases e0
        intro H locs cells slots ws tys lsR rl stR hS hx hl hv hst hc hs
        have hzz : stR = [] := by
          cases stR with
          | nil => rfl
          | cons a b => exact hst.elim
        subst hzz
        exact RV pc H locs cells slots ws tys lsR hdg h1 hS hx trivial (by rw [hzc] at hc; simp only at hc; omega) (by rw [hzs] at hs; simp only at hs; omega)
      · cases e0
    · cases e0
  case invokevirtual ix =>
    dsimp only at e0 hdg hln hax
    have hn0 : n0 = 3 := by simpa [j_ln] using hln
    subst hn0
    unfold j_ax at hax
    dsimp only at hax
    rw [Bool.or_eq_true, Bool.or_eq_true] at hax
    split at e0
    · rename_i A r hdrop
      split at e0
      · rename_i ha
        rw [ha] at hax
        have hax : (q.2.2.2.2.1 == 15 && (ix == 310 && b0 == 0)) = true := by
          rcases hax with (hax | hax) | hax
          · exact absurd hax (by decide)
          · simpa using hax
          · exact absurd hax (by simp)
        simp only [Bool.and_eq_true, beq_iff_eq] at hax
        obtain ⟨ho, rfl, rfl⟩ := hax
        rw [List.drop_zero] at hdrop
        subst hdrop
        have hm := j_misc2
        simp only [Bool.and_eq_true] at hm
        obtain ⟨m1, m2, m3, m4, m5, m6, m7⟩ := hm
        split at e0
        · rename_i cc N hA
          split at e0
          · rename_i hc1
            obtain ⟨⟨rfl, hbt⟩, hlt, hcat⟩ := hc1
            obtain ⟨g1, g2⟩ := j_run_cnt hcall e0
            rw [s_cln_cnt.1] at g1
            rw [s_cln_cnt.2] at g2
            exact r_clone hC hA hbt hlt hcat (by rw [ho]; exact j_has_mem m2) (j_has_mem m3) (j_has_mem m4) (j_has_mem m5) (j_has_mem m6) (by omega) (by omega) hRc hRs hdg (K _ _ _ _ e0 hn)
          · cases e0
        · cases e0
      · rename_i ha
        rcases hax with (hax | hax) | hax
        · have h97 : a = 9997 := by simpa using hax
          rw [h97, List.getElem?_eq_none (by rw [j_len.1]; decide)] at e0
          cases e0
        · rw [Bool.and_eq_true] at hax
          exact absurd (by simpa using hax.1) ha
        rw [Bool.and_eq_true, Bool.and_eq_true] at hax
        obtain ⟨-, hcal, hax⟩ := hax
        obtain ⟨mq, hmq⟩ := x_cal_some hcal
        obtain ⟨hkd, hnp, h271, hE1, hE2⟩ := x_cal hcal hmq
        have h3 : mq.2.2.2.2.2.1 ≠ 3 := by rw [hkd]; decide
        rw [hmq] at e0
        dsimp only at e0
        obtain ⟨N, hA, e1⟩ := i_obk e0
        split at e1
        · rename_i hcat
          obtain ⟨w, hw1, e2⟩ := i_bind e1
          obtain ⟨k1, k2, k3, k4, k5, k6, -, -⟩ := s_mok hmq h271 h3
          obtain ⟨k7, k8, k9, k10⟩ := k6 hkd
          rw [if_neg (by omega), Nat.add_zero] at k4
          intro H locs cells slots ws tys lsR rl stR hS hx hl hv hst hc hs
          obtain ⟨hge1, hge2⟩ := hcall _ _ _ _ hw1
          obtain ⟨hge3, hge4⟩ := j_run_cnt hcall e2
          have hfix : CallFix p m c q.2.1 nL s args lwW (j_cnm q.2.2.2.2.1) := ⟨hC.1, hC.2.1, hC.2.2.1, hC.2.2.2.1, hw⟩
          have hst2 := (s_st_take (n := b0) hst).2
          rw [hdrop] at hst2
          obtain ⟨w1, rest, hR, ⟨q1, rfl, hq1⟩, hrest⟩ := s_st1 hst2
          have hlen : b0 ≤ st.length := by
            rcases Nat.lt_or_ge st.length b0 with h1 | h1
            · rw [List.drop_eq_nil_of_le (by omega)] at hdrop
              cases hdrop
            · exact h1
          have hAs : s_st (s_ρ b tt ws) (st.take b0).reverse (stR.take b0).reverse := s_st_rev (s_st_take hst).1
          have hM := IH _ _ _ _ hw1 h271 mq hmq h3 ws tys (.ref q1 :: (stR.take b0).reverse) [] (Or.inl ⟨rfl, hE1, hE2⟩) hS.1 ⟨⟨q1, rfl, hq1⟩, hAs⟩
          rw [List.append_nil] at hM
          have hloc : 8 + (mq.2.2.1 + 11) + (92 + 32 * d) ≤ R.locals := by omega
          have hstk : stR = (stR.take b0).reverse.reverse ++ .ref q1 :: rest := by rw [List.reverse_reverse, ← hR, List.take_append_drop]
          have hln2 : (stR.take b0).reverse.length = b0 := by
            have := s_st_len hst
            simp
            omega
          rw [Bool.or_eq_true] at hax
          rcases hax with hax | hax
          · rw [Bool.and_eq_true] at hax
            obtain ⟨hp1, hp2⟩ := x_pl hax.2 hmq
            have hlk := x_mt hax.1
            rw [x_mnm hmq] at hlk
            have hrcv : j_rcv mq.2.2.2.2.1 = mq.2.2.2.2.1 := if_neg (by omega)
            rw [hrcv] at hA
            obtain ⟨r1, hr1, hrec⟩ := s_recv hC hS hA hp1 hq1
            have hcls : mq.1.cls = r1.1 := k3.trans (s_cl hr1).2.2.2.2.2.2.2
            refine s_back (K _ _ _ _ e2 hn) hS hx hl hv hrest (by omega) (by omega) (va_runV (As := (stR.take b0).reverse) hfix hM (cwV b0 hw (s_good (fun v hv => ?_)) rfl rfl rfl ⟨rfl, k4.1, k4.2.1, by rw [k4.2.2, hnp]⟩ ⟨hRm.1, hloc⟩) ⟨s_blind, by rw [hcls]; exact hrec, fun U hU hW => s_start hC hS U hU hW⟩ rfl hln2 (hv.1) hstk (lv_room (by rw [s_st_cat hrest]; exact hcat)) hdg ⟨by omega, by omega⟩)
            unfold wsV at hv
            rcases List.mem_append.mp hv with hv | hv
            · simp only [List.mem_cons, List.not_mem_nil, or_false] at hv
              rcases hv with rfl | rfl | rfl | rfl
              · exact hlk
              · exact k7
              · exact k8 hp1 hp2
              · exact k2
            · exact (k1 v hv).1
          · obtain ⟨v1, v2, v3, v4⟩ := x_vu hax
            rw [x_mnm hmq] at v1 v2 v3 v4
            have hrcv : j_rcv mq.2.2.2.2.1 = 1 := x_vrc hmq v4
            rw [hrcv] at hA
            obtain ⟨r1, hr1, hrec⟩ := s_recv hC hS hA (by decide) hq1
            cases (show some (RJ4, TJ4, 4) = some r1 from hr1)
            rcases v4 with v4 | v4
            · refine s_back (K _ _ _ _ e2 hn) hS hx hl hv hrest (by omega) (by omega) (va_runU (As := (stR.take b0).reverse) hfix hM (va_cwU (C := "java/lang/StringBuilder") (owner := "java/lang/AbstractStringBuilder") (x := j_asb mq.1) b0 hw (s_good (fun v hv => ?_)) rfl rfl rfl v4 ⟨by decide, by decide, by rw [show (j_asb mq.1).desc = mq.1.desc from rfl, k4.2.2, hnp]⟩ ⟨hRm.1, hloc⟩) ⟨s_blind, hrec, fun U hU hW => s_start hC hS U hU hW⟩ rfl hln2 (hv.1) hstk (lv_room (by rw [s_st_cat hrest]; exact hcat)) hdg ⟨by omega, by omega⟩)
              unfold va_wsU at hv
              rcases List.mem_append.mp hv with hv | hv
              · simp only [List.mem_cons, List.not_mem_nil, or_false] at hv
                rcases hv with rfl | rfl | rfl | rfl | rfl
                · exact v1
                · exact v3
                · exact v2
                · exact k7
                · exact k2
              · exact (k1 v hv).1
            · subst v4
              cases (show some (yJ4_length_8abf5, cJ4_length_8abf5, 1, some .int, 1, 0, 0) = some mq from hmq)
              obtain ⟨o1, -, -, -, -, o2, -, -⟩ := s_mok (k := 297) (mq := (yJ5_length_8abf5, cJ5_length_8abf5, 1, some .int, 16, 0, 0)) rfl (by decide) (by decide)
              have o3 := (o2 rfl).1
              have o4 : Cond.code yJ5_length_8abf5 cJ5_length_8abf5 1 (some .int) ∈ lwW := (o1 _ List.mem_cons_self).1
              refine s_back (K _ _ _ _ e2 hn) hS hx hl hv hrest (by omega) (by omega) (va_runU (As := (stR.take b0).reverse) hfix hM (va_cwO (C := "java/lang/StringBuilder") (owner := "java/lang/AbstractStringBuilder") (x := j_asb yJ4_length_8abf5) b0 hw (s_good (fun v hv => ?_)) rfl rfl rfl (b0 := cJ5_length_8abf5) (m0 := 1) (r0 := some .int) o4 ⟨by decide, by decide, by rw [show (j_asb yJ4_length_8abf5).desc = yJ4_length_8abf5.desc from rfl, k4.2.2, hnp]⟩ ⟨hRm.1, hloc⟩) ⟨s_blind, hrec, fun U hU hW => s_start hC hS U hU hW⟩ rfl hln2 (hv.1) hstk (lv_room (by rw [s_st_cat hrest]; exact hcat)) hdg ⟨by omega, by omega⟩)
              unfold va_wsO at hv
              rcases List.mem_append.mp hv with hv | hv
              · simp only [List.mem_cons, List.not_mem_nil, or_false] at hv
                rcases hv with rfl | rfl | rfl | rfl | rfl | rfl
                · exact v1
                · exact v3
                · exact o3
                · exact v2
                · exact k7
                · exact k2
              · exact (k1 v hv).1
        · cases e1
    · cases e0
  case invokespecial ix =>
    dsimp only at e0 hdg hln hax
    have hn0 : n0 = 3 := by simpa [j_ln] using hln
    subst hn0
    unfold j_ax at hax
    dsimp only at hax
    rw [Bool.or_eq_true] at hax
    split at e0
    · cases e0
    rename_i h97
    have hax := hax.resolve_left (by simpa using h97)
    split at e0
    · rename_i A r hdrop
      split at e0
      · rename_i hcat
        split at e0
        · rename_i ha
          rw [ha] at hax
          have hax : (j_mt.any (fun t => t.1 == q.2.2.2.2.1 && t.2.1 == ix && t.2.2.1 == 9998) && b0 == 0) = true := by simpa using hax
          simp only [Bool.and_eq_true, beq_iff_eq] at hax
          obtain ⟨hax, rfl⟩ := hax
          have hlk := x_mt (by simpa using hax)
          have hm := j_misc
          simp only [Bool.and_eq_true] at hm
          obtain ⟨m1, m2, m3, m4, m5, m6, m7, m8, m9, m10⟩ := hm
          rw [List.drop_zero] at hdrop
          subst hdrop
          intro H locs cells slots ws tys lsR rl stR hS hx hl hv hst hc hs
          obtain ⟨w1, zz, rfl, ⟨q1, rfl, e1⟩, hzz⟩ := s_st1 hst
          exact W.objInit hC.1 hC.2.1 hC.2.2.2.1 (hw _ hlk) (hw _ (j_has_mem m1)) (hw _ (j_has_mem m2)) rfl (hv.1.trans hC.2.2.1.symm) rfl hdg hC.2.2.2.2.2.2.2.1 (by
            have h8 := s_st_cat hzz
            have h40 := hC.2.2.2.2.2.2.1
            show 2 * 0 + _ + 12 ≤ _
            omega) (K _ _ _ _ e0 hn H locs cells slots ws tys lsR rl zz hS hx hl hv hzz hc hs)
        · rename_i ha
          have h9 : (a == 9998) = false := by simpa using ha
          rw [h9] at hax
          rw [if_neg (by decide), Bool.or_eq_true] at hax
          rcases hax with hax | hax
          · rw [Bool.and_eq_true, Bool.or_eq_true] at hax
            obtain ⟨mq, hmq⟩ := x_cal_some hax.2
            obtain ⟨hkd, hnp, h271, hE1, hE2⟩ := x_cal hax.2 hmq
            have h3 : mq.2.2.2.2.2.1 ≠ 3 := by rw [hkd]; decide
            unfold j_obs at e0
            rw [hmq] at e0
            dsimp only at e0
            rw [if_pos hkd] at e0
            obtain ⟨w, hw1, e2⟩ := i_bind e0
            obtain ⟨k1, k2, k3, k4, k5, -, -, k6⟩ := s_mok hmq h271 h3
            rw [if_neg (by omega), Nat.add_zero] at k4
            obtain ⟨k7, k8, k9⟩ := k6 hkd
            intro H locs cells slots ws tys lsR rl stR hS hx hl hv hst hc hs
            obtain ⟨hge1, hge2⟩ := hcall _ _ _ _ hw1
            obtain ⟨hge3, hge4⟩ := j_run_cnt hcall e2
            have hfix : CallFix p m c q.2.1 nL s args lwW (j_cnm q.2.2.2.2.1) := ⟨hC.1, hC.2.1, hC.2.2.1, hC.2.2.2.1, hw⟩
            have hst2 := (s_st_take (n := b0) hst).2
            rw [hdrop] at hst2
            obtain ⟨w1, rest, hR, ⟨q1, rfl, hq1⟩, hrest⟩ := s_st1 hst2
            have hlen : b0 ≤ st.length := by
              rcases Nat.lt_or_ge st.length b0 with h1 | h1
              · rw [List.drop_eq_nil_of_le (by omega)] at hdrop
                cases hdrop
              · exact h1
            have hAs : s_st (s_ρ b tt ws) (st.take b0).reverse (stR.take b0).reverse := s_st_rev (s_st_take hst).1
            have hM := IH _ _ _ _ hw1 h271 mq hmq h3 ws tys (.ref q1 :: (stR.take b0).reverse) [] (Or.inl ⟨rfl, hE1, hE2⟩) hS.1 ⟨⟨q1, rfl, hq1⟩, hAs⟩
            rw [List.append_nil] at hM
            have hwsq : s_ws mq = Cond.code mq.1 mq.2.1 mq.2.2.1 none :: lwW := by unfold s_ws; rw [k9]
            have hloc : 8 + (mq.2.2.1 + 11) + (92 + 32 * d) ≤ R.locals := by omega
            have hstk : stR = (stR.take b0).reverse.reverse ++ .ref q1 :: rest := by rw [List.reverse_reverse, ← hR, List.take_append_drop]
            have hln2 : (stR.take b0).reverse.length = b0 := by
              have := s_st_len hst
              simp
              omega
            rcases hax.1 with hax1 | hax1
            · have hlk := x_mt hax1
              rw [x_mnm hmq] at hlk
              exact s_back (K _ _ _ _ e2 hn) hS hx hl hv hrest (by omega) (by omega) (va_runI (As := (stR.take b0).reverse) hfix hM (cwI b0 hw k1 hwsq rfl rfl (hw _ k2) (hw _ hlk) (hw _ k7) k8 ⟨k4.1, k4.2.1, by rw [k4.2.2, hnp]⟩ ⟨hRm.1, hloc⟩) ⟨s_blind, fun U hU hW => s_start hC hS U hU hW⟩ rfl hln2 (hv.1) hstk (lv_room (by rw [s_st_cat hrest]; exact hcat)) hdg ⟨by omega, by omega⟩)
            · obtain ⟨t, ht, htw⟩ := x_mn hax1
              rw [x_mnm hmq] at htw
              exact s_back (K _ _ _ _ e2 hn) hS hx hl hv hrest (by omega) (by omega) (va_runIN (As := (stR.take b0).reverse) hfix hM ⟨va_cnB b0 hw k1 hwsq rfl rfl (by rw [← htw]; exact hC.2.2.2.2.2.2.2.2.2.2.2.2.2.2.1 t ht) (hw _ k2) ⟨k4.1, k4.2.1, by rw [k4.2.2, hnp]⟩ ⟨hRm.1, hloc⟩, k8, hw _ k7⟩ ⟨s_blind, fun U hU hW => s_start hC hS U hU hW⟩ rfl hln2 (hv.1) hstk (lv_room (by rw [s_st_cat hrest]; exact hcat)) hdg ⟨by omega, by omega⟩)
          · rw [Bool.and_eq_true, Bool.and_eq_true, Bool.and_eq_true, beq_iff_eq] at hax
            obtain ⟨hmt, hcal, ho, hsu⟩ := hax
            obtain ⟨mq, hmq⟩ := x_cal_some hcal
            obtain ⟨hkd, hnp, h271, hE1, hE2⟩ := x_cal hcal hmq
            have h3 : mq.2.2.2.2.2.1 ≠ 3 := by rw [hkd]; decide
            unfold j_obs at e0
            rw [hmq] at e0
            dsimp only at e0
            rw [if_neg (by rw [hkd]; decide)] at e0
            have h16 := x_sup hsu hmq
            obtain ⟨N, hA, e1⟩ := i_obk e0
            rw [h16] at hA
            obtain ⟨w, hw1, e2⟩ := i_bind e1
            obtain ⟨k1, k2, k3, k4, k5, k6, -, -⟩ := s_mok hmq h271 h3
            rw [if_neg (by omega), Nat.add_zero] at k4
            obtain ⟨k7, -, k9, k10⟩ := k6 hkd
            intro H locs cells slots ws tys lsR rl stR hS hx hl hv hst hc hs
            obtain ⟨hge1, hge2⟩ := hcall _ _ _ _ hw1
            obtain ⟨hge3, hge4⟩ := j_run_cnt hcall e2
            have hfix : CallFix p m c q.2.1 nL s args lwW (j_cnm q.2.2.2.2.1) := ⟨hC.1, hC.2.1, hC.2.2.1, hC.2.2.2.1, hw⟩
            have hst2 := (s_st_take (n := b0) hst).2
            rw [hdrop] at hst2
            obtain ⟨w1, rest, hR, ⟨q1, rfl, hq1⟩, hrest⟩ := s_st1 hst2
            have hlen : b0 ≤ st.length := by
              rcases Nat.lt_or_ge st.length b0 with h1 | h1
              · rw [List.drop_eq_nil_of_le (by omega)] at hdrop
                cases hdrop
              · exact h1
            have hAs : s_st (s_ρ b tt ws) (st.take b0).reverse (stR.take b0).reverse := s_st_rev (s_st_take hst).1
            have hM := IH _ _ _ _ hw1 h271 mq hmq h3 ws tys (.ref q1 :: (stR.take b0).reverse) [] (Or.inl ⟨rfl, hE1, hE2⟩) hS.1 ⟨⟨q1, rfl, hq1⟩, hAs⟩
            rw [List.append_nil] at hM
            have hloc : 8 + (mq.2.2.1 + 11) + (92 + 32 * d) ≤ R.locals := by omega
            have hstk : stR = (stR.take b0).reverse.reverse ++ .ref q1 :: rest := by rw [List.reverse_reverse, ← hR, List.take_append_drop]
            have hln2 : (stR.take b0).reverse.length = b0 := by
              have := s_st_len hst
              simp
              omega
            obtain ⟨r1, hr1, hrec⟩ := s_recv hC hS hA (by decide) hq1
            cases (show some (RJ4, TJ4, 4) = some r1 from hr1)
            have hlk := x_mt hmt
            rw [x_mnm hmq] at hlk
            have hcl : mq.1.cls = "java/lang/AbstractStringBuilder" := by rw [k3, h16]; rfl
            have hm := j_misc2
            simp only [Bool.and_eq_true] at hm
            refine s_back (K _ _ _ _ e2 hn) hS hx hl hv hrest (by omega) (by omega) (va_runSU (As := (stR.take b0).reverse) (C := "java/lang/StringBuilder") (hS.2.2.1.1 1 _ hr1).2 hfix hM (va_cwSU b0 hw (s_good (fun v hv => ?_)) rfl rfl rfl ⟨k9, by rw [k4.2.2, hnp]⟩ ⟨hRm.1, hloc⟩) ⟨s_blind, hrec, fun U hU hW => s_start hC hS U hU hW⟩ rfl hln2 (hv.1) hstk (lv_room (by rw [s_st_cat hrest]; exact hcat)) hdg ⟨by omega, by omega⟩)
            unfold va_wsSU at hv
            rcases List.mem_append.mp hv with hv | hv
            · simp only [List.mem_cons, List.not_mem_nil, or_false] at hv
              rcases hv with rfl | rfl | rfl | rfl | rfl
              · exact hlk
              · rcases k10 with k10 | k10
                · omega
                · exact k10.2
              · rw [ho, hcl]
                exact j_has_mem hm.2.2.2.2.2.2
              · exact k7
              · exact k2
            · exact (k1 v hv).1
      · cases e0
    · cases e0
  case invokestatic ix =>
    dsimp only at e0 hdg hln hax
    have hn0 : n0 = 3 := by simpa [j_ln] using hln
    subst hn0
    unfold j_ax at hax
    dsimp only at hax
    rw [Bool.or_eq_true] at hax
    split at e0
    · cases e0
    rename_i h97
    have hax := hax.resolve_left (by simpa using h97)
    split at e0
    · rename_i ha
      rw [ha] at hax
      have hax : (j_mt.any (fun t => t.1 == q.2.2.2.2.1 && t.2.1 == ix && t.2.2.1 == 9999)) = true := by simpa using hax
      have hlk := x_mt hax
      have hm := j_misc
      simp only [Bool.and_eq_true] at hm
      obtain ⟨m1, m2, m3, m4, m5, m6, m7, m8, m9, m10⟩ := hm
      split at e0
      · split at e0
        · rename_i cc n0' dd n1' hA hB
          split at e0
          · rename_i hcond
            split at e0
            · rename_i hi
              obtain ⟨hc32, hcd, ha2, hb2, hcat⟩ := hcond
              subst hcd
              rcases hc32 with rfl | rfl | ⟨rfl, hbt⟩
              · exact r_cpy_int hC hlk (j_has_mem m3) (j_has_mem m4) (j_has_mem m5) ha2 hb2 (s_kd_ne hA (by decide) (by decide)) hB hi hcat hdg (K _ _ _ _ e0 hn)
              · exact r_cpy_long hC hlk (j_has_mem m3) (j_has_mem m4) (j_has_mem m5) ha2 hb2 (s_kd_ne hA (by decide) (by decide)) hB hi hcat hdg (K _ _ _ _ e0 hn)
              · exact r_cpy_byte hC hlk (j_has_mem m3) (j_has_mem m4) (j_has_mem m5) ha2 hb2 hA hB hbt hi hcat hdg (K _ _ _ _ e0 hn)
            · cases e0
          · cases e0
        · cases e0
      · cases e0
    · rename_i ha
      have hax : ((j_mt.any (fun t => t.1 == q.2.2.2.2.1 && t.2.1 == ix && t.2.2.1 == a) || j_mn.any (fun t => t.1 == q.2.2.2.2.1 && t.2.1 == ix && t.2.2.1 == a)) && j_cal a 1 b0) = true := by
        have h9 : (a == 9999) = false := by simpa using ha
        rw [h9] at hax
        exact hax
      rw [Bool.and_eq_true, Bool.or_eq_true] at hax
      split at e0
      · rename_i hcat
        obtain ⟨mq, hmq⟩ := x_cal_some hax.2
        obtain ⟨hkd, hnp, h271, hE1, hE2⟩ := x_cal hax.2 hmq
        have h3 : mq.2.2.2.2.2.1 ≠ 3 := by rw [hkd]; decide
        obtain ⟨w, hw1, e2⟩ := i_bind e0
        obtain ⟨k1, k2, k3, k4, k5, -, k6, -⟩ := s_mok hmq h271 h3
        rw [if_neg (by omega), Nat.add_zero] at k4
        have k7 := k6 hkd
        intro H locs cells slots ws tys lsR rl stR hS hx hl hv hst hc hs
        obtain ⟨hge1, hge2⟩ := hcall _ _ _ _ hw1
        obtain ⟨hge3, hge4⟩ := j_run_cnt hcall e2
        have hfix : CallFix p m c q.2.1 nL s args lwW (j_cnm q.2.2.2.2.1) := ⟨hC.1, hC.2.1, hC.2.2.1, hC.2.2.2.1, hw⟩
        have hrest := (s_st_take (n := b0) hst).2
        have hAs : s_st (s_ρ b tt ws) (st.take b0).reverse (stR.take b0).reverse := s_st_rev (s_st_take hst).1
        have hM := IH _ _ _ _ hw1 h271 mq hmq h3 ws tys (stR.take b0).reverse [] (Or.inl ⟨rfl, hE1, hE2⟩) hS.1 hAs
        rw [List.append_nil] at hM
        have hloc : 8 + (mq.2.2.1 + 11) + (92 + 32 * d) ≤ R.locals := by omega
        have hstk : stR = (stR.take b0).reverse.reverse ++ stR.drop b0 := by rw [List.reverse_reverse, List.take_append_drop]
        have hln2 : (stR.take b0).reverse.length = b0 := by
          have := s_st_len hst
          simp
          omega
        rcases hax.1 with hax1 | hax1
        · have hlk := x_mt hax1
          rw [x_mnm hmq] at hlk
          refine s_back (K _ _ _ _ e2 hn) hS hx hl hv hrest (by omega) (by omega) (va_runS (As := (stR.take b0).reverse) hfix hM (va_cwS b0 hw (s_good (fun v hv => ?_)) rfl rfl rfl ⟨k4.1, k4.2.1, by rw [k4.2.2, hnp]⟩ ⟨hRm.1, hloc⟩) ⟨s_blind, fun U hU hW => s_start hC hS U hU hW⟩ rfl hln2 (hv.1) hstk (lv_room (by rw [s_st_cat hrest]; exact hcat.2)) hdg ⟨by omega, by omega⟩)
          unfold va_wsS at hv
          rcases List.mem_append.mp hv with hv | hv
          · simp only [List.mem_cons, List.not_mem_nil, or_false] at hv
            rcases hv with rfl | rfl | rfl
            · exact hlk
            · exact k7
            · exact k2
          · exact (k1 v hv).1
        · obtain ⟨t, ht, htw⟩ := x_mn hax1
          rw [x_mnm hmq] at htw
          exact s_back (K _ _ _ _ e2 hn) hS hx hl hv hrest (by omega) (by omega) (va_runSN (As := (stR.take b0).reverse) hfix hM ⟨va_cnB b0 hw k1 rfl rfl rfl (by rw [← htw]; exact hC.2.2.2.2.2.2.2.2.2.2.2.2.2.2.1 t ht) (hw _ k2) ⟨k4.1, k4.2.1, by rw [k4.2.2, hnp]⟩ ⟨hRm.1, hloc⟩, hw _ k7, trivial⟩ ⟨s_blind, fun U hU hW => s_start hC hS U hU hW⟩ rfl hln2 (hv.1) hstk (lv_room (by rw [s_st_cat hrest]; exact hcat.2)) hdg ⟨by omega, by omega⟩)
      · cases e0
  all_goals exact absurd e0 (by simp)
end SS
