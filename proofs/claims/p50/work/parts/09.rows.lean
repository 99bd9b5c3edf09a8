/-! An instruction a row: what the abstract machine does, the machine does. -/
def lwW : List Cond := lw_tb2.filter goodWord
def s_A (sb : Nat) : Nat → Prop := fun q => sb ≤ q
/-- what stands ahead of the start, as the machine has it -/
def s_RK (tt : Nat → Nat) (sb : Nat) (s : State) (H : Heap) : Prop := va_Z "java/lang/String" "COMPACT_STRINGS" "Z" (.int 1) (s_A sb) s H ∧ va_Z "java/lang/Integer" "DigitOnes" "[B" (.ref (tt 21)) (s_A sb) s H ∧ va_Z "java/lang/Integer" "DigitTens" "[B" (.ref (tt 22)) (s_A sb) s H ∧ (∀ a N : Nat, j_kc a = some (34, N) → va_T .byte (tt (a - 999999)) N (fun j => .int (Int32.ofInt (s_kb a j))) (s_A sb) s H) ∧ (∀ k : Nat, k < 10 → va_O "java/lang/String" (tt (1 + 2 * k)) (s_A sb) s H ∧ va_OF "java/lang/String" "coder" "B" (.int 0) (tt (1 + 2 * k)) (s_A sb) s H ∧ va_OF "java/lang/String" "value" "[B" (.ref (tt (2 + 2 * k))) (tt (1 + 2 * k)) (s_A sb) s H) ∧ (∀ k x, j_tx[k]? = some x → vk_R "WholePacksLaw" x.1 x.2.1 (tt (1 + 2 * k)) s) ∧ va_Nw (.castable "[B" "java/lang/Cloneable") s ∧ ∃ v : Value, v.category = 1 ∧ va_Z "jdk/internal/util/Preconditions" "SIOOBE_FORMATTER" "Ljava/util/function/BiFunction;" v (s_A sb) s H
def s_RO (b : Nat) (tt : Nat → Nat) (L sb : Nat) (xs : Nat → Int32) (s : State) (H : Heap) : Prop := va_T .int b L (fun j => .int (xs j)) (s_A sb) s H ∧ L < 2 ^ 31 ∧ va_T .int (tt 0) 6 (fun j => .int (s_tn j)) (s_A sb) s H ∧ va_Z "WholePacks" "TENS" "[I" (.ref (tt 0)) (s_A sb) s H ∧ (∀ t ∈ j_fn, va_Nw (j_fnw t) s) ∧ (∀ t ∈ j_fsn, va_Nw (j_fsw t) s) ∧ (∀ t ∈ j_mn, va_Nw (j_mnw t) s) ∧ (va_AOA .long s ∧ s_RK tt sb s H) ∧ sb ≤ H.size
def s_C (p : Program) (s : State) (m : MethodId) (args : Array Value) (meth : Method) (c : Code) (R : Room) (q : j_M) (b : Nat) (tt : Nat → Nat) (L sb : Nat) (xs : Nat → Int32) (nL : Nat) : Prop := p.tables.exec = Jvm.exec ∧ c.code = q.2.1 ∧ c.maxLocals = nL ∧ s.vm.findClass (j_cnm q.2.2.2.2.1) = some m.cls ∧ (∀ w, w ∈ lw_tb2 → goodWord w = true → w.before args s = true) ∧ (q.2.2.2.2.2.1 = 2 → meth.name = "<init>") ∧ 40 ≤ R.locals ∧ 1 ≤ R.frames ∧ s_RO b tt L sb xs s s.heap
def s_St (D : va_G) (b : Nat) (tt : Nat → Nat) (L sb : Nat) (xs : Nat → Int32) (s : State) (h : j_H) (H : Heap) (locs : List Loc) (tys : List (ClassId × FieldType)) (ws : va_W) : Prop := s_w b tt L xs tys h ws ∧ va_P D vwCl ws H ∧ va_K D vwCl tys s ∧ va_D (s_A sb) ws ∧ va_S (s_A sb) s.heap H locs
def s_G (D : va_G) (b : Nat) (tt : Nat → Nat) (L sb : Nat) (xs : Nat → Int32) (s : State) (ρ0 : j_P) (nL zc zs mc ms : Nat) (m : MethodId) (Wf : Heap → List Loc → Nat → Nat → JFrame → Prop) (pc : Nat) (ls : j_L) (st : List j_V) (h : j_H) : Prop :=
  ∀ (H : Heap) (locs : List Loc) (cells slots : Nat) (ws : va_W) (tys : List (ClassId × FieldType)) (lsR : Array Slot) (rl : List (Option Value)) (stR : List Value), s_St D b tt L sb xs s h H locs tys ws → (∀ a q : Nat, ρ0 a = some q → s_ρ b tt ws a = some q) → s_lo (s_ρ b tt ws) ls rl → lv_has lsR nL (s_as 0 rl) → s_st (s_ρ b tt ws) st stR → cells + zc = mc + h.1.length → slots + zs = ms + s_sl h → Wf H locs cells slots (F0 m pc lsR stR)
theorem s_st1 {ρ : j_P} {v : j_V} {r : List j_V} {k : List Value} (h : s_st ρ (v :: r) k) : ∃ w z, k = w :: z ∧ s_val ρ v w ∧ s_st ρ r z := by
  match k, h with
  | w :: z, h => exact ⟨w, z, rfl, h.1, h.2⟩
theorem s_st2 {ρ : j_P} {v u : j_V} {r : List j_V} {k : List Value} (h : s_st ρ (v :: u :: r) k) : ∃ w x z, k = w :: x :: z ∧ s_val ρ v w ∧ s_val ρ u x ∧ s_st ρ r z := by
  obtain ⟨w, z, rfl, h1, h2⟩ := s_st1 h
  obtain ⟨x, z, rfl, h3, h4⟩ := s_st1 h2
  exact ⟨w, x, z, rfl, h1, h3, h4⟩
theorem s_st3 {ρ : j_P} {v u t : j_V} {r : List j_V} {k : List Value} (h : s_st ρ (v :: u :: t :: r) k) : ∃ w x y z, k = w :: x :: y :: z ∧ s_val ρ v w ∧ s_val ρ u x ∧ s_val ρ t y ∧ s_st ρ r z := by
  obtain ⟨w, x, z, rfl, h1, h2, h3⟩ := s_st2 h
  obtain ⟨y, z, rfl, h4, h5⟩ := s_st1 h3
  exact ⟨w, x, y, z, rfl, h1, h2, h4, h5⟩
theorem j_ld_some {ls : j_L} {k : Nat} {v : j_V} (h : j_ld ls k = some v) : ls[k]? = some (some v) := by
  unfold j_ld at h
  split at h
  · rename_i o e
    rw [e, h]
  · cases h
theorem s_ldv {ρ : j_P} {ls : j_L} {rl : List (Option Value)} {A : Array Slot} {nL k : Nat} {v : j_V} (hl : s_lo ρ ls rl) (hv : lv_has A nL (s_as 0 rl)) (h : j_ld ls k = some v) : ∃ w, A[k]? = some (.val w) ∧ s_val ρ v w := by
  obtain ⟨w, h1, h2⟩ := s_lo_get hl (j_ld_some h)
  exact ⟨w, hv.2.2 (k, w) (s_as_mem0.mpr h1), h2⟩
theorem j_s1_some {ls l : j_L} {k : Nat} {v : j_V} (h : j_s1 ls k v = some l) : j_pre ls k = true ∧ k < ls.length ∧ l = ls.set k (some v) := by
  unfold j_s1 at h
  split at h
  · split at h
    · cases h
      exact ⟨by assumption, by assumption, rfl⟩
    · cases h
  · cases h
theorem j_s2_some {ls l : j_L} {k : Nat} {v : j_V} (h : j_s2 ls k v = some l) : j_pre ls k = true ∧ k + 1 < ls.length ∧ l = (ls.set k (some v)).set (k + 1) none := by
  unfold j_s2 at h
  split at h
  · split at h
    · cases h
      exact ⟨by assumption, by assumption, rfl⟩
    · cases h
  · cases h
theorem s_has_len {ρ : j_P} {ls : j_L} {rl : List (Option Value)} {A : Array Slot} {nL : Nat} (h : ls.length = nL) (hl : s_lo ρ ls rl) : rl.length = nL := (s_lo_len hl).symm.trans h
theorem s_irem (a b : Int32) : (a - a / b * b).toInt = a.toInt.tmod b.toInt := by
  rw [Int32.toInt_sub, Int32.toInt_mul, Int32.toInt_div, Int.bmod_mul_bmod, Int.sub_bmod_bmod, ← Int32.toInt_mod, ← Int32.toInt_bmod (a % b), Int32.toInt_mod]
  rw [Int.tmod_def, Int.mul_comm]
theorem s_lrem (a b : Int64) : (a - a / b * b).toInt = a.toInt.tmod b.toInt := by
  rw [Int64.toInt_sub, Int64.toInt_mul, Int64.toInt_div, Int.bmod_mul_bmod, Int.sub_bmod_bmod, ← Int64.toInt_mod, ← Int64.toInt_bmod (a % b), Int64.toInt_mod]
  rw [Int.tmod_def, Int.mul_comm]
theorem s_i0 {n : Int32} : n = 0 ↔ n.toInt = 0 := by rw [← Int32.toInt_inj]; rfl
theorem s_l0 {n : Int64} : n = 0 ↔ n.toInt = 0 := by rw [← Int64.toInt_inj]; rfl
section SR
variable {p : Program} {l : Launch} {e : Env} {R : Room} {s : State} {m : MethodId} {args : Array Value} {below : List Frame} {meth : Method} {c : Code} {Q : State → Prop} {D : va_G} {b : Nat} {tt : Nat → Nat} {L sb nL zc zs mc ms pc : Nat} {xs : Nat → Int32} {ρ0 : j_P} {q : j_M} {ls : j_L} {r : List j_V} {h : j_H}
theorem r_iadd (hC : s_C p s m args meth c R q b tt L sb xs nL) {x y : Int}  (hdg : decode q.2.1 pc = .ok (.iadd, 1))
    (K : s_G D b tt L sb xs s ρ0 nL zc zs mc ms m (fun H locs cells slots g => W p l e R s m args below meth c H locs cells slots Q g) (pc + 1) ls (jI (w32 (x + y)) :: r) h) : s_G D b tt L sb xs s ρ0 nL zc zs mc ms m (fun H locs cells slots g => W p l e R s m args below meth c H locs cells slots Q g) pc ls (jI y :: jI x :: r) h := by
  intro H locs cells slots ws tys lsR rl stR hS hx hl hv hst hc hs
  obtain ⟨w1, w2, z, rfl, ⟨n1, rfl, e1⟩, ⟨n2, rfl, e2⟩, hz⟩ := s_st2 hst
  exact lv_iadd hC.1 hC.2.1 hdg  (K _ _ _ _ _ _ _ _ _ hS hx hl hv ⟨⟨_, rfl, by rw [Int32.toInt_add, e1, e2]; rfl⟩, hz⟩ hc hs)
theorem r_isub (hC : s_C p s m args meth c R q b tt L sb xs nL) {x y : Int}  (hdg : decode q.2.1 pc = .ok (.isub, 1))
    (K : s_G D b tt L sb xs s ρ0 nL zc zs mc ms m (fun H locs cells slots g => W p l e R s m args below meth c H locs cells slots Q g) (pc + 1) ls (jI (w32 (x - y)) :: r) h) : s_G D b tt L sb xs s ρ0 nL zc zs mc ms m (fun H locs cells slots g => W p l e R s m args below meth c H locs cells slots Q g) pc ls (jI y :: jI x :: r) h := by
  intro H locs cells slots ws tys lsR rl stR hS hx hl hv hst hc hs
  obtain ⟨w1, w2, z, rfl, ⟨n1, rfl, e1⟩, ⟨n2, rfl, e2⟩, hz⟩ := s_st2 hst
  exact lv_isub hC.1 hC.2.1 hdg  (K _ _ _ _ _ _ _ _ _ hS hx hl hv ⟨⟨_, rfl, by rw [Int32.toInt_sub, e1, e2]; rfl⟩, hz⟩ hc hs)
theorem r_imul (hC : s_C p s m args meth c R q b tt L sb xs nL) {x y : Int}  (hdg : decode q.2.1 pc = .ok (.imul, 1))
    (K : s_G D b tt L sb xs s ρ0 nL zc zs mc ms m (fun H locs cells slots g => W p l e R s m args below meth c H locs cells slots Q g) (pc + 1) ls (jI (w32 (x * y)) :: r) h) : s_G D b tt L sb xs s ρ0 nL zc zs mc ms m (fun H locs cells slots g => W p l e R s m args below meth c H locs cells slots Q g) pc ls (jI y :: jI x :: r) h := by
  intro H locs cells slots ws tys lsR rl stR hS hx hl hv hst hc hs
  obtain ⟨w1, w2, z, rfl, ⟨n1, rfl, e1⟩, ⟨n2, rfl, e2⟩, hz⟩ := s_st2 hst
  exact lv_imul hC.1 hC.2.1 hdg  (K _ _ _ _ _ _ _ _ _ hS hx hl hv ⟨⟨_, rfl, by rw [Int32.toInt_mul, e1, e2]; rfl⟩, hz⟩ hc hs)
theorem r_idiv (hC : s_C p s m args meth c R q b tt L sb xs nL) {x y : Int} (hy : ¬ y = 0) (hdg : decode q.2.1 pc = .ok (.idiv, 1))
    (K : s_G D b tt L sb xs s ρ0 nL zc zs mc ms m (fun H locs cells slots g => W p l e R s m args below meth c H locs cells slots Q g) (pc + 1) ls (jI (w32 (x.tdiv y)) :: r) h) : s_G D b tt L sb xs s ρ0 nL zc zs mc ms m (fun H locs cells slots g => W p l e R s m args below meth c H locs cells slots Q g) pc ls (jI y :: jI x :: r) h := by
  intro H locs cells slots ws tys lsR rl stR hS hx hl hv hst hc hs
  obtain ⟨w1, w2, z, rfl, ⟨n1, rfl, e1⟩, ⟨n2, rfl, e2⟩, hz⟩ := s_st2 hst
  exact lv_idiv hC.1 hC.2.1 hdg (fun h0 => hy (by rw [← e1]; exact s_i0.mp h0)) (K _ _ _ _ _ _ _ _ _ hS hx hl hv ⟨⟨_, rfl, by rw [Int32.toInt_div, e1, e2]; rfl⟩, hz⟩ hc hs)
theorem r_irem (hC : s_C p s m args meth c R q b tt L sb xs nL) {x y : Int} (hy : ¬ y = 0) (hdg : decode q.2.1 pc = .ok (.irem, 1))
    (K : s_G D b tt L sb xs s ρ0 nL zc zs mc ms m (fun H locs cells slots g => W p l e R s m args below meth c H locs cells slots Q g) (pc + 1) ls (jI (x.tmod y) :: r) h) : s_G D b tt L sb xs s ρ0 nL zc zs mc ms m (fun H locs cells slots g => W p l e R s m args below meth c H locs cells slots Q g) pc ls (jI y :: jI x :: r) h := by
  intro H locs cells slots ws tys lsR rl stR hS hx hl hv hst hc hs
  obtain ⟨w1, w2, z, rfl, ⟨n1, rfl, e1⟩, ⟨n2, rfl, e2⟩, hz⟩ := s_st2 hst
  exact lv_irem hC.1 hC.2.1 hdg (fun h0 => hy (by rw [← e1]; exact s_i0.mp h0)) (K _ _ _ _ _ _ _ _ _ hS hx hl hv ⟨⟨_, rfl, by rw [s_irem, e1, e2]⟩, hz⟩ hc hs)
theorem r_iand (hC : s_C p s m args meth c R q b tt L sb xs nL) {x y : Int}  (hdg : decode q.2.1 pc = .ok (.iand, 1))
    (K : s_G D b tt L sb xs s ρ0 nL zc zs mc ms m (fun H locs cells slots g => W p l e R s m args below meth c H locs cells slots Q g) (pc + 1) ls (jI (j_and x y) :: r) h) : s_G D b tt L sb xs s ρ0 nL zc zs mc ms m (fun H locs cells slots g => W p l e R s m args below meth c H locs cells slots Q g) pc ls (jI y :: jI x :: r) h := by
  intro H locs cells slots ws tys lsR rl stR hS hx hl hv hst hc hs
  obtain ⟨w1, w2, z, rfl, ⟨n1, rfl, e1⟩, ⟨n2, rfl, e2⟩, hz⟩ := s_st2 hst
  exact lv_iand hC.1 hC.2.1 hdg  (K _ _ _ _ _ _ _ _ _ hS hx hl hv ⟨⟨_, rfl, by unfold j_and; rw [← e1, ← e2, Int32.ofInt_toInt, Int32.ofInt_toInt]⟩, hz⟩ hc hs)
theorem r_ixor (hC : s_C p s m args meth c R q b tt L sb xs nL) {x y : Int}  (hdg : decode q.2.1 pc = .ok (.ixor, 1))
    (K : s_G D b tt L sb xs s ρ0 nL zc zs mc ms m (fun H locs cells slots g => W p l e R s m args below meth c H locs cells slots Q g) (pc + 1) ls (jI (j_xor x y) :: r) h) : s_G D b tt L sb xs s ρ0 nL zc zs mc ms m (fun H locs cells slots g => W p l e R s m args below meth c H locs cells slots Q g) pc ls (jI y :: jI x :: r) h := by
  intro H locs cells slots ws tys lsR rl stR hS hx hl hv hst hc hs
  obtain ⟨w1, w2, z, rfl, ⟨n1, rfl, e1⟩, ⟨n2, rfl, e2⟩, hz⟩ := s_st2 hst
  exact lv_ixor hC.1 hC.2.1 hdg  (K _ _ _ _ _ _ _ _ _ hS hx hl hv ⟨⟨_, rfl, by unfold j_xor; rw [← e1, ← e2, Int32.ofInt_toInt, Int32.ofInt_toInt]⟩, hz⟩ hc hs)
theorem r_iushr (hC : s_C p s m args meth c R q b tt L sb xs nL) {x y : Int}  (hdg : decode q.2.1 pc = .ok (.iushr, 1))
    (K : s_G D b tt L sb xs s ρ0 nL zc zs mc ms m (fun H locs cells slots g => W p l e R s m args below meth c H locs cells slots Q g) (pc + 1) ls (jI (j_ushr x y) :: r) h) : s_G D b tt L sb xs s ρ0 nL zc zs mc ms m (fun H locs cells slots g => W p l e R s m args below meth c H locs cells slots Q g) pc ls (jI y :: jI x :: r) h := by
  intro H locs cells slots ws tys lsR rl stR hS hx hl hv hst hc hs
  obtain ⟨w1, w2, z, rfl, ⟨n1, rfl, e1⟩, ⟨n2, rfl, e2⟩, hz⟩ := s_st2 hst
  exact lv_iushr hC.1 hC.2.1 hdg rfl (K _ _ _ _ _ _ _ _ _ hS hx hl hv ⟨⟨_, rfl, by unfold j_ushr; rw [← e1, ← e2, Int32.ofInt_toInt, Int32.ofInt_toInt]⟩, hz⟩ hc hs)
theorem r_ladd (hC : s_C p s m args meth c R q b tt L sb xs nL) {x y : Int}  (hdg : decode q.2.1 pc = .ok (.ladd, 1))
    (K : s_G D b tt L sb xs s ρ0 nL zc zs mc ms m (fun H locs cells slots g => W p l e R s m args below meth c H locs cells slots Q g) (pc + 1) ls (jL (w64 (x + y)) :: r) h) : s_G D b tt L sb xs s ρ0 nL zc zs mc ms m (fun H locs cells slots g => W p l e R s m args below meth c H locs cells slots Q g) pc ls (jL y :: jL x :: r) h := by
  intro H locs cells slots ws tys lsR rl stR hS hx hl hv hst hc hs
  obtain ⟨w1, w2, z, rfl, ⟨n1, rfl, e1⟩, ⟨n2, rfl, e2⟩, hz⟩ := s_st2 hst
  exact lv_ladd hC.1 hC.2.1 hdg  (K _ _ _ _ _ _ _ _ _ hS hx hl hv ⟨⟨_, rfl, by rw [Int64.toInt_add, e1, e2]; rfl⟩, hz⟩ hc hs)
theorem r_lsub (hC : s_C p s m args meth c R q b tt L sb xs nL) {x y : Int}  (hdg : decode q.2.1 pc = .ok (.lsub, 1))
    (K : s_G D b tt L sb xs s ρ0 nL zc zs mc ms m (fun H locs cells slots g => W p l e R s m args below meth c H locs cells slots Q g) (pc + 1) ls (jL (w64 (x - y)) :: r) h) : s_G D b tt L sb xs s ρ0 nL zc zs mc ms m (fun H locs cells slots g => W p l e R s m args below meth c H locs cells slots Q g) pc ls (jL y :: jL x :: r) h := by
  intro H locs cells slots ws tys lsR rl stR hS hx hl hv hst hc hs
  obtain ⟨w1, w2, z, rfl, ⟨n1, rfl, e1⟩, ⟨n2, rfl, e2⟩, hz⟩ := s_st2 hst
  exact lv_lsub hC.1 hC.2.1 hdg  (K _ _ _ _ _ _ _ _ _ hS hx hl hv ⟨⟨_, rfl, by rw [Int64.toInt_sub, e1, e2]; rfl⟩, hz⟩ hc hs)
theorem r_lmul (hC : s_C p s m args meth c R q b tt L sb xs nL) {x y : Int}  (hdg : decode q.2.1 pc = .ok (.lmul, 1))
    (K : s_G D b tt L sb xs s ρ0 nL zc zs mc ms m (fun H locs cells slots g => W p l e R s m args below meth c H locs cells slots Q g) (pc + 1) ls (jL (w64 (x * y)) :: r) h) : s_G D b tt L sb xs s ρ0 nL zc zs mc ms m (fun H locs cells slots g => W p l e R s m args below meth c H locs cells slots Q g) pc ls (jL y :: jL x :: r) h := by
  intro H locs cells slots ws tys lsR rl stR hS hx hl hv hst hc hs
  obtain ⟨w1, w2, z, rfl, ⟨n1, rfl, e1⟩, ⟨n2, rfl, e2⟩, hz⟩ := s_st2 hst
  exact lv_lmul hC.1 hC.2.1 hdg  (K _ _ _ _ _ _ _ _ _ hS hx hl hv ⟨⟨_, rfl, by rw [Int64.toInt_mul, e1, e2]; rfl⟩, hz⟩ hc hs)
theorem r_ldiv (hC : s_C p s m args meth c R q b tt L sb xs nL) {x y : Int} (hy : ¬ y = 0) (hdg : decode q.2.1 pc = .ok (.ldiv, 1))
    (K : s_G D b tt L sb xs s ρ0 nL zc zs mc ms m (fun H locs cells slots g => W p l e R s m args below meth c H locs cells slots Q g) (pc + 1) ls (jL (w64 (x.tdiv y)) :: r) h) : s_G D b tt L sb xs s ρ0 nL zc zs mc ms m (fun H locs cells slots g => W p l e R s m args below meth c H locs cells slots Q g) pc ls (jL y :: jL x :: r) h := by
  intro H locs cells slots ws tys lsR rl stR hS hx hl hv hst hc hs
  obtain ⟨w1, w2, z, rfl, ⟨n1, rfl, e1⟩, ⟨n2, rfl, e2⟩, hz⟩ := s_st2 hst
  exact lv_ldiv hC.1 hC.2.1 hdg (fun h0 => hy (by rw [← e1]; exact s_l0.mp h0)) (K _ _ _ _ _ _ _ _ _ hS hx hl hv ⟨⟨_, rfl, by rw [Int64.toInt_div, e1, e2]; rfl⟩, hz⟩ hc hs)
theorem r_lrem (hC : s_C p s m args meth c R q b tt L sb xs nL) {x y : Int} (hy : ¬ y = 0) (hdg : decode q.2.1 pc = .ok (.lrem, 1))
    (K : s_G D b tt L sb xs s ρ0 nL zc zs mc ms m (fun H locs cells slots g => W p l e R s m args below meth c H locs cells slots Q g) (pc + 1) ls (jL (x.tmod y) :: r) h) : s_G D b tt L sb xs s ρ0 nL zc zs mc ms m (fun H locs cells slots g => W p l e R s m args below meth c H locs cells slots Q g) pc ls (jL y :: jL x :: r) h := by
  intro H locs cells slots ws tys lsR rl stR hS hx hl hv hst hc hs
  obtain ⟨w1, w2, z, rfl, ⟨n1, rfl, e1⟩, ⟨n2, rfl, e2⟩, hz⟩ := s_st2 hst
  exact lv_lrem hC.1 hC.2.1 hdg (fun h0 => hy (by rw [← e1]; exact s_l0.mp h0)) (K _ _ _ _ _ _ _ _ _ hS hx hl hv ⟨⟨_, rfl, by rw [s_lrem, e1, e2]⟩, hz⟩ hc hs)
theorem r_land (hC : s_C p s m args meth c R q b tt L sb xs nL) {x y : Int}  (hdg : decode q.2.1 pc = .ok (.land, 1))
    (K : s_G D b tt L sb xs s ρ0 nL zc zs mc ms m (fun H locs cells slots g => W p l e R s m args below meth c H locs cells slots Q g) (pc + 1) ls (jL (j_land x y) :: r) h) : s_G D b tt L sb xs s ρ0 nL zc zs mc ms m (fun H locs cells slots g => W p l e R s m args below meth c H locs cells slots Q g) pc ls (jL y :: jL x :: r) h := by
  intro H locs cells slots ws tys lsR rl stR hS hx hl hv hst hc hs
  obtain ⟨w1, w2, z, rfl, ⟨n1, rfl, e1⟩, ⟨n2, rfl, e2⟩, hz⟩ := s_st2 hst
  exact lv_land hC.1 hC.2.1 hdg  (K _ _ _ _ _ _ _ _ _ hS hx hl hv ⟨⟨_, rfl, by unfold j_land; rw [← e1, ← e2, Int64.ofInt_toInt, Int64.ofInt_toInt]⟩, hz⟩ hc hs)
theorem r_lor (hC : s_C p s m args meth c R q b tt L sb xs nL) {x y : Int}  (hdg : decode q.2.1 pc = .ok (.lor, 1))
    (K : s_G D b tt L sb xs s ρ0 nL zc zs mc ms m (fun H locs cells slots g => W p l e R s m args below meth c H locs cells slots Q g) (pc + 1) ls (jL (j_lor x y) :: r) h) : s_G D b tt L sb xs s ρ0 nL zc zs mc ms m (fun H locs cells slots g => W p l e R s m args below meth c H locs cells slots Q g) pc ls (jL y :: jL x :: r) h := by
  intro H locs cells slots ws tys lsR rl stR hS hx hl hv hst hc hs
  obtain ⟨w1, w2, z, rfl, ⟨n1, rfl, e1⟩, ⟨n2, rfl, e2⟩, hz⟩ := s_st2 hst
  exact lv_lor hC.1 hC.2.1 hdg  (K _ _ _ _ _ _ _ _ _ hS hx hl hv ⟨⟨_, rfl, by unfold j_lor; rw [← e1, ← e2, Int64.ofInt_toInt, Int64.ofInt_toInt]⟩, hz⟩ hc hs)
theorem r_lxor (hC : s_C p s m args meth c R q b tt L sb xs nL) {x y : Int}  (hdg : decode q.2.1 pc = .ok (.lxor, 1))
    (K : s_G D b tt L sb xs s ρ0 nL zc zs mc ms m (fun H locs cells slots g => W p l e R s m args below meth c H locs cells slots Q g) (pc + 1) ls (jL (j_lxor x y) :: r) h) : s_G D b tt L sb xs s ρ0 nL zc zs mc ms m (fun H locs cells slots g => W p l e R s m args below meth c H locs cells slots Q g) pc ls (jL y :: jL x :: r) h := by
  intro H locs cells slots ws tys lsR rl stR hS hx hl hv hst hc hs
  obtain ⟨w1, w2, z, rfl, ⟨n1, rfl, e1⟩, ⟨n2, rfl, e2⟩, hz⟩ := s_st2 hst
  exact lv_lxor hC.1 hC.2.1 hdg  (K _ _ _ _ _ _ _ _ _ hS hx hl hv ⟨⟨_, rfl, by unfold j_lxor; rw [← e1, ← e2, Int64.ofInt_toInt, Int64.ofInt_toInt]⟩, hz⟩ hc hs)
theorem s_cmp (a b : Int64) : (lg_cmp a b).toInt = j_cmp a.toInt b.toInt := by
  unfold lg_cmp j_cmp
  simp only [GT.gt, Int64.lt_iff_toInt_lt, ← Int64.toInt_inj]
  split
  · rw [if_neg (by omega), if_neg (by omega)]; rfl
  · split
    · rw [if_neg (by omega)]; rfl
    · rw [if_pos (by omega)]; rfl
theorem r_lcmp (hC : s_C p s m args meth c R q b tt L sb xs nL) {x y : Int}  (hdg : decode q.2.1 pc = .ok (.lcmp, 1))
    (K : s_G D b tt L sb xs s ρ0 nL zc zs mc ms m (fun H locs cells slots g => W p l e R s m args below meth c H locs cells slots Q g) (pc + 1) ls (jI (j_cmp x y) :: r) h) : s_G D b tt L sb xs s ρ0 nL zc zs mc ms m (fun H locs cells slots g => W p l e R s m args below meth c H locs cells slots Q g) pc ls (jL y :: jL x :: r) h := by
  intro H locs cells slots ws tys lsR rl stR hS hx hl hv hst hc hs
  obtain ⟨w1, w2, z, rfl, ⟨n1, rfl, e1⟩, ⟨n2, rfl, e2⟩, hz⟩ := s_st2 hst
  exact W.lcmp hC.1 hC.2.1 hdg  (K _ _ _ _ _ _ _ _ _ hS hx hl hv ⟨⟨_, rfl, by rw [s_cmp, e1, e2]⟩, hz⟩ hc hs)
theorem r_lshl (hC : s_C p s m args meth c R q b tt L sb xs nL) {x y : Int} (hdg : decode q.2.1 pc = .ok (.lshl, 1))
    (K : s_G D b tt L sb xs s ρ0 nL zc zs mc ms m (fun H locs cells slots g => W p l e R s m args below meth c H locs cells slots Q g) (pc + 1) ls (jL (j_lshl x y) :: r) h) : s_G D b tt L sb xs s ρ0 nL zc zs mc ms m (fun H locs cells slots g => W p l e R s m args below meth c H locs cells slots Q g) pc ls (jI y :: jL x :: r) h := by
  intro H locs cells slots ws tys lsR rl stR hS hx hl hv hst hc hs
  obtain ⟨w1, w2, z, rfl, ⟨n1, rfl, e1⟩, ⟨n2, rfl, e2⟩, hz⟩ := s_st2 hst
  exact lv_lshl hC.1 hC.2.1 hdg rfl (K _ _ _ _ _ _ _ _ _ hS hx hl hv ⟨⟨_, rfl, by unfold j_lshl; rw [← e1, ← e2, Int32.ofInt_toInt, Int64.ofInt_toInt]⟩, hz⟩ hc hs)
theorem r_ineg (hC : s_C p s m args meth c R q b tt L sb xs nL) {x : Int} (hdg : decode q.2.1 pc = .ok (.ineg, 1))
    (K : s_G D b tt L sb xs s ρ0 nL zc zs mc ms m (fun H locs cells slots g => W p l e R s m args below meth c H locs cells slots Q g) (pc + 1) ls (jI (w32 (-x)) :: r) h) : s_G D b tt L sb xs s ρ0 nL zc zs mc ms m (fun H locs cells slots g => W p l e R s m args below meth c H locs cells slots Q g) pc ls (jI x :: r) h := by
  intro H locs cells slots ws tys lsR rl stR hS hx hl hv hst hc hs
  obtain ⟨w1, z, rfl, ⟨n1, rfl, e1⟩, hz⟩ := s_st1 hst
  exact lv_ineg hC.1 hC.2.1 hdg  (K _ _ _ _ _ _ _ _ _ hS hx hl hv ⟨⟨_, rfl, by rw [Int32.toInt_neg, e1]; rfl⟩, hz⟩ hc hs)
theorem r_lneg (hC : s_C p s m args meth c R q b tt L sb xs nL) {x : Int} (hdg : decode q.2.1 pc = .ok (.lneg, 1))
    (K : s_G D b tt L sb xs s ρ0 nL zc zs mc ms m (fun H locs cells slots g => W p l e R s m args below meth c H locs cells slots Q g) (pc + 1) ls (jL (w64 (-x)) :: r) h) : s_G D b tt L sb xs s ρ0 nL zc zs mc ms m (fun H locs cells slots g => W p l e R s m args below meth c H locs cells slots Q g) pc ls (jL x :: r) h := by
  intro H locs cells slots ws tys lsR rl stR hS hx hl hv hst hc hs
  obtain ⟨w1, z, rfl, ⟨n1, rfl, e1⟩, hz⟩ := s_st1 hst
  exact lv_lneg hC.1 hC.2.1 hdg  (K _ _ _ _ _ _ _ _ _ hS hx hl hv ⟨⟨_, rfl, by rw [Int64.toInt_neg, e1]; rfl⟩, hz⟩ hc hs)
theorem r_i2l (hC : s_C p s m args meth c R q b tt L sb xs nL) {x : Int} (hdg : decode q.2.1 pc = .ok (.i2l, 1))
    (K : s_G D b tt L sb xs s ρ0 nL zc zs mc ms m (fun H locs cells slots g => W p l e R s m args below meth c H locs cells slots Q g) (pc + 1) ls (jL (x) :: r) h) : s_G D b tt L sb xs s ρ0 nL zc zs mc ms m (fun H locs cells slots g => W p l e R s m args below meth c H locs cells slots Q g) pc ls (jI x :: r) h := by
  intro H locs cells slots ws tys lsR rl stR hS hx hl hv hst hc hs
  obtain ⟨w1, z, rfl, ⟨n1, rfl, e1⟩, hz⟩ := s_st1 hst
  exact lv_i2l hC.1 hC.2.1 hdg rfl (K _ _ _ _ _ _ _ _ _ hS hx hl hv ⟨⟨_, rfl, by rw [Int32.toInt_toInt64, e1]⟩, hz⟩ hc hs)
theorem r_l2i (hC : s_C p s m args meth c R q b tt L sb xs nL) {x : Int} (hdg : decode q.2.1 pc = .ok (.l2i, 1))
    (K : s_G D b tt L sb xs s ρ0 nL zc zs mc ms m (fun H locs cells slots g => W p l e R s m args below meth c H locs cells slots Q g) (pc + 1) ls (jI (w32 x) :: r) h) : s_G D b tt L sb xs s ρ0 nL zc zs mc ms m (fun H locs cells slots g => W p l e R s m args below meth c H locs cells slots Q g) pc ls (jL x :: r) h := by
  intro H locs cells slots ws tys lsR rl stR hS hx hl hv hst hc hs
  obtain ⟨w1, z, rfl, ⟨n1, rfl, e1⟩, hz⟩ := s_st1 hst
  exact lv_l2i hC.1 hC.2.1 hdg rfl (K _ _ _ _ _ _ _ _ _ hS hx hl hv ⟨⟨_, rfl, by rw [Int64.toInt_toInt32, e1]; rfl⟩, hz⟩ hc hs)
theorem r_i2b (hC : s_C p s m args meth c R q b tt L sb xs nL) {x : Int} (hdg : decode q.2.1 pc = .ok (.i2b, 1))
    (K : s_G D b tt L sb xs s ρ0 nL zc zs mc ms m (fun H locs cells slots g => W p l e R s m args below meth c H locs cells slots Q g) (pc + 1) ls (jI (w8 x) :: r) h) : s_G D b tt L sb xs s ρ0 nL zc zs mc ms m (fun H locs cells slots g => W p l e R s m args below meth c H locs cells slots Q g) pc ls (jI x :: r) h := by
  intro H locs cells slots ws tys lsR rl stR hS hx hl hv hst hc hs
  obtain ⟨w1, z, rfl, ⟨n1, rfl, e1⟩, hz⟩ := s_st1 hst
  exact lv_i2b hC.1 hC.2.1 hdg rfl (K _ _ _ _ _ _ _ _ _ hS hx hl hv ⟨⟨_, rfl, by rw [Int8.toInt_toInt32, Int32.toInt_toInt8, e1]; rfl⟩, hz⟩ hc hs)
theorem r_i2s (hC : s_C p s m args meth c R q b tt L sb xs nL) {x : Int} (hdg : decode q.2.1 pc = .ok (.i2s, 1))
    (K : s_G D b tt L sb xs s ρ0 nL zc zs mc ms m (fun H locs cells slots g => W p l e R s m args below meth c H locs cells slots Q g) (pc + 1) ls (jI (w16 x) :: r) h) : s_G D b tt L sb xs s ρ0 nL zc zs mc ms m (fun H locs cells slots g => W p l e R s m args below meth c H locs cells slots Q g) pc ls (jI x :: r) h := by
  intro H locs cells slots ws tys lsR rl stR hS hx hl hv hst hc hs
  obtain ⟨w1, z, rfl, ⟨n1, rfl, e1⟩, hz⟩ := s_st1 hst
  exact lv_i2s hC.1 hC.2.1 hdg rfl (K _ _ _ _ _ _ _ _ _ hS hx hl hv ⟨⟨_, rfl, by rw [Int16.toInt_toInt32, Int32.toInt_toInt16, e1]; rfl⟩, hz⟩ hc hs)
theorem r_iconst (hC : s_C p s m args meth c R q b tt L sb xs nL) {n z : Int} (hz : (Int32.ofInt n).toInt = z) (hdg : decode q.2.1 pc = .ok (.iconst n, 1))
    (K : s_G D b tt L sb xs s ρ0 nL zc zs mc ms m (fun H locs cells slots g => W p l e R s m args below meth c H locs cells slots Q g) (pc + 1) ls (jI z :: r) h) : s_G D b tt L sb xs s ρ0 nL zc zs mc ms m (fun H locs cells slots g => W p l e R s m args below meth c H locs cells slots Q g) pc ls r h := by
  intro H locs cells slots ws tys lsR rl stR hS hx hl hv hst hc hs
  exact lv_iconst hC.1 hC.2.1 hdg rfl (K _ _ _ _ _ _ _ _ _ hS hx hl hv ⟨⟨_, rfl, hz⟩, hst⟩ hc hs)
theorem r_bipush (hC : s_C p s m args meth c R q b tt L sb xs nL) {n z : Int} (hz : (Int8.ofInt n).toInt32.toInt = z) (hdg : decode q.2.1 pc = .ok (.bipush n, 2))
    (K : s_G D b tt L sb xs s ρ0 nL zc zs mc ms m (fun H locs cells slots g => W p l e R s m args below meth c H locs cells slots Q g) (pc + 2) ls (jI z :: r) h) : s_G D b tt L sb xs s ρ0 nL zc zs mc ms m (fun H locs cells slots g => W p l e R s m args below meth c H locs cells slots Q g) pc ls r h := by
  intro H locs cells slots ws tys lsR rl stR hS hx hl hv hst hc hs
  exact lv_bipush hC.1 hC.2.1 hdg rfl (K _ _ _ _ _ _ _ _ _ hS hx hl hv ⟨⟨_, rfl, hz⟩, hst⟩ hc hs)
theorem r_sipush (hC : s_C p s m args meth c R q b tt L sb xs nL) {n z : Int} (hz : (Int16.ofInt n).toInt32.toInt = z) (hdg : decode q.2.1 pc = .ok (.sipush n, 3))
    (K : s_G D b tt L sb xs s ρ0 nL zc zs mc ms m (fun H locs cells slots g => W p l e R s m args below meth c H locs cells slots Q g) (pc + 3) ls (jI z :: r) h) : s_G D b tt L sb xs s ρ0 nL zc zs mc ms m (fun H locs cells slots g => W p l e R s m args below meth c H locs cells slots Q g) pc ls r h := by
  intro H locs cells slots ws tys lsR rl stR hS hx hl hv hst hc hs
  exact lv_sipush hC.1 hC.2.1 hdg rfl (K _ _ _ _ _ _ _ _ _ hS hx hl hv ⟨⟨_, rfl, hz⟩, hst⟩ hc hs)
theorem r_lconst (hC : s_C p s m args meth c R q b tt L sb xs nL) {n : Fin 2} {z : Int} (hz : ((n : Nat) : Int) = z) (hdg : decode q.2.1 pc = .ok (.lconst n, 1))
    (K : s_G D b tt L sb xs s ρ0 nL zc zs mc ms m (fun H locs cells slots g => W p l e R s m args below meth c H locs cells slots Q g) (pc + 1) ls (jL z :: r) h) : s_G D b tt L sb xs s ρ0 nL zc zs mc ms m (fun H locs cells slots g => W p l e R s m args below meth c H locs cells slots Q g) pc ls r h := by
  intro H locs cells slots ws tys lsR rl stR hS hx hl hv hst hc hs
  exact lv_lconst hC.1 hC.2.1 hdg rfl (K _ _ _ _ _ _ _ _ _ hS hx hl hv ⟨⟨_, rfl, by rw [← hz]; match n with | 0 => rfl | 1 => rfl⟩, hst⟩ hc hs)
theorem r_ldc (hC : s_C p s m args meth c R q b tt L sb xs nL) {ix : Nat} {z : Int} {v : Int32} (hv0 : v.toInt = z) (hw : (Cond.constant (j_cnm q.2.2.2.2.1) ix v).before args s = true) (hdg : decode q.2.1 pc = .ok (.ldc ix, 2))
    (K : s_G D b tt L sb xs s ρ0 nL zc zs mc ms m (fun H locs cells slots g => W p l e R s m args below meth c H locs cells slots Q g) (pc + 2) ls (jI z :: r) h) : s_G D b tt L sb xs s ρ0 nL zc zs mc ms m (fun H locs cells slots g => W p l e R s m args below meth c H locs cells slots Q g) pc ls r h := by
  intro H locs cells slots ws tys lsR rl stR hS hx hl hv hst hc hs
  exact lv_ldc hC.1 hC.2.1 hC.2.2.2.1 hw hdg (K _ _ _ _ _ _ _ _ _ hS hx hl hv ⟨⟨_, rfl, hv0⟩, hst⟩ hc hs)
theorem r_ldc_w (hC : s_C p s m args meth c R q b tt L sb xs nL) {ix : Nat} {z : Int} {v : Int32} (hv0 : v.toInt = z) (hw : (Cond.constant (j_cnm q.2.2.2.2.1) ix v).before args s = true) (hdg : decode q.2.1 pc = .ok (.ldc_w ix, 3))
    (K : s_G D b tt L sb xs s ρ0 nL zc zs mc ms m (fun H locs cells slots g => W p l e R s m args below meth c H locs cells slots Q g) (pc + 3) ls (jI z :: r) h) : s_G D b tt L sb xs s ρ0 nL zc zs mc ms m (fun H locs cells slots g => W p l e R s m args below meth c H locs cells slots Q g) pc ls r h := by
  intro H locs cells slots ws tys lsR rl stR hS hx hl hv hst hc hs
  exact lv_ldcw hC.1 hC.2.1 hC.2.2.2.1 hw hdg (K _ _ _ _ _ _ _ _ _ hS hx hl hv ⟨⟨_, rfl, hv0⟩, hst⟩ hc hs)
theorem r_ldc2_w (hC : s_C p s m args meth c R q b tt L sb xs nL) {ix : Nat} {z : Int} {v : Int64} (hv0 : v.toInt = z) (hw : (Cond.constantLong (j_cnm q.2.2.2.2.1) ix v).before args s = true) (hdg : decode q.2.1 pc = .ok (.ldc2_w ix, 3))
    (K : s_G D b tt L sb xs s ρ0 nL zc zs mc ms m (fun H locs cells slots g => W p l e R s m args below meth c H locs cells slots Q g) (pc + 3) ls (jL z :: r) h) : s_G D b tt L sb xs s ρ0 nL zc zs mc ms m (fun H locs cells slots g => W p l e R s m args below meth c H locs cells slots Q g) pc ls r h := by
  intro H locs cells slots ws tys lsR rl stR hS hx hl hv hst hc hs
  exact lv_ldc2 hC.1 hC.2.1 hC.2.2.2.1 hw hdg (K _ _ _ _ _ _ _ _ _ hS hx hl hv ⟨⟨_, rfl, hv0⟩, hst⟩ hc hs)
theorem r_iload_n (hC : s_C p s m args meth c R q b tt L sb xs nL) {k : Fin 4} {x : Int} (hk : j_ld ls k.val = some (jI x)) (hdg : decode q.2.1 pc = .ok (.iload_n k, 1))
    (K : s_G D b tt L sb xs s ρ0 nL zc zs mc ms m (fun H locs cells slots g => W p l e R s m args below meth c H locs cells slots Q g) (pc + 1) ls (jI x :: r) h) : s_G D b tt L sb xs s ρ0 nL zc zs mc ms m (fun H locs cells slots g => W p l e R s m args below meth c H locs cells slots Q g) pc ls r h := by
  intro H locs cells slots ws tys lsR rl stR hS hx hl hv hst hc hs
  obtain ⟨w, h1, ⟨n, rfl, e1⟩⟩ := s_ldv hl hv hk
  exact lv_iload_n hC.1 hC.2.1 hdg rfl h1 (K _ _ _ _ _ _ _ _ _ hS hx hl hv ⟨⟨_, rfl, e1⟩, hst⟩ hc hs)
theorem r_iload (hC : s_C p s m args meth c R q b tt L sb xs nL) {k : Nat} {x : Int} (hk : j_ld ls k = some (jI x)) (hdg : decode q.2.1 pc = .ok (.iload k, 2))
    (K : s_G D b tt L sb xs s ρ0 nL zc zs mc ms m (fun H locs cells slots g => W p l e R s m args below meth c H locs cells slots Q g) (pc + 2) ls (jI x :: r) h) : s_G D b tt L sb xs s ρ0 nL zc zs mc ms m (fun H locs cells slots g => W p l e R s m args below meth c H locs cells slots Q g) pc ls r h := by
  intro H locs cells slots ws tys lsR rl stR hS hx hl hv hst hc hs
  obtain ⟨w, h1, ⟨n, rfl, e1⟩⟩ := s_ldv hl hv hk
  exact lv_iload hC.1 hC.2.1 hdg  h1 (K _ _ _ _ _ _ _ _ _ hS hx hl hv ⟨⟨_, rfl, e1⟩, hst⟩ hc hs)
theorem r_lload_n (hC : s_C p s m args meth c R q b tt L sb xs nL) {k : Fin 4} {x : Int} (hk : j_ld ls k.val = some (jL x)) (hdg : decode q.2.1 pc = .ok (.lload_n k, 1))
    (K : s_G D b tt L sb xs s ρ0 nL zc zs mc ms m (fun H locs cells slots g => W p l e R s m args below meth c H locs cells slots Q g) (pc + 1) ls (jL x :: r) h) : s_G D b tt L sb xs s ρ0 nL zc zs mc ms m (fun H locs cells slots g => W p l e R s m args below meth c H locs cells slots Q g) pc ls r h := by
  intro H locs cells slots ws tys lsR rl stR hS hx hl hv hst hc hs
  obtain ⟨w, h1, ⟨n, rfl, e1⟩⟩ := s_ldv hl hv hk
  exact lv_lload_n hC.1 hC.2.1 hdg rfl h1 (K _ _ _ _ _ _ _ _ _ hS hx hl hv ⟨⟨_, rfl, e1⟩, hst⟩ hc hs)
theorem r_lload (hC : s_C p s m args meth c R q b tt L sb xs nL) {k : Nat} {x : Int} (hk : j_ld ls k = some (jL x)) (hdg : decode q.2.1 pc = .ok (.lload k, 2))
    (K : s_G D b tt L sb xs s ρ0 nL zc zs mc ms m (fun H locs cells slots g => W p l e R s m args below meth c H locs cells slots Q g) (pc + 2) ls (jL x :: r) h) : s_G D b tt L sb xs s ρ0 nL zc zs mc ms m (fun H locs cells slots g => W p l e R s m args below meth c H locs cells slots Q g) pc ls r h := by
  intro H locs cells slots ws tys lsR rl stR hS hx hl hv hst hc hs
  obtain ⟨w, h1, ⟨n, rfl, e1⟩⟩ := s_ldv hl hv hk
  exact lv_lload hC.1 hC.2.1 hdg  h1 (K _ _ _ _ _ _ _ _ _ hS hx hl hv ⟨⟨_, rfl, e1⟩, hst⟩ hc hs)
theorem r_aload_n (hC : s_C p s m args meth c R q b tt L sb xs nL) {k : Fin 4} {x : Nat} (hk : j_ld ls k.val = some (jR x)) (hdg : decode q.2.1 pc = .ok (.aload_n k, 1))
    (K : s_G D b tt L sb xs s ρ0 nL zc zs mc ms m (fun H locs cells slots g => W p l e R s m args below meth c H locs cells slots Q g) (pc + 1) ls (jR x :: r) h) : s_G D b tt L sb xs s ρ0 nL zc zs mc ms m (fun H locs cells slots g => W p l e R s m args below meth c H locs cells slots Q g) pc ls r h := by
  intro H locs cells slots ws tys lsR rl stR hS hx hl hv hst hc hs
  obtain ⟨w, h1, ⟨n, rfl, e1⟩⟩ := s_ldv hl hv hk
  exact lv_aload_n hC.1 hC.2.1 hdg rfl h1 (K _ _ _ _ _ _ _ _ _ hS hx hl hv ⟨⟨_, rfl, e1⟩, hst⟩ hc hs)
theorem r_aload (hC : s_C p s m args meth c R q b tt L sb xs nL) {k : Nat} {x : Nat} (hk : j_ld ls k = some (jR x)) (hdg : decode q.2.1 pc = .ok (.aload k, 2))
    (K : s_G D b tt L sb xs s ρ0 nL zc zs mc ms m (fun H locs cells slots g => W p l e R s m args below meth c H locs cells slots Q g) (pc + 2) ls (jR x :: r) h) : s_G D b tt L sb xs s ρ0 nL zc zs mc ms m (fun H locs cells slots g => W p l e R s m args below meth c H locs cells slots Q g) pc ls r h := by
  intro H locs cells slots ws tys lsR rl stR hS hx hl hv hst hc hs
  obtain ⟨w, h1, ⟨n, rfl, e1⟩⟩ := s_ldv hl hv hk
  exact lv_aload hC.1 hC.2.1 hdg  h1 (K _ _ _ _ _ _ _ _ _ hS hx hl hv ⟨⟨_, rfl, e1⟩, hst⟩ hc hs)
theorem r_istore_n (hC : s_C p s m args meth c R q b tt L sb xs nL) {k : Fin 4} {x : Int} {l1 : j_L} (hn : ls.length = nL) (hk : j_s1 ls k.val (jI x) = some l1) (hdg : decode q.2.1 pc = .ok (.istore_n k, 1))
    (K : s_G D b tt L sb xs s ρ0 nL zc zs mc ms m (fun H locs cells slots g => W p l e R s m args below meth c H locs cells slots Q g) (pc + 1) l1 r h) : s_G D b tt L sb xs s ρ0 nL zc zs mc ms m (fun H locs cells slots g => W p l e R s m args below meth c H locs cells slots Q g) pc ls (jI x :: r) h := by
  intro H locs cells slots ws tys lsR rl stR hS hx hl hv hst hc hs
  obtain ⟨w1, z, rfl, hw0, hz⟩ := s_st1 hst
  have hw1 := hw0
  obtain ⟨n1, rfl, e1⟩ := hw0
  obtain ⟨h1, h2, rfl⟩ := j_s1_some hk
  exact lv_istore_n hC.1 hC.2.1 hdg rfl hv (by omega) rfl (fun ls2 hv2 => K _ _ _ _ _ _ _ _ _ hS hx (s_lo_set hw1 hl) (s_lv1 hl h1 (by rw [← s_lo_len hl]; exact h2) hv2) hz hc hs)
theorem r_istore (hC : s_C p s m args meth c R q b tt L sb xs nL) {k : Nat} {x : Int} {l1 : j_L} (hn : ls.length = nL) (hk : j_s1 ls k (jI x) = some l1) (hdg : decode q.2.1 pc = .ok (.istore k, 2))
    (K : s_G D b tt L sb xs s ρ0 nL zc zs mc ms m (fun H locs cells slots g => W p l e R s m args below meth c H locs cells slots Q g) (pc + 2) l1 r h) : s_G D b tt L sb xs s ρ0 nL zc zs mc ms m (fun H locs cells slots g => W p l e R s m args below meth c H locs cells slots Q g) pc ls (jI x :: r) h := by
  intro H locs cells slots ws tys lsR rl stR hS hx hl hv hst hc hs
  obtain ⟨w1, z, rfl, hw0, hz⟩ := s_st1 hst
  have hw1 := hw0
  obtain ⟨n1, rfl, e1⟩ := hw0
  obtain ⟨h1, h2, rfl⟩ := j_s1_some hk
  exact lv_istore hC.1 hC.2.1 hdg  hv (by omega) rfl (fun ls2 hv2 => K _ _ _ _ _ _ _ _ _ hS hx (s_lo_set hw1 hl) (s_lv1 hl h1 (by rw [← s_lo_len hl]; exact h2) hv2) hz hc hs)
theorem r_lstore_n (hC : s_C p s m args meth c R q b tt L sb xs nL) {k : Fin 4} {x : Int} {l1 : j_L} (hn : ls.length = nL) (hk : j_s2 ls k.val (jL x) = some l1) (hdg : decode q.2.1 pc = .ok (.lstore_n k, 1))
    (K : s_G D b tt L sb xs s ρ0 nL zc zs mc ms m (fun H locs cells slots g => W p l e R s m args below meth c H locs cells slots Q g) (pc + 1) l1 r h) : s_G D b tt L sb xs s ρ0 nL zc zs mc ms m (fun H locs cells slots g => W p l e R s m args below meth c H locs cells slots Q g) pc ls (jL x :: r) h := by
  intro H locs cells slots ws tys lsR rl stR hS hx hl hv hst hc hs
  obtain ⟨w1, z, rfl, hw0, hz⟩ := s_st1 hst
  have hw1 := hw0
  obtain ⟨n1, rfl, e1⟩ := hw0
  obtain ⟨h1, h2, rfl⟩ := j_s2_some hk
  exact lv_lstore_n hC.1 hC.2.1 hdg rfl hv (by omega) rfl (fun ls2 hv2 => K _ _ _ _ _ _ _ _ _ hS hx (s_lo_set0 (s_lo_set hw1 hl)) (s_lv2 hl h1 (by rw [← s_lo_len hl]; exact h2) hv2) hz hc hs)
theorem r_lstore (hC : s_C p s m args meth c R q b tt L sb xs nL) {k : Nat} {x : Int} {l1 : j_L} (hn : ls.length = nL) (hk : j_s2 ls k (jL x) = some l1) (hdg : decode q.2.1 pc = .ok (.lstore k, 2))
    (K : s_G D b tt L sb xs s ρ0 nL zc zs mc ms m (fun H locs cells slots g => W p l e R s m args below meth c H locs cells slots Q g) (pc + 2) l1 r h) : s_G D b tt L sb xs s ρ0 nL zc zs mc ms m (fun H locs cells slots g => W p l e R s m args below meth c H locs cells slots Q g) pc ls (jL x :: r) h := by
  intro H locs cells slots ws tys lsR rl stR hS hx hl hv hst hc hs
  obtain ⟨w1, z, rfl, hw0, hz⟩ := s_st1 hst
  have hw1 := hw0
  obtain ⟨n1, rfl, e1⟩ := hw0
  obtain ⟨h1, h2, rfl⟩ := j_s2_some hk
  exact lv_lstore hC.1 hC.2.1 hdg  hv (by omega) rfl (fun ls2 hv2 => K _ _ _ _ _ _ _ _ _ hS hx (s_lo_set0 (s_lo_set hw1 hl)) (s_lv2 hl h1 (by rw [← s_lo_len hl]; exact h2) hv2) hz hc hs)
theorem r_astore_n (hC : s_C p s m args meth c R q b tt L sb xs nL) {k : Fin 4} {x : Nat} {l1 : j_L} (hn : ls.length = nL) (hk : j_s1 ls k.val (jR x) = some l1) (hdg : decode q.2.1 pc = .ok (.astore_n k, 1))
    (K : s_G D b tt L sb xs s ρ0 nL zc zs mc ms m (fun H locs cells slots g => W p l e R s m args below meth c H locs cells slots Q g) (pc + 1) l1 r h) : s_G D b tt L sb xs s ρ0 nL zc zs mc ms m (fun H locs cells slots g => W p l e R s m args below meth c H locs cells slots Q g) pc ls (jR x :: r) h := by
  intro H locs cells slots ws tys lsR rl stR hS hx hl hv hst hc hs
  obtain ⟨w1, z, rfl, hw0, hz⟩ := s_st1 hst
  have hw1 := hw0
  obtain ⟨n1, rfl, e1⟩ := hw0
  obtain ⟨h1, h2, rfl⟩ := j_s1_some hk
  exact lv_astore_n hC.1 hC.2.1 hdg rfl hv (by omega) rfl (fun ls2 hv2 => K _ _ _ _ _ _ _ _ _ hS hx (s_lo_set hw1 hl) (s_lv1 hl h1 (by rw [← s_lo_len hl]; exact h2) hv2) hz hc hs)
theorem r_astore (hC : s_C p s m args meth c R q b tt L sb xs nL) {k : Nat} {x : Nat} {l1 : j_L} (hn : ls.length = nL) (hk : j_s1 ls k (jR x) = some l1) (hdg : decode q.2.1 pc = .ok (.astore k, 2))
    (K : s_G D b tt L sb xs s ρ0 nL zc zs mc ms m (fun H locs cells slots g => W p l e R s m args below meth c H locs cells slots Q g) (pc + 2) l1 r h) : s_G D b tt L sb xs s ρ0 nL zc zs mc ms m (fun H locs cells slots g => W p l e R s m args below meth c H locs cells slots Q g) pc ls (jR x :: r) h := by
  intro H locs cells slots ws tys lsR rl stR hS hx hl hv hst hc hs
  obtain ⟨w1, z, rfl, hw0, hz⟩ := s_st1 hst
  have hw1 := hw0
  obtain ⟨n1, rfl, e1⟩ := hw0
  obtain ⟨h1, h2, rfl⟩ := j_s1_some hk
  exact lv_astore hC.1 hC.2.1 hdg hv (by omega) rfl (fun ls2 hv2 => K _ _ _ _ _ _ _ _ _ hS hx (s_lo_set hw1 hl) (s_lv1 hl h1 (by rw [← s_lo_len hl]; exact h2) hv2) hz hc hs)
theorem r_iinc (hC : s_C p s m args meth c R q b tt L sb xs nL) {k : Nat} {n x : Int} {l1 : j_L} (hn : ls.length = nL) (hj : (Int32.ofInt n).toInt = n) (hld : j_ld ls k = some (jI x)) (hk : j_s1 ls k (jI (w32 (x + n))) = some l1) (hdg : decode q.2.1 pc = .ok (.iinc k n, 3))
    (K : s_G D b tt L sb xs s ρ0 nL zc zs mc ms m (fun H locs cells slots g => W p l e R s m args below meth c H locs cells slots Q g) (pc + 3) l1 r h) : s_G D b tt L sb xs s ρ0 nL zc zs mc ms m (fun H locs cells slots g => W p l e R s m args below meth c H locs cells slots Q g) pc ls r h := by
  intro H locs cells slots ws tys lsR rl stR hS hx hl hv hst hc hs
  obtain ⟨w, h1, ⟨n1, rfl, e1⟩⟩ := s_lo_get hl (j_ld_some hld)
  obtain ⟨h2, h3, rfl⟩ := j_s1_some hk
  obtain ⟨i, hi⟩ := List.getElem?_of_mem (s_as_mem0 (q := (k, .int n1)).mpr h1)
  have e2 : (n1 + Int32.ofInt n).toInt = w32 (x + n) := by rw [Int32.toInt_add, e1, hj]; rfl
  have hw1 : s_val (s_ρ b tt ws) (jI (w32 (x + n))) (.int (n1 + Int32.ofInt n)) := ⟨_, rfl, e2⟩
  exact lv_iinc hC.1 hC.2.1 hdg hv (k := i) hi rfl (by omega) rfl (fun ls2 hv2 => K _ _ _ _ _ _ _ _ _ hS hx (s_lo_set hw1 hl) (s_lv1 hl h2 (by rw [← s_lo_len hl]; exact h3) hv2) hst hc hs)
theorem r_dup (hC : s_C p s m args meth c R q b tt L sb xs nL) {v : j_V} (hvc : j_cat v = 1) (hdg : decode q.2.1 pc = .ok (.dup, 1))
    (K : s_G D b tt L sb xs s ρ0 nL zc zs mc ms m (fun H locs cells slots g => W p l e R s m args below meth c H locs cells slots Q g) (pc + 1) ls (v :: v :: r) h) : s_G D b tt L sb xs s ρ0 nL zc zs mc ms m (fun H locs cells slots g => W p l e R s m args below meth c H locs cells slots Q g) pc ls (v :: r) h := by
  intro H locs cells slots ws tys lsR rl stR hS hx hl hv hst hc hs
  obtain ⟨w1, z, rfl, h1, hz⟩ := s_st1 hst
  exact lv_dup hC.1 hC.2.1 hdg ((s_val_cat h1).trans hvc) (K _ _ _ _ _ _ _ _ _ hS hx hl hv ⟨h1, h1, hz⟩ hc hs)
theorem r_dup2_2 (hC : s_C p s m args meth c R q b tt L sb xs nL) {x : Int} (hdg : decode q.2.1 pc = .ok (.dup2, 1))
    (K : s_G D b tt L sb xs s ρ0 nL zc zs mc ms m (fun H locs cells slots g => W p l e R s m args below meth c H locs cells slots Q g) (pc + 1) ls (jL x :: jL x :: r) h) : s_G D b tt L sb xs s ρ0 nL zc zs mc ms m (fun H locs cells slots g => W p l e R s m args below meth c H locs cells slots Q g) pc ls (jL x :: r) h := by
  intro H locs cells slots ws tys lsR rl stR hS hx hl hv hst hc hs
  obtain ⟨w1, z, rfl, h1, hz⟩ := s_st1 hst
  exact lv_dup2_2 hC.1 hC.2.1 hdg ((s_val_cat h1).trans rfl) (K _ _ _ _ _ _ _ _ _ hS hx hl hv ⟨h1, h1, hz⟩ hc hs)
theorem r_dup2_1 (hC : s_C p s m args meth c R q b tt L sb xs nL) {v w : j_V} (hvc : j_cat v = 1) (hwc : j_cat w = 1) (hdg : decode q.2.1 pc = .ok (.dup2, 1))
    (K : s_G D b tt L sb xs s ρ0 nL zc zs mc ms m (fun H locs cells slots g => W p l e R s m args below meth c H locs cells slots Q g) (pc + 1) ls (v :: w :: v :: w :: r) h) : s_G D b tt L sb xs s ρ0 nL zc zs mc ms m (fun H locs cells slots g => W p l e R s m args below meth c H locs cells slots Q g) pc ls (v :: w :: r) h := by
  intro H locs cells slots ws tys lsR rl stR hS hx hl hv hst hc hs
  obtain ⟨w1, w2, z, rfl, h1, h2, hz⟩ := s_st2 hst
  exact lv_dup2_11 hC.1 hC.2.1 hdg ((s_val_cat h1).trans hvc) ((s_val_cat h2).trans hwc) (K _ _ _ _ _ _ _ _ _ hS hx hl hv ⟨h1, h2, h1, h2, hz⟩ hc hs)
theorem r_goto (hC : s_C p s m args meth c R q b tt L sb xs nL) {off : Int} {tg : Nat} (ht : (pc : Int) + off = (tg : Int)) (hdg : decode q.2.1 pc = .ok (.goto off, 3))
    (K : s_G D b tt L sb xs s ρ0 nL zc zs mc ms m (fun H locs cells slots g => W p l e R s m args below meth c H locs cells slots Q g) tg ls r h) : s_G D b tt L sb xs s ρ0 nL zc zs mc ms m (fun H locs cells slots g => W p l e R s m args below meth c H locs cells slots Q g) pc ls r h := by
  intro H locs cells slots ws tys lsR rl stR hS hx hl hv hst hc hs
  exact lv_goto hC.1 hC.2.1 hdg ht (K _ _ _ _ _ _ _ _ _ hS hx hl hv hst hc hs)
theorem r_if_eq (hC : s_C p s m args meth c R q b tt L sb xs nL) {off : Int} {tg : Nat} {x : Int} (ht : (pc : Int) + off = (tg : Int)) (hdg : decode q.2.1 pc = .ok (.ifCond .eq off, 3))
    (K1 : x = 0 → s_G D b tt L sb xs s ρ0 nL zc zs mc ms m (fun H locs cells slots g => W p l e R s m args below meth c H locs cells slots Q g) tg ls r h) (K2 : ¬ x = 0 → s_G D b tt L sb xs s ρ0 nL zc zs mc ms m (fun H locs cells slots g => W p l e R s m args below meth c H locs cells slots Q g) (pc + 3) ls r h) : s_G D b tt L sb xs s ρ0 nL zc zs mc ms m (fun H locs cells slots g => W p l e R s m args below meth c H locs cells slots Q g) pc ls (jI x :: r) h := by
  intro H locs cells slots ws tys lsR rl stR hS hx hl hv hst hc hs
  obtain ⟨w1, z, rfl, ⟨n1, rfl, e1⟩, hz⟩ := s_st1 hst
  exact lv_if_eq hC.1 hC.2.1 hdg ht (fun hh => K1 (by rw [← e1]; exact s_i0.mp hh) _ _ _ _ _ _ _ _ _ hS hx hl hv hz hc hs) (fun hh => K2 (fun h2 => hh (s_i0.mpr (e1.trans h2))) _ _ _ _ _ _ _ _ _ hS hx hl hv hz hc hs)
theorem r_if_ne (hC : s_C p s m args meth c R q b tt L sb xs nL) {off : Int} {tg : Nat} {x : Int} (ht : (pc : Int) + off = (tg : Int)) (hdg : decode q.2.1 pc = .ok (.ifCond .ne off, 3))
    (K1 : x = 0 → s_G D b tt L sb xs s ρ0 nL zc zs mc ms m (fun H locs cells slots g => W p l e R s m args below meth c H locs cells slots Q g) (pc + 3) ls r h) (K2 : ¬ x = 0 → s_G D b tt L sb xs s ρ0 nL zc zs mc ms m (fun H locs cells slots g => W p l e R s m args below meth c H locs cells slots Q g) tg ls r h) : s_G D b tt L sb xs s ρ0 nL zc zs mc ms m (fun H locs cells slots g => W p l e R s m args below meth c H locs cells slots Q g) pc ls (jI x :: r) h := by
  intro H locs cells slots ws tys lsR rl stR hS hx hl hv hst hc hs
  obtain ⟨w1, z, rfl, ⟨n1, rfl, e1⟩, hz⟩ := s_st1 hst
  exact lv_if_ne hC.1 hC.2.1 hdg ht (fun hh => K2 (fun h2 => hh (s_i0.mpr (e1.trans h2))) _ _ _ _ _ _ _ _ _ hS hx hl hv hz hc hs) (fun hh => K1 (by rw [← e1]; exact s_i0.mp hh) _ _ _ _ _ _ _ _ _ hS hx hl hv hz hc hs)
theorem r_if_lt (hC : s_C p s m args meth c R q b tt L sb xs nL) {off : Int} {tg : Nat} {x : Int} (ht : (pc : Int) + off = (tg : Int)) (hdg : decode q.2.1 pc = .ok (.ifCond .lt off, 3))
    (K1 : x < 0 → s_G D b tt L sb xs s ρ0 nL zc zs mc ms m (fun H locs cells slots g => W p l e R s m args below meth c H locs cells slots Q g) tg ls r h) (K2 : ¬ x < 0 → s_G D b tt L sb xs s ρ0 nL zc zs mc ms m (fun H locs cells slots g => W p l e R s m args below meth c H locs cells slots Q g) (pc + 3) ls r h) : s_G D b tt L sb xs s ρ0 nL zc zs mc ms m (fun H locs cells slots g => W p l e R s m args below meth c H locs cells slots Q g) pc ls (jI x :: r) h := by
  intro H locs cells slots ws tys lsR rl stR hS hx hl hv hst hc hs
  obtain ⟨w1, z, rfl, ⟨n1, rfl, e1⟩, hz⟩ := s_st1 hst
  exact lv_if_lt hC.1 hC.2.1 hdg ht (fun hh => K1 (by rw [← e1]; exact Int32.lt_iff_toInt_lt.mp hh) _ _ _ _ _ _ _ _ _ hS hx hl hv hz hc hs) (fun hh => K2 (fun h2 => hh (Int32.lt_iff_toInt_lt.mpr (by rw [e1]; exact h2))) _ _ _ _ _ _ _ _ _ hS hx hl hv hz hc hs)
theorem r_if_ge (hC : s_C p s m args meth c R q b tt L sb xs nL) {off : Int} {tg : Nat} {x : Int} (ht : (pc : Int) + off = (tg : Int)) (hdg : decode q.2.1 pc = .ok (.ifCond .ge off, 3))
    (K1 : x < 0 → s_G D b tt L sb xs s ρ0 nL zc zs mc ms m (fun H locs cells slots g => W p l e R s m args below meth c H locs cells slots Q g) (pc + 3) ls r h) (K2 : ¬ x < 0 → s_G D b tt L sb xs s ρ0 nL zc zs mc ms m (fun H locs cells slots g => W p l e R s m args below meth c H locs cells slots Q g) tg ls r h) : s_G D b tt L sb xs s ρ0 nL zc zs mc ms m (fun H locs cells slots g => W p l e R s m args below meth c H locs cells slots Q g) pc ls (jI x :: r) h := by
  intro H locs cells slots ws tys lsR rl stR hS hx hl hv hst hc hs
  obtain ⟨w1, z, rfl, ⟨n1, rfl, e1⟩, hz⟩ := s_st1 hst
  exact lv_if_ge hC.1 hC.2.1 hdg ht (fun hh => K2 (fun h2 => absurd (Int32.le_iff_toInt_le.mp hh) (by rw [e1]; exact Int.not_le.mpr h2)) _ _ _ _ _ _ _ _ _ hS hx hl hv hz hc hs) (fun hh => K1 (by rw [← e1]; exact Int.not_le.mp (fun h2 => hh (Int32.le_iff_toInt_le.mpr h2))) _ _ _ _ _ _ _ _ _ hS hx hl hv hz hc hs)
theorem r_if_gt (hC : s_C p s m args meth c R q b tt L sb xs nL) {off : Int} {tg : Nat} {x : Int} (ht : (pc : Int) + off = (tg : Int)) (hdg : decode q.2.1 pc = .ok (.ifCond .gt off, 3))
    (K1 : 0 < x → s_G D b tt L sb xs s ρ0 nL zc zs mc ms m (fun H locs cells slots g => W p l e R s m args below meth c H locs cells slots Q g) tg ls r h) (K2 : ¬ 0 < x → s_G D b tt L sb xs s ρ0 nL zc zs mc ms m (fun H locs cells slots g => W p l e R s m args below meth c H locs cells slots Q g) (pc + 3) ls r h) : s_G D b tt L sb xs s ρ0 nL zc zs mc ms m (fun H locs cells slots g => W p l e R s m args below meth c H locs cells slots Q g) pc ls (jI x :: r) h := by
  intro H locs cells slots ws tys lsR rl stR hS hx hl hv hst hc hs
  obtain ⟨w1, z, rfl, ⟨n1, rfl, e1⟩, hz⟩ := s_st1 hst
  exact lv_if_gt hC.1 hC.2.1 hdg ht (fun hh => K1 (by rw [← e1]; exact Int32.lt_iff_toInt_lt.mp hh) _ _ _ _ _ _ _ _ _ hS hx hl hv hz hc hs) (fun hh => K2 (fun h2 => hh (Int32.lt_iff_toInt_lt.mpr (by rw [e1]; exact h2))) _ _ _ _ _ _ _ _ _ hS hx hl hv hz hc hs)
theorem r_if_le (hC : s_C p s m args meth c R q b tt L sb xs nL) {off : Int} {tg : Nat} {x : Int} (ht : (pc : Int) + off = (tg : Int)) (hdg : decode q.2.1 pc = .ok (.ifCond .le off, 3))
    (K1 : 0 < x → s_G D b tt L sb xs s ρ0 nL zc zs mc ms m (fun H locs cells slots g => W p l e R s m args below meth c H locs cells slots Q g) (pc + 3) ls r h) (K2 : ¬ 0 < x → s_G D b tt L sb xs s ρ0 nL zc zs mc ms m (fun H locs cells slots g => W p l e R s m args below meth c H locs cells slots Q g) tg ls r h) : s_G D b tt L sb xs s ρ0 nL zc zs mc ms m (fun H locs cells slots g => W p l e R s m args below meth c H locs cells slots Q g) pc ls (jI x :: r) h := by
  intro H locs cells slots ws tys lsR rl stR hS hx hl hv hst hc hs
  obtain ⟨w1, z, rfl, ⟨n1, rfl, e1⟩, hz⟩ := s_st1 hst
  exact lv_if_le hC.1 hC.2.1 hdg ht (fun hh => K2 (fun h2 => absurd (Int32.le_iff_toInt_le.mp hh) (by rw [e1]; exact Int.not_le.mpr h2)) _ _ _ _ _ _ _ _ _ hS hx hl hv hz hc hs) (fun hh => K1 (by rw [← e1]; exact Int.not_le.mp (fun h2 => hh (Int32.le_iff_toInt_le.mpr h2))) _ _ _ _ _ _ _ _ _ hS hx hl hv hz hc hs)
theorem r_icmp_eq (hC : s_C p s m args meth c R q b tt L sb xs nL) {off : Int} {tg : Nat} {x y : Int} (ht : (pc : Int) + off = (tg : Int)) (hdg : decode q.2.1 pc = .ok (.if_icmp .eq off, 3))
    (K1 : x = y → s_G D b tt L sb xs s ρ0 nL zc zs mc ms m (fun H locs cells slots g => W p l e R s m args below meth c H locs cells slots Q g) tg ls r h) (K2 : ¬ x = y → s_G D b tt L sb xs s ρ0 nL zc zs mc ms m (fun H locs cells slots g => W p l e R s m args below meth c H locs cells slots Q g) (pc + 3) ls r h) : s_G D b tt L sb xs s ρ0 nL zc zs mc ms m (fun H locs cells slots g => W p l e R s m args below meth c H locs cells slots Q g) pc ls (jI y :: jI x :: r) h := by
  intro H locs cells slots ws tys lsR rl stR hS hx hl hv hst hc hs
  obtain ⟨w1, w2, z, rfl, ⟨n1, rfl, e1⟩, ⟨n2, rfl, e2⟩, hz⟩ := s_st2 hst
  exact lv_icmp_eq hC.1 hC.2.1 hdg ht (fun hh => K1 (by rw [← e1, ← e2, hh]) _ _ _ _ _ _ _ _ _ hS hx hl hv hz hc hs) (fun hh => K2 (fun h2 => hh (Int32.toInt_inj.mp (by rw [e1, e2]; exact h2))) _ _ _ _ _ _ _ _ _ hS hx hl hv hz hc hs)
theorem r_icmp_ne (hC : s_C p s m args meth c R q b tt L sb xs nL) {off : Int} {tg : Nat} {x y : Int} (ht : (pc : Int) + off = (tg : Int)) (hdg : decode q.2.1 pc = .ok (.if_icmp .ne off, 3))
    (K1 : x = y → s_G D b tt L sb xs s ρ0 nL zc zs mc ms m (fun H locs cells slots g => W p l e R s m args below meth c H locs cells slots Q g) (pc + 3) ls r h) (K2 : ¬ x = y → s_G D b tt L sb xs s ρ0 nL zc zs mc ms m (fun H locs cells slots g => W p l e R s m args below meth c H locs cells slots Q g) tg ls r h) : s_G D b tt L sb xs s ρ0 nL zc zs mc ms m (fun H locs cells slots g => W p l e R s m args below meth c H locs cells slots Q g) pc ls (jI y :: jI x :: r) h := by
  intro H locs cells slots ws tys lsR rl stR hS hx hl hv hst hc hs
  obtain ⟨w1, w2, z, rfl, ⟨n1, rfl, e1⟩, ⟨n2, rfl, e2⟩, hz⟩ := s_st2 hst
  exact lv_icmp_ne hC.1 hC.2.1 hdg ht (fun hh => K2 (fun h2 => hh (Int32.toInt_inj.mp (by rw [e1, e2]; exact h2))) _ _ _ _ _ _ _ _ _ hS hx hl hv hz hc hs) (fun hh => K1 (by rw [← e1, ← e2, hh]) _ _ _ _ _ _ _ _ _ hS hx hl hv hz hc hs)
theorem r_icmp_lt (hC : s_C p s m args meth c R q b tt L sb xs nL) {off : Int} {tg : Nat} {x y : Int} (ht : (pc : Int) + off = (tg : Int)) (hdg : decode q.2.1 pc = .ok (.if_icmp .lt off, 3))
    (K1 : x < y → s_G D b tt L sb xs s ρ0 nL zc zs mc ms m (fun H locs cells slots g => W p l e R s m args below meth c H locs cells slots Q g) tg ls r h) (K2 : ¬ x < y → s_G D b tt L sb xs s ρ0 nL zc zs mc ms m (fun H locs cells slots g => W p l e R s m args below meth c H locs cells slots Q g) (pc + 3) ls r h) : s_G D b tt L sb xs s ρ0 nL zc zs mc ms m (fun H locs cells slots g => W p l e R s m args below meth c H locs cells slots Q g) pc ls (jI y :: jI x :: r) h := by
  intro H locs cells slots ws tys lsR rl stR hS hx hl hv hst hc hs
  obtain ⟨w1, w2, z, rfl, ⟨n1, rfl, e1⟩, ⟨n2, rfl, e2⟩, hz⟩ := s_st2 hst
  exact lv_icmp_lt hC.1 hC.2.1 hdg ht (fun hh => K1 (by rw [← e1, ← e2]; exact Int32.lt_iff_toInt_lt.mp hh) _ _ _ _ _ _ _ _ _ hS hx hl hv hz hc hs) (fun hh => K2 (fun h2 => hh (Int32.lt_iff_toInt_lt.mpr (by rw [e1, e2]; exact h2))) _ _ _ _ _ _ _ _ _ hS hx hl hv hz hc hs)
theorem r_icmp_ge (hC : s_C p s m args meth c R q b tt L sb xs nL) {off : Int} {tg : Nat} {x y : Int} (ht : (pc : Int) + off = (tg : Int)) (hdg : decode q.2.1 pc = .ok (.if_icmp .ge off, 3))
    (K1 : x < y → s_G D b tt L sb xs s ρ0 nL zc zs mc ms m (fun H locs cells slots g => W p l e R s m args below meth c H locs cells slots Q g) (pc + 3) ls r h) (K2 : ¬ x < y → s_G D b tt L sb xs s ρ0 nL zc zs mc ms m (fun H locs cells slots g => W p l e R s m args below meth c H locs cells slots Q g) tg ls r h) : s_G D b tt L sb xs s ρ0 nL zc zs mc ms m (fun H locs cells slots g => W p l e R s m args below meth c H locs cells slots Q g) pc ls (jI y :: jI x :: r) h := by
  intro H locs cells slots ws tys lsR rl stR hS hx hl hv hst hc hs
  obtain ⟨w1, w2, z, rfl, ⟨n1, rfl, e1⟩, ⟨n2, rfl, e2⟩, hz⟩ := s_st2 hst
  exact lv_icmp_ge hC.1 hC.2.1 hdg ht (fun hh => K2 (fun h2 => absurd (Int32.le_iff_toInt_le.mp hh) (by rw [e1, e2]; exact Int.not_le.mpr h2)) _ _ _ _ _ _ _ _ _ hS hx hl hv hz hc hs) (fun hh => K1 (by rw [← e1, ← e2]; exact Int.not_le.mp (fun h2 => hh (Int32.le_iff_toInt_le.mpr h2))) _ _ _ _ _ _ _ _ _ hS hx hl hv hz hc hs)
theorem r_icmp_gt (hC : s_C p s m args meth c R q b tt L sb xs nL) {off : Int} {tg : Nat} {x y : Int} (ht : (pc : Int) + off = (tg : Int)) (hdg : decode q.2.1 pc = .ok (.if_icmp .gt off, 3))
    (K1 : y < x → s_G D b tt L sb xs s ρ0 nL zc zs mc ms m (fun H locs cells slots g => W p l e R s m args below meth c H locs cells slots Q g) tg ls r h) (K2 : ¬ y < x → s_G D b tt L sb xs s ρ0 nL zc zs mc ms m (fun H locs cells slots g => W p l e R s m args below meth c H locs cells slots Q g) (pc + 3) ls r h) : s_G D b tt L sb xs s ρ0 nL zc zs mc ms m (fun H locs cells slots g => W p l e R s m args below meth c H locs cells slots Q g) pc ls (jI y :: jI x :: r) h := by
  intro H locs cells slots ws tys lsR rl stR hS hx hl hv hst hc hs
  obtain ⟨w1, w2, z, rfl, ⟨n1, rfl, e1⟩, ⟨n2, rfl, e2⟩, hz⟩ := s_st2 hst
  exact lv_icmp_gt hC.1 hC.2.1 hdg ht (fun hh => K1 (by rw [← e1, ← e2]; exact Int32.lt_iff_toInt_lt.mp hh) _ _ _ _ _ _ _ _ _ hS hx hl hv hz hc hs) (fun hh => K2 (fun h2 => hh (Int32.lt_iff_toInt_lt.mpr (by rw [e1, e2]; exact h2))) _ _ _ _ _ _ _ _ _ hS hx hl hv hz hc hs)
theorem r_icmp_le (hC : s_C p s m args meth c R q b tt L sb xs nL) {off : Int} {tg : Nat} {x y : Int} (ht : (pc : Int) + off = (tg : Int)) (hdg : decode q.2.1 pc = .ok (.if_icmp .le off, 3))
    (K1 : y < x → s_G D b tt L sb xs s ρ0 nL zc zs mc ms m (fun H locs cells slots g => W p l e R s m args below meth c H locs cells slots Q g) (pc + 3) ls r h) (K2 : ¬ y < x → s_G D b tt L sb xs s ρ0 nL zc zs mc ms m (fun H locs cells slots g => W p l e R s m args below meth c H locs cells slots Q g) tg ls r h) : s_G D b tt L sb xs s ρ0 nL zc zs mc ms m (fun H locs cells slots g => W p l e R s m args below meth c H locs cells slots Q g) pc ls (jI y :: jI x :: r) h := by
  intro H locs cells slots ws tys lsR rl stR hS hx hl hv hst hc hs
  obtain ⟨w1, w2, z, rfl, ⟨n1, rfl, e1⟩, ⟨n2, rfl, e2⟩, hz⟩ := s_st2 hst
  exact lv_icmp_le hC.1 hC.2.1 hdg ht (fun hh => K2 (fun h2 => absurd (Int32.le_iff_toInt_le.mp hh) (by rw [e1, e2]; exact Int.not_le.mpr h2)) _ _ _ _ _ _ _ _ _ hS hx hl hv hz hc hs) (fun hh => K1 (by rw [← e1, ← e2]; exact Int.not_le.mp (fun h2 => hh (Int32.le_iff_toInt_le.mpr h2))) _ _ _ _ _ _ _ _ _ hS hx hl hv hz hc hs)
theorem r_tsw (hC : s_C p s m args meth c R q b tt L sb xs nL) {d lo hi : Int} {offs : Array Int} {len : Nat} {x : Int} (hdg : decode q.2.1 pc = .ok (.tableswitch d lo hi offs, len))
    (K0 : lo ≤ x → x ≤ hi → ∃ o, offs[(x - lo).toNat]? = some o) (K1 : ∀ o, lo ≤ x → x ≤ hi → offs[(x - lo).toNat]? = some o → ∃ tg : Nat, (pc : Int) + o = (tg : Int) ∧ s_G D b tt L sb xs s ρ0 nL zc zs mc ms m (fun H locs cells slots g => W p l e R s m args below meth c H locs cells slots Q g) tg ls r h) (K2 : ¬ (lo ≤ x ∧ x ≤ hi) → ∃ tg : Nat, (pc : Int) + d = (tg : Int) ∧ s_G D b tt L sb xs s ρ0 nL zc zs mc ms m (fun H locs cells slots g => W p l e R s m args below meth c H locs cells slots Q g) tg ls r h) : s_G D b tt L sb xs s ρ0 nL zc zs mc ms m (fun H locs cells slots g => W p l e R s m args below meth c H locs cells slots Q g) pc ls (jI x :: r) h := by
  intro H locs cells slots ws tys lsR rl stR hS hx hl hv hst hc hs
  obtain ⟨w1, z, rfl, ⟨n1, rfl, e1⟩, hz⟩ := s_st1 hst
  by_cases hin : lo ≤ x ∧ x ≤ hi
  · obtain ⟨o, ho⟩ := K0 hin.1 hin.2
    obtain ⟨tg, ht, K⟩ := K1 o hin.1 hin.2 ho
    exact lv_tableIn hC.1 hC.2.1 hdg (by rw [e1]; omega) (by rw [e1]; omega) (by rw [e1]; exact ho) ht (K _ _ _ _ _ _ _ _ _ hS hx hl hv hz hc hs)
  · obtain ⟨tg, ht, K⟩ := K2 hin
    exact lv_tableOut hC.1 hC.2.1 hdg (by rw [e1]; omega) ht (K _ _ _ _ _ _ _ _ _ hS hx hl hv hz hc hs)
theorem s_shl (a b : Int32) : (a <<< (b &&& 31)).toInt = j_shl a.toInt b.toInt := by
  unfold j_shl
  rw [Int32.ofInt_toInt, Int32.ofInt_toInt]
theorem s_shr (a b : Int32) : (a >>> (b &&& 31)).toInt = j_shr a.toInt b.toInt := by
  unfold j_shr
  rw [Int32.ofInt_toInt, Int32.ofInt_toInt]
theorem r_ishl (hC : s_C p s m args meth c R q b tt L sb xs nL) {x y : Int} (hdg : decode q.2.1 pc = .ok (.ishl, 1))
    (K : s_G D b tt L sb xs s ρ0 nL zc zs mc ms m (fun H locs cells slots g => W p l e R s m args below meth c H locs cells slots Q g) (pc + 1) ls (jI (j_shl x y) :: r) h) : s_G D b tt L sb xs s ρ0 nL zc zs mc ms m (fun H locs cells slots g => W p l e R s m args below meth c H locs cells slots Q g) pc ls (jI y :: jI x :: r) h := by
  intro H locs cells slots ws tys lsR rl stR hS hx hl hv hst hc hs
  obtain ⟨w1, w2, z, rfl, ⟨n1, rfl, e1⟩, ⟨n2, rfl, e2⟩, hz⟩ := s_st2 hst
  exact lv_ishl hC.1 hC.2.1 hdg (K _ _ _ _ _ _ _ _ _ hS hx hl hv ⟨⟨_, rfl, by rw [s_shl, e1, e2]⟩, hz⟩ hc hs)
theorem r_ishr (hC : s_C p s m args meth c R q b tt L sb xs nL) {x y : Int} (hdg : decode q.2.1 pc = .ok (.ishr, 1))
    (K : s_G D b tt L sb xs s ρ0 nL zc zs mc ms m (fun H locs cells slots g => W p l e R s m args below meth c H locs cells slots Q g) (pc + 1) ls (jI (j_shr x y) :: r) h) : s_G D b tt L sb xs s ρ0 nL zc zs mc ms m (fun H locs cells slots g => W p l e R s m args below meth c H locs cells slots Q g) pc ls (jI y :: jI x :: r) h := by
  intro H locs cells slots ws tys lsR rl stR hS hx hl hv hst hc hs
  obtain ⟨w1, w2, z, rfl, ⟨n1, rfl, e1⟩, ⟨n2, rfl, e2⟩, hz⟩ := s_st2 hst
  exact lv_ishr hC.1 hC.2.1 hdg (K _ _ _ _ _ _ _ _ _ hS hx hl hv ⟨⟨_, rfl, by rw [s_shr, e1, e2]⟩, hz⟩ hc hs)
theorem r_i2c (hC : s_C p s m args meth c R q b tt L sb xs nL) {x : Int} (hdg : decode q.2.1 pc = .ok (.i2c, 1))
    (K : s_G D b tt L sb xs s ρ0 nL zc zs mc ms m (fun H locs cells slots g => W p l e R s m args below meth c H locs cells slots Q g) (pc + 1) ls (jI (j_chr x) :: r) h) : s_G D b tt L sb xs s ρ0 nL zc zs mc ms m (fun H locs cells slots g => W p l e R s m args below meth c H locs cells slots Q g) pc ls (jI x :: r) h := by
  intro H locs cells slots ws tys lsR rl stR hS hx hl hv hst hc hs
  obtain ⟨w1, z, rfl, ⟨n1, rfl, e1⟩, hz⟩ := s_st1 hst
  exact lv_i2c hC.1 hC.2.1 hdg rfl (K _ _ _ _ _ _ _ _ _ hS hx hl hv ⟨⟨_, rfl, by unfold j_chr; rw [← e1, Int32.ofInt_toInt]⟩, hz⟩ hc hs)
theorem r_pop (hC : s_C p s m args meth c R q b tt L sb xs nL) {v : j_V} (hc1 : j_cat v = 1) (hdg : decode q.2.1 pc = .ok (.pop, 1))
    (K : s_G D b tt L sb xs s ρ0 nL zc zs mc ms m (fun H locs cells slots g => W p l e R s m args below meth c H locs cells slots Q g) (pc + 1) ls r h) : s_G D b tt L sb xs s ρ0 nL zc zs mc ms m (fun H locs cells slots g => W p l e R s m args below meth c H locs cells slots Q g) pc ls (v :: r) h := by
  intro H locs cells slots ws tys lsR rl stR hS hx hl hv hst hc hs
  obtain ⟨w1, z, rfl, h1, hz⟩ := s_st1 hst
  exact lv_pop hC.1 hC.2.1 hdg ((s_val_cat h1).trans hc1) (K _ _ _ _ _ _ _ _ _ hS hx hl hv hz hc hs)
theorem r_dup_x1 (hC : s_C p s m args meth c R q b tt L sb xs nL) {v u : j_V} (hc1 : j_cat v = 1) (hc2 : j_cat u = 1) (hdg : decode q.2.1 pc = .ok (.dup_x1, 1))
    (K : s_G D b tt L sb xs s ρ0 nL zc zs mc ms m (fun H locs cells slots g => W p l e R s m args below meth c H locs cells slots Q g) (pc + 1) ls (v :: u :: v :: r) h) : s_G D b tt L sb xs s ρ0 nL zc zs mc ms m (fun H locs cells slots g => W p l e R s m args below meth c H locs cells slots Q g) pc ls (v :: u :: r) h := by
  intro H locs cells slots ws tys lsR rl stR hS hx hl hv hst hc hs
  obtain ⟨w1, w2, z, rfl, h1, h2, hz⟩ := s_st2 hst
  exact lv_dup_x1 hC.1 hC.2.1 hdg ((s_val_cat h1).trans hc1) ((s_val_cat h2).trans hc2) (K _ _ _ _ _ _ _ _ _ hS hx hl hv ⟨h1, h2, h1, hz⟩ hc hs)
theorem r_ifnonnull (hC : s_C p s m args meth c R q b tt L sb xs nL) {a tgt : Nat} {off : Int} (ht : (pc : Int) + off = (tgt : Int)) (hdg : decode q.2.1 pc = .ok (.ifnonnull off, 3))
    (K : s_G D b tt L sb xs s ρ0 nL zc zs mc ms m (fun H locs cells slots g => W p l e R s m args below meth c H locs cells slots Q g) tgt ls r h) : s_G D b tt L sb xs s ρ0 nL zc zs mc ms m (fun H locs cells slots g => W p l e R s m args below meth c H locs cells slots Q g) pc ls (jR a :: r) h := by
  intro H locs cells slots ws tys lsR rl stR hS hx hl hv hst hc hs
  obtain ⟨w1, z, rfl, ⟨q1, rfl, hq⟩, hz⟩ := s_st1 hst
  exact lv_ifnonnull hC.1 hC.2.1 hdg ht (K _ _ _ _ _ _ _ _ _ hS hx hl hv hz hc hs)
theorem r_ldcS (hC : s_C p s m args meth c R q b tt L sb xs nL) {ix k : Nat} {x : Nat × String × List Nat} (hx0 : j_tx[k]? = some x) (hk : k < 10) (hix : ix = x.1) (h13 : q.2.2.2.2.1 = 13) (hdg : decode q.2.1 pc = .ok (.ldc ix, 2))
    (K : s_G D b tt L sb xs s ρ0 nL zc zs mc ms m (fun H locs cells slots g => W p l e R s m args below meth c H locs cells slots Q g) (pc + 2) ls (jR (1000000 + 2 * k) :: r) h) : s_G D b tt L sb xs s ρ0 nL zc zs mc ms m (fun H locs cells slots g => W p l e R s m args below meth c H locs cells slots Q g) pc ls r h := by
  intro H locs cells slots ws tys lsR rl stR hS hx hl hv hst hc hs
  have hRO := hC.2.2.2.2.2.2.2.2
  have hR := hRO.2.2.2.2.2.2.2.1.2.2.2.2.2.2.1 k x hx0
  have hown : s.vm.findClass "WholePacksLaw" = some m.cls := by have := hC.2.2.2.1; rw [h13] at this; exact this
  rw [← hix] at hR
  have ha : s_ρ b tt ws (1000000 + 2 * k) = some (tt (1 + 2 * k)) := by
    have h7 := hS.1.2.2.2.2.2.2.1
    rw [s_ρ_out (by have := hS.1.1; omega)]
    unfold s_kρ
    rw [if_pos (by omega), show 1000000 + 2 * k - 999999 = 1 + 2 * k by omega]
  exact va_ldcS hC.1 hC.2.1 hown hR hdg (K _ _ _ _ _ _ _ _ _ hS hx hl hv ⟨⟨_, rfl, ha⟩, hst⟩ hc hs)
theorem r_getsC (hC : s_C p s m args meth c R q b tt L sb xs nL) {ix : Nat} (hlink : Cond.fieldLink (j_cnm q.2.2.2.2.1) ix "java/lang/String" "COMPACT_STRINGS" "Z" ∈ lwW) (hw : ∀ w ∈ lwW, w.before args s = true) (hdg : decode q.2.1 pc = .ok (.getstatic ix, 3))
    (K : s_G D b tt L sb xs s ρ0 nL zc zs mc ms m (fun H locs cells slots g => W p l e R s m args below meth c H locs cells slots Q g) (pc + 3) ls (jI 1 :: r) h) : s_G D b tt L sb xs s ρ0 nL zc zs mc ms m (fun H locs cells slots g => W p l e R s m args below meth c H locs cells slots Q g) pc ls r h := by
  intro H locs cells slots ws tys lsR rl stR hS hx hl hv hst hc hs
  have hRO := hC.2.2.2.2.2.2.2.2
  exact va_gets hC.1 hC.2.1 hRO.2.2.2.2.2.2.2.1.2.1 hS.2.2.2.2 hC.2.2.2.1 (hw _ hlink) (fun x hx => hx) hdg (K _ _ _ _ _ _ _ _ _ hS hx hl hv ⟨⟨1, rfl, rfl⟩, hst⟩ hc hs)
theorem r_getsO (hC : s_C p s m args meth c R q b tt L sb xs nL) {ix : Nat} (hlink : Cond.fieldLink (j_cnm q.2.2.2.2.1) ix "java/lang/Integer" "DigitOnes" "[B" ∈ lwW) (hw : ∀ w ∈ lwW, w.before args s = true) (hdg : decode q.2.1 pc = .ok (.getstatic ix, 3))
    (K : s_G D b tt L sb xs s ρ0 nL zc zs mc ms m (fun H locs cells slots g => W p l e R s m args below meth c H locs cells slots Q g) (pc + 3) ls (jR 1000020 :: r) h) : s_G D b tt L sb xs s ρ0 nL zc zs mc ms m (fun H locs cells slots g => W p l e R s m args below meth c H locs cells slots Q g) pc ls r h := by
  intro H locs cells slots ws tys lsR rl stR hS hx hl hv hst hc hs
  have hRO := hC.2.2.2.2.2.2.2.2
  have ha : s_ρ b tt ws 1000020 = some (tt 21) := by
    have h7 := hS.1.2.2.2.2.2.2.1
    rw [s_ρ_out (by have := hS.1.1; omega)]
    rfl
  exact va_gets hC.1 hC.2.1 hRO.2.2.2.2.2.2.2.1.2.2.1 hS.2.2.2.2 hC.2.2.2.1 (hw _ hlink) (fun x hx => hx) hdg (K _ _ _ _ _ _ _ _ _ hS hx hl hv ⟨⟨_, rfl, ha⟩, hst⟩ hc hs)
theorem r_getsT (hC : s_C p s m args meth c R q b tt L sb xs nL) {ix : Nat} (hlink : Cond.fieldLink (j_cnm q.2.2.2.2.1) ix "java/lang/Integer" "DigitTens" "[B" ∈ lwW) (hw : ∀ w ∈ lwW, w.before args s = true) (hdg : decode q.2.1 pc = .ok (.getstatic ix, 3))
    (K : s_G D b tt L sb xs s ρ0 nL zc zs mc ms m (fun H locs cells slots g => W p l e R s m args below meth c H locs cells slots Q g) (pc + 3) ls (jR 1000021 :: r) h) : s_G D b tt L sb xs s ρ0 nL zc zs mc ms m (fun H locs cells slots g => W p l e R s m args below meth c H locs cells slots Q g) pc ls r h := by
  intro H locs cells slots ws tys lsR rl stR hS hx hl hv hst hc hs
  have hRO := hC.2.2.2.2.2.2.2.2
  have ha : s_ρ b tt ws 1000021 = some (tt 22) := by
    have h7 := hS.1.2.2.2.2.2.2.1
    rw [s_ρ_out (by have := hS.1.1; omega)]
    rfl
  exact va_gets hC.1 hC.2.1 hRO.2.2.2.2.2.2.2.1.2.2.2.1 hS.2.2.2.2 hC.2.2.2.1 (hw _ hlink) (fun x hx => hx) hdg (K _ _ _ _ _ _ _ _ _ hS hx hl hv ⟨⟨_, rfl, ha⟩, hst⟩ hc hs)
end SR
