/-! THE CLAIM OUT OF ONE WALK OF THE LAW'S BODY. Your part is whole_start (and what it stands on); all else here is the same for every law, but numbers. -/
def R_law : String := "WholePacksLaw"
def lw_P (b : Addr) (xs : List Int32) (args : Array Value) (s : State) : Prop := args = #[.ref b] ∧ s.IntsAt b xs ∧ xs.length ≤ 260 ∧ (Jvm.Cond.and given_1 narrow_1).before args s = true
def lw_Q (_ : Array Value) (s : State) (o : Outcome) (t : State) : Prop := o = .returned (some (.int 1)) ∧ Framed s o t [] room_1.cells room_1.slots
def lw_Z (below : List Frame) (a : Array Value) (s : State) : State → Prop := fun t => ∃ o, t.status = .running ∧ Ended t below o ∧ lw_Q a s o t
/-- the law's own end, with 1 on the stack, nothing written that was there before, its room as the claim has it -/
theorem lw_ret {p : Program} {l : Launch} {e : Env} {s : State} {m : MethodId} {below : List Frame} {meth : Method} {c : Code} {b : Nat} (hx : p.tables.exec = Jvm.exec) (hb : c.code = code) (hr : meth.sig.returnType = ret) (hlocks : meth.locks = false) {pc : Nat} {H : Heap} {ls : Array Slot} (hdg : decode code pc = .ok (.ireturn, 1)) : W p l e room_1 s m #[Value.ref b] below meth c H [] room_1.cells room_1.slots (lw_Z below #[Value.ref b] s) (F0 m pc ls [.int 1]) := by
  intro T hT X
  obtain ⟨fs, hret, hrun, hended, hW, hframe⟩ := X.leave (v := some (.int 1)) (hlocks := hlocks) (fun h => by rw [hr] at h; cases h)
  have hmeth' : T.vm.method? m = some meth := X.method'
  refine ⟨T.setFrames fs, ?_, .returned (some (.int 1)), hrun, hended, rfl, ⟨_, rfl⟩, hW, hframe⟩
  jvm_step X.here [X.here.top, hx, hb, hdg, hmeth', hr, ret, narrow_b1]
  (try refine ⟨rfl, ?_⟩); (try refine ⟨rfl, ?_⟩)
  first | (intro acts; rw [hret _ acts rfl rfl rfl]) | rw [hret _ _ rfl rfl rfl]
  exact Steps.refl _
/-- what holds at the law's entry: the machine, the code, the tables' words (any of lw_tbl by 'hts w (by decide +kernel)'), the script of L ints xs at the cell b, what the Statement gives of the start (any of its parts by flat_of_before) -/
def lw_At (p : Program) (s : State) (m : MethodId) (meth : Method) (c : Code) (b L : Nat) (xs : Nat → Int32) : Prop :=
  p.tables.exec = Jvm.exec ∧ c.code = code ∧ meth.sig.returnType = ret ∧ c.maxLocals = 22 ∧ s.vm.findClass R_law = some m.cls ∧ (∀ w ∈ lw_tbl, w.before #[Value.ref b] s = true) ∧ va_X b L xs s s.heap ∧ b < s.heap.size ∧ meth.locks = false ∧ (Jvm.Cond.and given_1 narrow_1).before #[Value.ref b] s = true
/-- the heap of the start: the script, TENS; what stands ahead -/
def l_h0 (L : Nat) (xs : Nat → Int32) : j_H := ([(32, L), (32, 6)], [[], []], fun a i => if a = 0 then (xs i).toInt else if a = 1 then (s_tn i).toInt else if 1000000 ≤ a then s_kb a i else 0)
def l_ls : j_L := some (jR 0) :: List.replicate 21 none
/-- what is left to show: the abstract machine's law answers 1 -/
def l_Goal : Prop := ∀ (L : Nat) (xs : Nat → Int32), L ≤ 260 → ∃ h : j_H, j_fin (c_call 10) 271 0 l_ls [] (l_h0 L xs) = some (some (jI 1), h) ∧ h.1.length ≤ 200002 ∧ s_sl h ≤ 2000000 + 6
theorem l_tens (j : Nat) (hj : j < 6) {args : Array Value} {s : State} (hgv : (Jvm.Cond.and given_1 narrow_1).before args s = true) : (Term.elem (.static "WholePacks" "TENS" "[I") (.int (Int32.ofNat j))).eval args s none [] s = some (.int (s_tn j)) := by
  have hs := flat_of_before _ hgv
  match j, hj with
  | 0, _ => exact va_eqt (hs _ (by decide +kernel))
  | 1, _ => exact va_eqt (hs _ (by decide +kernel))
  | 2, _ => exact va_eqt (hs _ (by decide +kernel))
  | 3, _ => exact va_eqt (hs _ (by decide +kernel))
  | 4, _ => exact va_eqt (hs _ (by decide +kernel))
  | 5, _ => exact va_eqt (hs _ (by decide +kernel))
/-! texts, digits -/
def l_FL : List Cond := flatC (Jvm.Cond.and given_1 narrow_1)
def l_tm (i : Nat) : Term := .string "WholePacksLaw" (j_tx.getD i (0, "", [])).1
def l_val (i : Nat) : Term := .field (l_tm i) "java/lang/String" "value" "[B"
def l_ln : List Nat := j_tx.map (fun t => t.2.2.length)
def l_by : List (List Int32) := j_tx.map (fun t => t.2.2.map (fun n => Int32.ofNat n))
def l_d1_w (j : Nat) : Cond := Cond.eq (.elem (.static "java/lang/Integer" "DigitOnes" "[B") (.int (Int32.ofNat j))) (.int (Int32.ofInt (s_kb 1000020 j)))
theorem l_d1_0 : ∀ j, j < 10 → l_d1_w (0 + j) ∈ l_FL := by decide +kernel
theorem l_d1_1 : ∀ j, j < 10 → l_d1_w (10 + j) ∈ l_FL := by decide +kernel
theorem l_d1_2 : ∀ j, j < 10 → l_d1_w (20 + j) ∈ l_FL := by decide +kernel
theorem l_d1_3 : ∀ j, j < 10 → l_d1_w (30 + j) ∈ l_FL := by decide +kernel
theorem l_d1_4 : ∀ j, j < 10 → l_d1_w (40 + j) ∈ l_FL := by decide +kernel
theorem l_d1_5 : ∀ j, j < 10 → l_d1_w (50 + j) ∈ l_FL := by decide +kernel
theorem l_d1_6 : ∀ j, j < 10 → l_d1_w (60 + j) ∈ l_FL := by decide +kernel
theorem l_d1_7 : ∀ j, j < 10 → l_d1_w (70 + j) ∈ l_FL := by decide +kernel
theorem l_d1_8 : ∀ j, j < 10 → l_d1_w (80 + j) ∈ l_FL := by decide +kernel
theorem l_d1_9 : ∀ j, j < 10 → l_d1_w (90 + j) ∈ l_FL := by decide +kernel
theorem l_d1 (j : Nat) (hj : j < 100) : l_d1_w j ∈ l_FL := by
  obtain ⟨q, r, hq, hr, rfl⟩ : ∃ q r, q < 10 ∧ r < 10 ∧ j = 10 * q + r := ⟨j / 10, j % 10, by omega, by omega, by omega⟩
  have h10 : q = 0 ∨ q = 1 ∨ q = 2 ∨ q = 3 ∨ q = 4 ∨ q = 5 ∨ q = 6 ∨ q = 7 ∨ q = 8 ∨ q = 9 := by omega
  rcases h10 with rfl | rfl | rfl | rfl | rfl | rfl | rfl | rfl | rfl | rfl
  · exact l_d1_0 r hr
  · exact l_d1_1 r hr
  · exact l_d1_2 r hr
  · exact l_d1_3 r hr
  · exact l_d1_4 r hr
  · exact l_d1_5 r hr
  · exact l_d1_6 r hr
  · exact l_d1_7 r hr
  · exact l_d1_8 r hr
  · exact l_d1_9 r hr
def l_d2_w (j : Nat) : Cond := Cond.eq (.elem (.static "java/lang/Integer" "DigitTens" "[B") (.int (Int32.ofNat j))) (.int (Int32.ofInt (s_kb 1000021 j)))
theorem l_d2_0 : ∀ j, j < 10 → l_d2_w (0 + j) ∈ l_FL := by decide +kernel
theorem l_d2_1 : ∀ j, j < 10 → l_d2_w (10 + j) ∈ l_FL := by decide +kernel
theorem l_d2_2 : ∀ j, j < 10 → l_d2_w (20 + j) ∈ l_FL := by decide +kernel
theorem l_d2_3 : ∀ j, j < 10 → l_d2_w (30 + j) ∈ l_FL := by decide +kernel
theorem l_d2_4 : ∀ j, j < 10 → l_d2_w (40 + j) ∈ l_FL := by decide +kernel
theorem l_d2_5 : ∀ j, j < 10 → l_d2_w (50 + j) ∈ l_FL := by decide +kernel
theorem l_d2_6 : ∀ j, j < 10 → l_d2_w (60 + j) ∈ l_FL := by decide +kernel
theorem l_d2_7 : ∀ j, j < 10 → l_d2_w (70 + j) ∈ l_FL := by decide +kernel
theorem l_d2_8 : ∀ j, j < 10 → l_d2_w (80 + j) ∈ l_FL := by decide +kernel
theorem l_d2_9 : ∀ j, j < 10 → l_d2_w (90 + j) ∈ l_FL := by decide +kernel
theorem l_d2 (j : Nat) (hj : j < 100) : l_d2_w j ∈ l_FL := by
  obtain ⟨q, r, hq, hr, rfl⟩ : ∃ q r, q < 10 ∧ r < 10 ∧ j = 10 * q + r := ⟨j / 10, j % 10, by omega, by omega, by omega⟩
  have h10 : q = 0 ∨ q = 1 ∨ q = 2 ∨ q = 3 ∨ q = 4 ∨ q = 5 ∨ q = 6 ∨ q = 7 ∨ q = 8 ∨ q = 9 := by omega
  rcases h10 with rfl | rfl | rfl | rfl | rfl | rfl | rfl | rfl | rfl | rfl
  · exact l_d2_0 r hr
  · exact l_d2_1 r hr
  · exact l_d2_2 r hr
  · exact l_d2_3 r hr
  · exact l_d2_4 r hr
  · exact l_d2_5 r hr
  · exact l_d2_6 r hr
  · exact l_d2_7 r hr
  · exact l_d2_8 r hr
  · exact l_d2_9 r hr
theorem l_d3 : Cond.arrayOf (.static "java/lang/Integer" "DigitOnes" "[B") .byte ∈ l_FL ∧ Cond.arrayOf (.static "java/lang/Integer" "DigitTens" "[B") .byte ∈ l_FL ∧ Cond.eq (.length (.static "java/lang/Integer" "DigitOnes" "[B")) (.int (Int32.ofNat 100)) ∈ l_FL ∧ Cond.eq (.length (.static "java/lang/Integer" "DigitTens" "[B")) (.int (Int32.ofNat 100)) ∈ l_FL ∧ Cond.eq (.static "java/lang/String" "COMPACT_STRINGS" "Z") (.int 1) ∈ l_FL ∧ Cond.isRef (.static "jdk/internal/util/Preconditions" "SIOOBE_FORMATTER" "Ljava/util/function/BiFunction;") ∈ l_FL := by decide +kernel
theorem l_s1 : ∀ i, i < 10 → Cond.exactly (l_tm i) "java/lang/String" ∈ l_FL ∧ Cond.eq (.field (l_tm i) "java/lang/String" "coder" "B") (.int 0) ∈ l_FL ∧ Cond.arrayOf (l_val i) .byte ∈ l_FL ∧ Cond.eq (.length (l_val i)) (.int (Int32.ofNat (l_ln.getD i 0))) ∈ l_FL := by decide +kernel
theorem l_s2 : ∀ i, i < 10 → ∀ j, j < l_ln.getD i 0 → Cond.eq (.elem (l_val i) (.int (Int32.ofNat j))) (.int ((l_by.getD i []).getD j 0)) ∈ l_FL := by decide +kernel
theorem l_s3 : ∀ i, i < 10 → ∀ j, j < 10 → i ≠ j → Cond.not (.eq (l_tm i) (l_tm j)) ∈ l_FL ∨ Cond.not (.eq (l_tm j) (l_tm i)) ∈ l_FL := by decide +kernel
theorem l_s4 : ∀ i, i < 10 → ∀ x, j_tx[i]? = some x → Cond.stringRef "WholePacksLaw" x.1 x.2.1 ∈ lw_tb2 ∧ l_tm i = .string "WholePacksLaw" x.1 := by
  intro i hi x hx
  have h10 : i = 0 ∨ i = 1 ∨ i = 2 ∨ i = 3 ∨ i = 4 ∨ i = 5 ∨ i = 6 ∨ i = 7 ∨ i = 8 ∨ i = 9 := by omega
  rcases h10 with rfl | rfl | rfl | rfl | rfl | rfl | rfl | rfl | rfl | rfl <;> (cases hx; exact ⟨by decide +kernel, rfl⟩)
theorem l_s5 : ∀ i, i < 10 → j_kc (1000001 + 2 * i) = some (34, l_ln.getD i 0) ∧ ∀ j, j < l_ln.getD i 0 → (l_by.getD i []).getD j 0 = Int32.ofInt (s_kb (1000001 + 2 * i) j) := by decide +kernel
theorem l_s6 : ∀ i, i < 10 → l_ln.getD i 0 < 2 ^ 31 := by decide +kernel
theorem l_w1 : Cond.laysStatic "java/lang/String" "COMPACT_STRINGS" "Z" ∈ lw_tb2 ∧ Cond.initialized "java/lang/String" ∈ lw_tb2 ∧ Cond.laysStatic "java/lang/Integer" "DigitOnes" "[B" ∈ lw_tb2 ∧ Cond.laysStatic "java/lang/Integer" "DigitTens" "[B" ∈ lw_tb2 ∧ Cond.initialized "java/lang/Integer" ∈ lw_tb2 ∧ Cond.laysStatic "jdk/internal/util/Preconditions" "SIOOBE_FORMATTER" "Ljava/util/function/BiFunction;" ∈ lw_tb2 ∧ Cond.initialized "jdk/internal/util/Preconditions" ∈ lw_tb2 ∧ Cond.castable "[B" "java/lang/Cloneable" ∈ lw_tb2 := by decide +kernel
theorem va_T_cg {ty : FieldType} {t N : Nat} {f g : Nat → Value} {A : Nat → Prop} {U : State} {H : Heap} (h : va_T ty t N f A U H) (e : ∀ j, j < N → f j = g j) : va_T ty t N g A U H := by
  obtain ⟨cell, a1, a2, a3, a4, a5, a6, a7⟩ := h
  exact ⟨cell, a1, a2, a3, a4, a5, fun j hj => (a6 j hj).trans (congrArg some (e j hj)), a7⟩
set_option maxHeartbeats 4000000 in
theorem l_RK {b : Nat} {s : State} (hts : ∀ w ∈ lw_tb2, w.before #[Value.ref b] s = true) (hgv : (Jvm.Cond.and given_1 narrow_1).before #[Value.ref b] s = true) (t0 : Nat) : ∃ tt : Nat → Nat, tt 0 = t0 ∧ s_RK tt s.heap.size s s.heap := by
  have hs : ∀ c ∈ l_FL, c.before #[Value.ref b] s = true := flat_of_before _ hgv
  have hA : ∀ a : Nat, a < s.heap.size → ¬ s_A s.heap.size a := fun a ha h1 => absurd h1 (Nat.not_le.mpr ha)
  obtain ⟨d1, d2, d3, d4, d5, d6⟩ := l_d3
  obtain ⟨c1, c2, c3, c4, c5, c6, c7, c8⟩ := l_w1
  obtain ⟨o, ho, hO⟩ := va_Tof (args := #[Value.ref b]) (s := s) (tm := .static "java/lang/Integer" "DigitOnes" "[B") (ty := .byte) (N := 100) (f := fun j => .int (Int32.ofInt (s_kb 1000020 j))) (A := s_A s.heap.size) (by decide) (hs _ d1) (va_eqt (hs _ d3)) (fun j hj => va_eqt (hs _ (l_d1 j hj))) hA
  obtain ⟨te, hte, hT⟩ := va_Tof (args := #[Value.ref b]) (s := s) (tm := .static "java/lang/Integer" "DigitTens" "[B") (ty := .byte) (N := 100) (f := fun j => .int (Int32.ofInt (s_kb 1000021 j))) (A := s_A s.heap.size) (by decide) (hs _ d2) (va_eqt (hs _ d4)) (fun j hj => va_eqt (hs _ (l_d2 j hj))) hA
  obtain ⟨adK, adV, ⟨hK, hne⟩, hev⟩ := vk_Sof (args := #[Value.ref b]) (s := s) (N := 10) (tm := l_tm) (len := l_ln) (byt := l_by) (A := s_A s.heap.size) l_s6 (fun i hi => hs _ (l_s1 i hi).1) (fun i hi => hs _ (l_s1 i hi).2.1) (fun i hi => hs _ (l_s1 i hi).2.2.1) (fun i hi => hs _ (l_s1 i hi).2.2.2) (fun i hi j hj => hs _ (l_s2 i hi j hj)) (fun i j hi hj hij => (l_s3 i hi j hj hij).imp (fun h => hs _ h) (fun h => hs _ h)) hA
  have hiR : ∃ v : Value, v.category = 1 ∧ va_Z "jdk/internal/util/Preconditions" "SIOOBE_FORMATTER" "Ljava/util/function/BiFunction;" v (s_A s.heap.size) s s.heap := by
    have h1 := hs _ d6
    have h2 : ∃ v : Value, (Term.static "jdk/internal/util/Preconditions" "SIOOBE_FORMATTER" "Ljava/util/function/BiFunction;").eval #[Value.ref b] s none [] s = some v ∧ v.isRef = true := by
      simp only [Cond.before, Cond.holds, Cond.value] at h1
      cases hv : (Term.static "jdk/internal/util/Preconditions" "SIOOBE_FORMATTER" "Ljava/util/function/BiFunction;").eval #[Value.ref b] s none [] s with
      | none => rw [hv] at h1; simp at h1
      | some v =>
        rw [hv] at h1
        refine ⟨v, rfl, ?_⟩
        cases v <;> first | rfl | (simp at h1)
    obtain ⟨v, h3, h4⟩ := h2
    exact ⟨v, by cases v <;> first | rfl | (cases h4), va_Zof (hts _ c6) (hts _ c7) h3 hA⟩
  refine ⟨fun n => if n = 0 then t0 else if n = 21 then o else if n = 22 then te else if n % 2 = 1 then adK ((n - 1) / 2) else adV ((n - 2) / 2), rfl, va_Zof (hts _ c1) (hts _ c2) (va_eqi (hs _ d5)) hA, va_Zof (hts _ c3) (hts _ c5) ho hA, va_Zof (hts _ c4) (hts _ c5) hte hA, fun a N e => ?_, fun k hk => ?_, fun k x e => ?_, va_Nw.of rfl (hts _ c8), hiR⟩
  · obtain ⟨i, hi, rfl⟩ := s_kc_in e
    rcases s_kc_all i hi _ _ e with h1 | h1
    · by_cases h20 : i < 20
      · obtain ⟨k, rfl⟩ : ∃ k, i = 2 * k + 1 := ⟨i / 2, by have := h1.2.2 h20; omega⟩
        have hk : k < 10 := by omega
        obtain ⟨e1, e2⟩ := l_s5 k hk
        rw [show 1000000 + (2 * k + 1) = 1000001 + 2 * k by omega] at e ⊢
        rw [e1] at e
        cases e
        have h9 : (if 1000001 + 2 * k - 999999 = 0 then t0 else if 1000001 + 2 * k - 999999 = 21 then o else if 1000001 + 2 * k - 999999 = 22 then te else if (1000001 + 2 * k - 999999) % 2 = 1 then adK ((1000001 + 2 * k - 999999 - 1) / 2) else adV ((1000001 + 2 * k - 999999 - 2) / 2)) = adV k := by
          rw [if_neg (by omega), if_neg (by omega), if_neg (by omega), if_neg (by omega), show (1000001 + 2 * k - 999999 - 2) / 2 = k by omega]
        show va_T .byte (if 1000001 + 2 * k - 999999 = 0 then _ else _) _ _ _ _ _
        rw [h9]
        exact va_T_cg (hK k hk).2.2.2 (fun j hj => by rw [e2 j hj])
      · have h21 : i = 20 ∨ i = 21 := by omega
        rcases h21 with rfl | rfl
        · cases e
          exact hO
        · cases e
          exact hT
    · omega
  · have h7 : (if 1 + 2 * k = 0 then t0 else if 1 + 2 * k = 21 then o else if 1 + 2 * k = 22 then te else if (1 + 2 * k) % 2 = 1 then adK ((1 + 2 * k - 1) / 2) else adV ((1 + 2 * k - 2) / 2)) = adK k := by
      rw [if_neg (by omega), if_neg (by omega), if_neg (by omega), if_pos (by omega), show (1 + 2 * k - 1) / 2 = k by omega]
    have h8 : (if 2 + 2 * k = 0 then t0 else if 2 + 2 * k = 21 then o else if 2 + 2 * k = 22 then te else if (2 + 2 * k) % 2 = 1 then adK ((2 + 2 * k - 1) / 2) else adV ((2 + 2 * k - 2) / 2)) = adV k := by
      rw [if_neg (by omega), if_neg (by omega), if_neg (by omega), if_neg (by omega), show (2 + 2 * k - 2) / 2 = k by omega]
    show va_O _ (if 1 + 2 * k = 0 then _ else _) _ _ _ ∧ va_OF _ _ _ _ (if 1 + 2 * k = 0 then _ else _) _ _ _ ∧ va_OF _ _ _ (.ref (if 2 + 2 * k = 0 then _ else _)) (if 1 + 2 * k = 0 then _ else _) _ _ _
    rw [h7, h8]
    exact ⟨(hK k hk).1, (hK k hk).2.1, (hK k hk).2.2.1⟩
  · have hk : k < 10 := by
      have h5 : j_tx.length = 10 := by decide
      have h6 := (List.getElem?_eq_some_iff.mp e).1
      omega
    obtain ⟨f1, f2⟩ := l_s4 k hk x e
    have h7 : (if 1 + 2 * k = 0 then t0 else if 1 + 2 * k = 21 then o else if 1 + 2 * k = 22 then te else if (1 + 2 * k) % 2 = 1 then adK ((1 + 2 * k - 1) / 2) else adV ((1 + 2 * k - 2) / 2)) = adK k := by
      rw [if_neg (by omega), if_neg (by omega), if_neg (by omega), if_pos (by omega), show (1 + 2 * k - 1) / 2 = k by omega]
    show vk_R _ _ _ (if 1 + 2 * k = 0 then _ else _) _
    rw [h7]
    have h8 := hev k hk
    rw [f2] at h8
    exact vk_R.of (hts _ f1) h8
set_option maxHeartbeats 4000000 in
set_option maxRecDepth 100000 in
theorem l_start (HG : l_Goal) {p : Program} {e : Env} {s : State} {m : MethodId} {below : List Frame} {meth : Method} {c : Code} (l : Launch) (hflags : l.flags = flags0) {b L : Nat} {xs : Nat → Int32} (hL : L ≤ 260) (C0 : lw_At p s m meth c b L xs) : W p l e room_1 s m #[Value.ref b] below meth c s.heap [] 0 0 (lw_Z below #[Value.ref b] s) (entryFrame m ([Value.ref b] : List Value).toArray 22) := by
  obtain ⟨hx, hb, hr, hml, hown, hts0, hX, hbl, hlocks, hgv⟩ := C0
  obtain ⟨h, hfin, hcb, hsb⟩ := HG L xs hL
  obtain ⟨n, hrun⟩ := (j_fin_some _).mp hfin
  have hcnt := j_run_cnt (fun k as h z hz => c_call_cnt hz) hrun
  have hts := lw_tb2_ok hts0
  have hwords : ∀ w ∈ lwW, w.before #[Value.ref b] s = true := fun w hw => hts w (List.mem_filter.mp hw).1
  have hA : ∀ a : Nat, a < s.heap.size → ¬ s_A s.heap.size a := fun a ha h1 => absurd h1 (Nat.not_le.mpr ha)
  have hs := flat_of_before _ hgv
  obtain ⟨t0, hev, hT⟩ := va_Tof (args := #[Value.ref b]) (s := s) (tm := .static "WholePacks" "TENS" "[I") (ty := .int) (N := 6) (f := fun j => .int (s_tn j)) (A := s_A s.heap.size) (by decide) (hs _ (by decide +kernel)) (va_eqt (hs _ (by decide +kernel))) (fun j hj => l_tens j hj hgv) hA
  have hZ := va_Zof (A := s_A s.heap.size) (hts _ (j_any_mem j_lays)) (hts (.initialized "WholePacks") (by decide +kernel)) hev hA
  obtain ⟨tt, htt, hRK⟩ := l_RK hts hgv t0
  rw [← htt] at hT hZ
  have hS : va_T .int b L (fun j => .int (xs j)) (s_A s.heap.size) s s.heap := by
    obtain ⟨scr, h1, h2, h3, h4, h5⟩ := hX
    exact ⟨scr, h1, h2, h3, Nat.le_of_eq h4.symm, by rw [h4], h5, hA b hbl⟩
  have hRO : s_RO b tt L s.heap.size xs s s.heap := by
    refine ⟨hS, by omega, hT, hZ, fun t ht => ?_, fun t ht => ?_, fun t ht => ?_, ⟨va_AOA.of (hts _ (j_any_mem j_over)), hRK⟩, Nat.le_refl _⟩
    · have h1 := List.all_eq_true.mp j_fn_ok t ht
      unfold j_fnk at h1
      split at h1
      · simp only [Bool.and_eq_true] at h1
        exact va_Nw.of rfl (hts _ (List.mem_of_getElem? (of_decide_eq_true h1.2.2)))
      · cases h1
    · exact va_Nw.of rfl (hts _ (List.mem_of_getElem? (of_decide_eq_true (List.all_eq_true.mp j_fsn_ok t ht))))
    · exact va_Nw.of rfl (hts _ (List.mem_of_getElem? (of_decide_eq_true (List.all_eq_true.mp j_mn_ok t ht))))
  have hk : ∀ k : Nat, ∃ (cC : ClassId) (iS : Nat → Nat), ∀ r : vw_C, vwCl[k]? = some r → u_Kn s r.1 r.2.1 r.2.2 cC iS := by
    intro k
    cases hr : vwCl[k]? with
    | none => exact ⟨0, fun _ => 0, fun r h => by cases h⟩
    | some r =>
      obtain ⟨z1, z2, z3, z4, z5, z6, z7, z8⟩ := s_cl hr
      obtain ⟨cC, iS, h1⟩ := u_known (ws := lwW) hwords z1 (hwords _ z6)
      exact ⟨cC, iS, fun r2 h2 => by cases h2; exact h1⟩
  obtain ⟨D, hK⟩ : ∃ D : va_G, va_K D vwCl [] s := ⟨(fun k => (hk k).choose, fun k => (hk k).choose_spec.choose), fun k r h => (hk k).choose_spec.choose_spec r h, fun k q h => by simp at h⟩
  have hq : j_meth[271]? = some (yL_law, cL_law, 22, some .boolean, 13, 1, 1) := rfl
  have hC : s_C p s m #[Value.ref b] meth c room_1 (yL_law, cL_law, 22, some .boolean, 13, 1, 1) b tt L s.heap.size xs 22 := by
    have hkd : ((yL_law, cL_law, 22, some FieldType.boolean, 13, 1, 1) : j_M).2.2.2.2.2.1 = 2 → meth.name = "<init>" := fun h1 => absurd h1 (by decide)
    have h40 : 40 ≤ room_1.locals := by decide
    have h41 : 1 ≤ room_1.frames := by decide
    exact ⟨hx, hb, hml, hown, fun w h1 _ => hts w h1, hkd, h40, h41, hRO⟩
  rw [lg_entry_eq]
  have hv := lv_entry [.ref b] (n := 22) (Nat.le_of_ble_eq_true rfl)
  have h0w : s_w b tt L xs [] (l_h0 L xs) [] := by
    refine ⟨rfl, rfl, ⟨rfl, fun i hi => rfl⟩, ⟨rfl, fun i hi => rfl⟩, fun k q h => by simp at h, fun q hq => ?_, by show 2 ≤ 1000000; omega, fun a i g1 g2 => ?_⟩
    · rcases List.mem_cons.mp hq with rfl | hq
      · show L ≤ 100000
        omega
      · cases List.mem_singleton.mp hq
        show 6 ≤ 100000
        omega
    · show (if a = 0 then (xs i).toInt else if a = 1 then (s_tn i).toInt else if 1000000 ≤ a then s_kb a i else 0) = _
      rw [if_neg (by omega), if_neg (by omega), if_pos g1]
  have hsl0 : s_sl (l_h0 L xs) = L + 6 := by simp [s_sl, l_h0]
  refine s_run (y := 271) (d := 10) (z := (some (jI 1), h)) (zc := h.1.length) (zs := s_sl h) (mc := h.1.length - 2) (ms := s_sl h - (L + 6)) (ρ0 := fun _ => none) (D := D) (by unfold j_spc; decide) hC hq ⟨by decide, by decide⟩ ?_ ?_ rfl rfl (s_main l D b tt L s.heap.size xs 10) ?_ ?_ ?_ ?_ n 0 _ [] (l_h0 L xs) hrun rfl s.heap [] 0 0 [] [] _ (some (.ref b) :: List.replicate 21 none) [] ⟨h0w, fun k q h => by simp at h, hK, ⟨fun i j p q h => by simp at h, fun k q h => by simp at h⟩, va_S.rf⟩ (fun a q h => by cases h) ⟨⟨b, rfl, rfl⟩, trivial⟩ hv trivial ?_ ?_
  · have hrc : 200000 ≤ room_1.cells := Nat.le_of_ble_eq_true rfl
    show h.1.length - 2 ≤ room_1.cells
    omega
  · have hrs : 2000000 ≤ room_1.slots := Nat.le_of_ble_eq_true rfl
    show s_sl h - (L + 6) ≤ room_1.slots
    omega
  · intro pc H locs cells slots ws1 tys1 lsR v hdg hr1 hS1 hx1 ho hc hs1
    obtain ⟨n1, e1, e2⟩ := ho
    cases e1
    have hv1 : v = 1 := Int32.toInt_inj.mp e2
    subst hv1
    refine va_forget (fun q hq => hS1.2.2.2.2.2.2 q hq) (W.widen (k := room_1.cells) (n := room_1.slots) (by have hrc : 200000 ≤ room_1.cells := Nat.le_of_ble_eq_true rfl; omega) (by have hrs : 2000000 ≤ room_1.slots := Nat.le_of_ble_eq_true rfl; omega) ?_)
    exact lw_ret hx hb hr hlocks hdg
  · intro pc H locs cells slots ws1 tys1 lsR v hdg hr1
    exact absurd hr1 (by decide)
  · intro pc H locs cells slots ws1 tys1 lsR v hdg hr1
    exact absurd hr1 (by decide)
  · intro pc H locs cells slots ws1 tys1 lsR hdg hr1
    exact absurd hr1 (by decide)
  · have := hcnt.1
    have h2 : (l_h0 L xs).1.length = 2 := rfl
    simp only [h2] at this ⊢
    omega
  · have := hcnt.2
    rw [hsl0] at this ⊢
    simp only at this
    omega
