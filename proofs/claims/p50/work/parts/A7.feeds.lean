/-! The law's cell; feeds. -/
/-- a cell's bits stirred by its place -/
def ceS (v i : Int) : Int := (j_xor (w32 ((j_xor (w32 ((w32 (69069 * (w32 (v + (w32 (1009 * i)))))) + 12345)) (j_ushr (w32 ((w32 (69069 * (w32 (v + (w32 (1009 * i)))))) + 12345)) 13)) * 1103515245)) (j_ushr (w32 ((j_xor (w32 ((w32 (69069 * (w32 (v + (w32 (1009 * i)))))) + 12345)) (j_ushr (w32 ((w32 (69069 * (w32 (v + (w32 (1009 * i)))))) + 12345)) 13)) * 1103515245)) 16))
def ceC (L : j_B) (m : j_M0) (i : Int) : Int := ceS (if i < (L.1 : Int) then m 0 i.toNat else 0) i
theorem R308 {d : Nat} {L : j_B} {m : j_M0} {i : Int} (h0 : 0 ≤ i) : c_call (d + 1) 308 [jR 0, jI i] (hH L m) = some (some (jI (ceC L m i)), hH L m) := by
  refine E308.trans ?_
  unfold ceC ceS
  by_cases hi : i < (L.1 : Int)
  · rw [if_pos hi]
    refine (S_ldc rfl at_308_0).trans ?_
    refine (S_iload_n rfl at_308_2).trans ?_
    refine (S_aload_n rfl at_308_3).trans ?_
    refine (S_alen (kd_0 L m) (by decide) at_308_4).trans ?_
    refine (S_icmp_ge at_308_5).trans ?_
    refine (if_pos hi).trans ?_
    refine (S_aload_n rfl at_308_8).trans ?_
    refine (S_iload_n rfl at_308_9).trans ?_
    refine (S_iaload (ka_0 L m) at_308_10).trans ?_
    refine (if_pos ⟨h0, hi⟩).trans ?_
    refine (S_goto at_308_11).trans ?_
    refine (S_sipush at_308_15).trans ?_
    refine (S_iload_n rfl at_308_18).trans ?_
    refine (S_imul at_308_19).trans ?_
    refine (S_iadd at_308_20).trans ?_
    refine (S_imul at_308_21).trans ?_
    refine (S_sipush at_308_22).trans ?_
    refine (S_iadd at_308_25).trans ?_
    refine (S_istore_n (l1 := [some (jR 0), some (jI i), some (jI (w32 ((w32 (69069 * (w32 (((hH L m).2.2 0 i.toNat) + (w32 (1009 * i)))))) + 12345)))]) rfl at_308_26).trans ?_
    refine (S_iload_n rfl at_308_27).trans ?_
    refine (S_iload_n rfl at_308_28).trans ?_
    refine (S_bipush at_308_29).trans ?_
    refine (S_iushr at_308_31).trans ?_
    refine (S_ixor at_308_32).trans ?_
    refine (S_ldc rfl at_308_33).trans ?_
    refine (S_imul at_308_35).trans ?_
    refine (S_istore_n (l1 := [some (jR 0), some (jI i), some (jI (w32 ((j_xor (w32 ((w32 (69069 * (w32 (((hH L m).2.2 0 i.toNat) + (w32 (1009 * i)))))) + 12345)) (j_ushr (w32 ((w32 (69069 * (w32 (((hH L m).2.2 0 i.toNat) + (w32 (1009 * i)))))) + 12345)) 13)) * 1103515245)))]) rfl at_308_36).trans ?_
    refine (S_iload_n rfl at_308_37).trans ?_
    refine (S_iload_n rfl at_308_38).trans ?_
    refine (S_bipush at_308_39).trans ?_
    refine (S_iushr at_308_41).trans ?_
    refine (S_ixor at_308_42).trans ?_
    exact S_ireti rfl at_308_43
  · rw [if_neg hi]
    refine (S_ldc rfl at_308_0).trans ?_
    refine (S_iload_n rfl at_308_2).trans ?_
    refine (S_aload_n rfl at_308_3).trans ?_
    refine (S_alen (kd_0 L m) (by decide) at_308_4).trans ?_
    refine (S_icmp_ge at_308_5).trans ?_
    refine (if_neg hi).trans ?_
    refine (S_iconst at_308_14).trans ?_
    refine (S_sipush at_308_15).trans ?_
    refine (S_iload_n rfl at_308_18).trans ?_
    refine (S_imul at_308_19).trans ?_
    refine (S_iadd at_308_20).trans ?_
    refine (S_imul at_308_21).trans ?_
    refine (S_sipush at_308_22).trans ?_
    refine (S_iadd at_308_25).trans ?_
    refine (S_istore_n (l1 := [some (jR 0), some (jI i), some (jI (w32 ((w32 (69069 * (w32 (0 + (w32 (1009 * i)))))) + 12345)))]) rfl at_308_26).trans ?_
    refine (S_iload_n rfl at_308_27).trans ?_
    refine (S_iload_n rfl at_308_28).trans ?_
    refine (S_bipush at_308_29).trans ?_
    refine (S_iushr at_308_31).trans ?_
    refine (S_ixor at_308_32).trans ?_
    refine (S_ldc rfl at_308_33).trans ?_
    refine (S_imul at_308_35).trans ?_
    refine (S_istore_n (l1 := [some (jR 0), some (jI i), some (jI (w32 ((j_xor (w32 ((w32 (69069 * (w32 (0 + (w32 (1009 * i)))))) + 12345)) (j_ushr (w32 ((w32 (69069 * (w32 (0 + (w32 (1009 * i)))))) + 12345)) 13)) * 1103515245)))]) rfl at_308_36).trans ?_
    refine (S_iload_n rfl at_308_37).trans ?_
    refine (S_iload_n rfl at_308_38).trans ?_
    refine (S_bipush at_308_39).trans ?_
    refine (S_iushr at_308_41).trans ?_
    refine (S_ixor at_308_42).trans ?_
    exact S_ireti rfl at_308_43
theorem sT_k {L : j_B} {m m' : j_M0} {a b : Nat} {s : List Int} (w : sT (hH L m) a b s) (ha : 114 ≤ a) (hb : 114 ≤ b) (k : ∀ c z, 114 ≤ c → m' c z = m c z) : sT (hH L m') a b s :=
  ⟨w.1, w.2.1, w.2.2.1, (k _ _ ha).trans w.2.2.2.1, fun i hi => (k _ _ hb).trans (w.2.2.2.2.1 i hi), w.2.2.2.2.2.1, w.2.2.2.2.2.2⟩
theorem RQ_t {xs : Nat → Int32} {g : Nat → Int} {q : Option (Nat → Int)} {t t' : Nat → Int} {N : Nat} {m : j_M0} (w : Rel xs g q t N m) (k : ∀ i : Nat, i < N → t i = t' i) : Rel xs g q t' N m := ⟨w.1, w.2.1, w.2.2.1, w.2.2.2.1, w.2.2.2.2.1, ⟨w.2.2.2.2.2.1.1, fun i hi => (w.2.2.2.2.2.1.2 i hi).trans (k i hi)⟩, w.2.2.2.2.2.2⟩
/-- a text's letters -/
def teF (s : List Int) : Nat → Int := fun i => s.getD i 0
theorem L309 {L : j_B} {xs : Nat → Int32} {g : Nat → Int} {q : Option (Nat → Int)} {a b : Nat} {s : List Int} (ha : 114 ≤ a) (hb : 114 ≤ b) (h80 : s.length ≤ 80) : ∀ j k : Nat, k + j = s.length → ∀ m : j_M0, Rel xs g q (teF s) k m → sT (hH L m) a b s → ∃ m', j_fin (c_call 9) 309 4 [some (jR 2), some (jR a), some (jI 1), some (jI (k : Int))] [] (hH L m) = some (some (jI 1), hH L m') ∧ Rel xs g q (teF s) s.length m' ∧ ∀ c z, 114 ≤ c → m' c z = m c z := by
  intro j
  induction j with
  | zero =>
    intro k hk m r w
    refine ⟨m, ?_, by rw [show s.length = k by omega]; exact r, fun _ _ _ => rfl⟩
    refine (S_iload_n rfl at_309_4).trans ?_
    refine (S_aload_n rfl at_309_5).trans ?_
    refine (S_invv (b := 0) (by decide) kn_279 rfl w.1 (Nat.le_of_ble_eq_true rfl) at_309_6).trans ?_
    show (((c_call 9) 279 [jR a] (hH L m)).bind _) = _
    rw [R279 (d := 7) w]
    show j_fin (c_call 9) 309 9 [some (jR 2), some (jR a), some (jI 1), some (jI (k : Int))] [jI (s.length : Int), jI (k : Int)] (hH L m) = _
    refine (S_icmp_ge at_309_9).trans ?_
    refine (if_neg (by omega)).trans ?_
    refine (S_iload_n rfl at_309_41).trans ?_
    refine (S_iretz rfl at_309_42).trans ?_
    exact if_pos (by decide)
  | succ j ih =>
    intro k hk m r w
    have hr : 0 ≤ s.getD k 0 ∧ s.getD k 0 ≤ 127 := by
      rw [List.getD_eq_getElem?_getD, List.getElem?_eq_getElem (by omega)]
      exact w.2.2.2.2.2.1 _ (List.getElem_mem (by omega))
    obtain ⟨m1, e1, r1, f1⟩ := PB94 (L := L) (d := 8) r hr (by omega)
    have r2 : Rel xs g q (teF s) (k + 1) m1 := RQ_t r1 (fun i hi => by
      show (if i = k then s.getD k 0 else teF s i) = _
      by_cases e : i = k
      · rw [if_pos e, e]
        rfl
      · rw [if_neg e])
    obtain ⟨m2, e2, r3, f2⟩ := ih (k + 1) (by omega) m1 r2 (sT_k w ha hb f1)
    refine ⟨m2, ?_, r3, fun c z h => (f2 c z h).trans (f1 c z h)⟩
    refine (S_iload_n rfl at_309_4).trans ?_
    refine (S_aload_n rfl at_309_5).trans ?_
    refine (S_invv (b := 0) (by decide) kn_279 rfl w.1 (Nat.le_of_ble_eq_true rfl) at_309_6).trans ?_
    show (((c_call 9) 279 [jR a] (hH L m)).bind _) = _
    rw [R279 (d := 7) w]
    show j_fin (c_call 9) 309 9 [some (jR 2), some (jR a), some (jI 1), some (jI (k : Int))] [jI (s.length : Int), jI (k : Int)] (hH L m) = _
    refine (S_icmp_ge at_309_9).trans ?_
    refine (if_pos (by omega)).trans ?_
    refine (S_iload_n rfl at_309_12).trans ?_
    refine (S_aload_n rfl at_309_13).trans ?_
    refine (S_aload_n rfl at_309_14).trans ?_
    refine (S_iload_n rfl at_309_15).trans ?_
    refine (S_invv (b := 1) (by decide) kn_272 rfl w.1 (Nat.le_of_ble_eq_true rfl) at_309_16).trans ?_
    show (((c_call 9) 272 [jR a, jI (k : Int)] (hH L m)).bind _) = _
    rw [R272 (d := 5) w (by omega)]
    show j_fin (c_call 9) 309 19 [some (jR 2), some (jR a), some (jI 1), some (jI (k : Int))] [jI (s.getD k 0), jR 2, jI 1] (hH L m) = _
    refine (S_invv (b := 1) (by decide) kn_94 rfl (kd_2 L m) (Nat.le_of_ble_eq_true rfl) at_309_19).trans ?_
    show (((c_call 9) 94 [jR 2, jI (s.getD k 0)] (hH L m)).bind _) = _
    rw [e1]
    show j_fin (c_call 9) 309 22 [some (jR 2), some (jR a), some (jI 1), some (jI (k : Int))] [jI (((k + 1 : Nat) : Int)), jI 1] (hH L m1) = _
    refine (S_iload_n rfl at_309_22).trans ?_
    refine (S_iconst at_309_23).trans ?_
    refine (S_iadd at_309_24).trans ?_
    refine (S_icmp_ne at_309_25).trans ?_
    refine (if_pos (nat1 (by omega)).symm).trans ?_
    refine (S_iconst at_309_28).trans ?_
    refine (S_goto at_309_29).trans ?_
    refine (S_iand at_309_33).trans ?_
    refine (S_istore_n (l1 := [some (jR 2), some (jR a), some (jI (j_and 1 1)), some (jI (k : Int))]) rfl at_309_34).trans ?_
    refine (S_iinc (l1 := [some (jR 2), some (jR a), some (jI (j_and 1 1)), some (jI (w32 ((k : Int) + 1)))]) rfl rfl at_309_35).trans ?_
    refine (S_goto at_309_38).trans ?_
    rw [show j_and 1 1 = 1 from by decide, nat1 (by omega)]
    exact e2
/-- a text is fed: every letter counts -/
theorem R309 {L : j_B} {xs : Nat → Int32} {g : Nat → Int} {q : Option (Nat → Int)} {t : Nat → Int} {m : j_M0} {a b : Nat} {s : List Int} (r : Rel xs g q t 0 m) (w : sT (hH L m) a b s) (ha : 114 ≤ a) (hb : 114 ≤ b) (h80 : s.length ≤ 80) : ∃ m', c_call 10 309 [jR 2, jR a] (hH L m) = some (some (jI 1), hH L m') ∧ Rel xs g q (teF s) s.length m' ∧ ∀ c z, 114 ≤ c → m' c z = m c z := by
  obtain ⟨m', e, r1, f⟩ := L309 (L := L) ha hb h80 s.length 0 (by omega) m (RQ_t r (fun i hi => absurd hi (Nat.not_lt_zero i))) w
  refine ⟨m', E309.trans ?_, r1, f⟩
  refine (S_iconst at_309_0).trans ?_
  refine (S_istore_n (l1 := [some (jR 2), some (jR a), some (jI 1), none]) rfl at_309_1).trans ?_
  refine (S_iconst at_309_2).trans ?_
  refine (S_istore_n (l1 := [some (jR 2), some (jR a), some (jI 1), some (jI 0)]) rfl at_309_3).trans ?_
  exact e
