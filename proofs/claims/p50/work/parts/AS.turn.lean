/-! The law's walk: the rule that a text makes; three turns (pc 105 to 812). -/
/-- told of the row behind a text that is read -/
theorem rd_C {n T : Nat} {co g S φ : Nat → Int} {so bd : Int} (hn : n ≤ 4) (hT : T < 3) (h : lC n co T g) : lC n co (T + 1) (rdG g (ruS S φ so bd) 1) ∧ rdG g (ruS S φ so bd) 1 (12 + 7 * T) = so ∧ rdG g (ruS S φ so bd) 1 (13 + 7 * T) = bd ∧ ∀ p : Nat, p < 5 → rdG g (ruS S φ so bd) 1 (14 + 7 * T + p) = φ p := by
  obtain ⟨h0, h1, h4, h5, h6, h7⟩ := h
  have k : ∀ z : Nat, ¬ (z = 1 ∨ 12 ≤ z ∧ z < 68) → rdG g (ruS S φ so bd) 1 z = g z := fun z hz => rdG_ne (by omega) hz 1 (by omega)
  have e := rd_1 (g := g) (S := S) (φ := φ) (so := so) (bd := bd) (by omega) (by omega)
  rw [show (g 1).toNat = T by omega] at e
  refine ⟨⟨(k 0 (by omega)).trans h0, ?_, (k 4 (by omega)).trans h4, (k 5 (by omega)).trans h5, (k 6 (by omega)).trans h6, fun p hp => (k _ (by omega)).trans (h7 p hp)⟩, e⟩
  rw [rdG_1 (by omega), h1]
  rfl
theorem Q96t {L : j_B} {xs : Nat → Int32} {g : Nat → Int} {q : Option (Nat → Int)} {t : Nat → Int} {N : Nat} {m : j_M0} (w : Rel xs g q t N m) {r k : Nat} (g1 : (r : Int) < g 1) (g2 : (k : Int) ≤ g 0 + 1) : c_call 10 96 [jR 2, jI (r : Int), jI (k : Int)] (hH L m) = some (some (jI (1000 + g (12 + 7 * r + k))), hH L m) := by
  have n := RQ_n w
  have q1 := RQ_136 (L := L) (d := 8) w (r : Int) (m' := m) rfl
  have e1 : m 6 r = g (12 + 7 * r) ∧ m 7 r = g (13 + 7 * r) := w.2.2.2.1.1.2.2.2.2.1 r (by omega)
  have r1 := w.2.1.2.2.2.2.2.1 r (by omega)
  have rg : -99 ≤ g (12 + 7 * r + k) ∧ g (12 + 7 * r + k) ≤ 999 := by
    rcases Nat.lt_or_ge k 2 with h | h
    · rcases Nat.lt_or_ge k 1 with h' | h'
      · rw [show 12 + 7 * r + k = 12 + 7 * r by omega]; omega
      · rw [show 12 + 7 * r + k = 13 + 7 * r by omega]; omega
    · have := w.2.1.2.2.2.2.2.2 r (k - 2) (by omega) (by omega)
      rw [show 14 + 7 * r + (k - 2) = 12 + 7 * r + k by omega] at this
      omega
  refine ((E96 (d := 9)).trans ?_)
  rw [T96_0, q1]
  simp only [Option.bind_some, Option.toList_some, List.cons_append, List.nil_append]
  rw [bI_t (by omega), T96_5, if_neg (by decide), if_neg (by omega), n.2.2.2.2.1, w32_id (x := g 0 + 1) (by omega) (by omega), if_neg (by omega)]
  by_cases a1 : (k : Int) = 0
  · rw [if_pos a1, if_pos (by omega), Int.toNat_natCast, e1.1, w32_id (by omega) (by omega), show 12 + 7 * r + k = 12 + 7 * r by omega, Int.add_comm]
  · rw [if_neg a1]
    by_cases a2 : (k : Int) = 1
    · rw [if_pos a2, if_pos (by omega), Int.toNat_natCast, e1.2, w32_id (by omega) (by omega), show 12 + 7 * r + k = 13 + 7 * r by omega, Int.add_comm]
    · have e2 : m 8 (5 * r + (k - 2)) = g (14 + 7 * r + (k - 2)) := w.2.2.2.1.1.2.2.2.2.2 r (k - 2) (by omega) (by omega)
      rw [if_neg a2, w32_id (x := (k : Int) - 2) (by omega) (by omega), Q11_4 (d := 8) (x := (r : Int)) (p := (k : Int) - 2) (by omega) (by omega) (by omega) (by omega), Int.toNat_natCast, show ((k : Int) - 2).toNat = k - 2 by omega, e2, show 14 + 7 * r + (k - 2) = 12 + 7 * r + k by omega]
      simp only [Option.bind_some, Option.toList_some, List.cons_append, List.nil_append]
      rw [T96_87, w32_id (by omega) (by omega), Int.add_comm]
theorem Q96s {L : j_B} {xs : Nat → Int32} {g : Nat → Int} {q : Option (Nat → Int)} {t : Nat → Int} {N : Nat} {m : j_M0} (w : Rel xs g q t N m) {r k : Nat} {x v : Int} (g1 : (r : Int) < g 1) (g2 : (k : Int) ≤ g 0 + 1) (hx : x = (k : Int)) (hv : g (12 + 7 * r + k) = v) : c_call 10 96 [jR 2, jI (r : Int), jI x] (hH L m) = some (some (jI (1000 + v)), hH L m) := by
  rw [hx, ← hv]
  exact Q96t w g1 g2
theorem L_759 {Ls : Nat} {xs : Nat → Int32} {A n T F U : Nat} {Q e bd wr : Int} {g t φ : Nat → Int} {B : j_B} {m : j_M0} {d14 d15 : Option j_V} (n14 : nL d14) (n15 : nL d15) (hn : 2 ≤ n ∧ n ≤ 4) (hT : T < 3) (r : Rel xs g none t 0 m) (hg0 : g 0 = n) (hg1 : g 1 = ((T + 1 : Nat) : Int)) (hφ : ∀ p : Nat, p < 5 → g (14 + 7 * T + p) = φ p) (h9 : ∀ p : Nat, p < 4 → -9 ≤ φ p ∧ φ p ≤ 9) (cF : aI (hH B m) F 4 φ) : ∀ (j k : Nat), k + j = n → lG Ls (j_fin (c_call 10) 271 105 [some (jR 0), some (jR 2), some (jI Q), some (jI (n : Int)), some (jI 1), some (jR A), some (jI (((T + 1 : Nat) : Int))), some (jI (((T + 1 : Nat) : Int))), some (jI e), some (jR F), some (jR U), some (jI bd), some (jI wr), some (jI (n : Int)), d14, d15, none, none, none, none, none, none] [] (hH B m)) → lG Ls (j_fin (c_call 10) 271 759 [some (jR 0), some (jR 2), some (jI Q), some (jI (n : Int)), some (jI 1), some (jR A), some (jI (T : Int)), some (jI (T : Int)), some (jI e), some (jR F), some (jR U), some (jI bd), some (jI wr), some (jI (k : Int)), d14, d15, none, none, none, none, none, none] [] (hH B m)) := by
  intro j
  induction j with
  | zero =>
    intro k hk K
    rw [show (k : Int) = (n : Int) by omega]
    refine gS (S_iload rfl at_271_759) ?_
    refine gS (S_iload_n rfl at_271_761) ?_
    refine gS (S_icmp_ge at_271_762) ?_
    refine gS (if_neg (by omega)) ?_
    refine gS (S_iinc (l1 := [some (jR 0), some (jR 2), some (jI Q), some (jI (n : Int)), some (jI 1), some (jR A), some (jI (w32 ((T : Int) + 1))), some (jI (T : Int)), some (jI e), some (jR F), some (jR U), some (jI bd), some (jI wr), some (jI (n : Int)), d14, d15, none, none, none, none, none, none]) rfl rfl at_271_803) ?_
    rw [show w32 ((T : Int) + 1) = ((T + 1 : Nat) : Int) from nat1 (by omega)]
    refine gS (S_iinc (l1 := [some (jR 0), some (jR 2), some (jI Q), some (jI (n : Int)), some (jI 1), some (jR A), some (jI (((T + 1 : Nat) : Int))), some (jI (w32 ((T : Int) + 1))), some (jI e), some (jR F), some (jR U), some (jI bd), some (jI wr), some (jI (n : Int)), d14, d15, none, none, none, none, none, none]) rfl rfl at_271_806) ?_
    rw [show w32 ((T : Int) + 1) = ((T + 1 : Nat) : Int) from nat1 (by omega)]
    refine gS (S_goto at_271_809) ?_
    exact K
  | succ j ih =>
    intro k hk K
    have K1 := ih (k + 1) (by omega) K
    have f9 := h9 k (by omega)
    have hw : w32 (1000 + φ k) = 1000 + φ k := w32_id (by omega) (by omega)
    have hk2 : w32 (2 + (k : Int)) = ((2 + k : Nat) : Int) := by
      rw [w32_id (by omega) (by omega)]
      omega
    have e1 : c_call 10 96 [jR 2, jI (T : Int), jI ((2 + k : Nat) : Int)] (hH B m) = some (some (jI (1000 + φ k)), hH B m) := Q96s r (k := 2 + k) (by omega) (by omega) rfl (by
      rw [show 12 + 7 * T + (2 + k) = 14 + 7 * T + k by omega]
      exact hφ k (by omega))
    refine gS (S_iload rfl at_271_759) ?_
    refine gS (S_iload_n rfl at_271_761) ?_
    refine gS (S_icmp_ge at_271_762) ?_
    refine gS (if_pos (by omega)) ?_
    refine gS (S_iload rfl at_271_765) ?_
    refine gS (S_aload_n rfl at_271_767) ?_
    refine gS (S_iload rfl at_271_768) ?_
    refine gS (S_iconst at_271_770) ?_
    refine gS (S_iload rfl at_271_771) ?_
    refine gS (S_iadd at_271_773) ?_
    rw [show w32 (2 + (k : Int)) = ((2 + k : Nat) : Int) from hk2]
    refine gS (S_invv (b := 2) (by decide) kn_96 rfl (kd_2 B m) (Nat.le_of_ble_eq_true rfl) at_271_774) ?_
    show lG Ls (((c_call 10) 96 [jR 2, jI (T : Int), jI (((2 + k : Nat) : Int))] (hH B m)).bind _)
    rw [e1]
    show lG Ls (j_fin (c_call 10) 271 777 [some (jR 0), some (jR 2), some (jI Q), some (jI (n : Int)), some (jI 1), some (jR A), some (jI (T : Int)), some (jI (T : Int)), some (jI e), some (jR F), some (jR U), some (jI bd), some (jI wr), some (jI (k : Int)), d14, d15, none, none, none, none, none, none] [jI (1000 + φ k), jI 1] (hH B m))
    refine gS (S_sipush at_271_777) ?_
    refine gS (S_aload rfl at_271_780) ?_
    refine gS (S_iload rfl at_271_782) ?_
    refine gS (S_iaload (aI_1 cF) at_271_784) ?_
    refine gS (if_pos ⟨by omega, by omega⟩) ?_
    rw [show (hH B m).2.2 F (k : Int).toNat = φ k from cF.2 k (by omega)]
    refine gS (S_iadd at_271_785) ?_
    rw [show w32 (1000 + (φ k)) = 1000 + φ k from hw]
    refine gS (S_icmp_ne at_271_786) ?_
    refine gS (if_pos rfl) ?_
    refine gS (S_iconst at_271_789) ?_
    refine gS (S_goto at_271_790) ?_
    refine gS (S_iand at_271_794) ?_
    rw [j_and11]
    refine gS (S_istore (l1 := [some (jR 0), some (jR 2), some (jI Q), some (jI (n : Int)), some (jI 1), some (jR A), some (jI (T : Int)), some (jI (T : Int)), some (jI e), some (jR F), some (jR U), some (jI bd), some (jI wr), some (jI (k : Int)), d14, d15, none, none, none, none, none, none]) rfl at_271_795) ?_
    refine gS (S_iinc (l1 := [some (jR 0), some (jR 2), some (jI Q), some (jI (n : Int)), some (jI 1), some (jR A), some (jI (T : Int)), some (jI (T : Int)), some (jI e), some (jR F), some (jR U), some (jI bd), some (jI wr), some (jI (w32 ((k : Int) + 1))), d14, d15, none, none, none, none, none, none]) rfl rfl at_271_797) ?_
    rw [show w32 ((k : Int) + 1) = ((k + 1 : Nat) : Int) from nat1 (by omega)]
    refine gS (S_goto at_271_800) ?_
    exact K1
set_option maxHeartbeats 1000000 in
theorem T_674 {Ls : Nat} {xs : Nat → Int32} {A n T F U V bu : Nat} {Q e : Int} {co g t φ : Nat → Int} {s : List Int} {B : j_B} {m : j_M0} {cm bd wr : Int} {d13 d14 d15 : Option j_V} {vv : Nat} (n13 : nL d13) (n14 : nL d14) (n15 : nL d15) (w : lJ bu B m) (r : Rel xs g none t 0 m) (hT : T < 3) (hC : lC n co T g) (hn : 2 ≤ n ∧ n ≤ 4) (hF : 114 ≤ F ∧ F < 200000) (ht : sT (hH B m) U V (wcF s cm bd)) (hU : 114 ≤ U) (hV : 114 ≤ V) (hl13 : (wcF s cm bd).length ≤ 13) (hsu : suP n s φ vv) (hs0 : s ≠ []) (hcm0 : cm = 62 ∧ j_and (j_shr e 28) 1 = 0 ∨ cm = 60 ∧ ¬ j_and (j_shr e 28) 1 = 0) (hbd : -99 ≤ bd ∧ bd ≤ 99) (h9 : ∀ p : Nat, p < 4 → -9 ≤ φ p ∧ φ p ≤ 9) (cA : aI (hH B m) A 4 co) (cF : aI (hH B m) F 4 φ) (hA : 114 ≤ A)
  (K : ∀ (mn : j_M0) (gn tn : Nat → Int), lJ bu B mn → Rel xs gn none tn 0 mn → lC n co (T + 1) gn → aI (hH B mn) A 4 co → lG Ls (j_fin (c_call 10) 271 105 [some (jR 0), some (jR 2), some (jI Q), some (jI (n : Int)), some (jI 1), some (jR A), some (jI (((T + 1 : Nat) : Int))), some (jI (((T + 1 : Nat) : Int))), some (jI e), some (jR F), some (jR U), some (jI bd), some (jI wr), some (jI (n : Int)), d14, d15, none, none, none, none, none, none] [] (hH B mn))) : lG Ls (j_fin (c_call 10) 271 674 [some (jR 0), some (jR 2), some (jI Q), some (jI (n : Int)), some (jI 1), some (jR A), some (jI (T : Int)), some (jI (T : Int)), some (jI e), some (jR F), some (jR U), some (jI bd), some (jI wr), d13, d14, d15, none, none, none, none, none, none] [] (hH B m)) := by
  obtain ⟨m1, f1, r1, q1⟩ := R309 (L := B) r ht hU hV (by omega)
  have hcm : cm = 62 ∨ cm = 60 := hcm0.imp (fun h => h.1) (fun h => h.1)
  have hn' : (g 0).toNat = n := by have := hC.1; omega
  have al := alF_1 (n := n) (S := fun _ => 0) hsu hs0 hcm hbd
  have e2 := PB95 (L := B) r1 (txO_s ht (by omega)) (fun _ => 0) (by rw [hn', al]) (by rw [hn', al, hC.2.1]; show (T : Int) + 1 ≤ 8; omega)
  rw [hn', al] at e2
  obtain ⟨m2, g1, r2, q2⟩ := e2
  have g1 : c_call 10 95 [jR 2] (hH B m1) = some (some (jI 1), hH B m2) := g1
  have r2 : Rel xs (rdG g (ruS (fun _ => 0) φ (if cm = 62 then 0 else 1) bd) 1) none (teF (wcF s cm bd)) 0 m2 := r2
  obtain ⟨C1, C2, C3, C4⟩ := rd_C (S := fun _ => 0) (φ := φ) (so := if cm = 62 then 0 else 1) (bd := bd) hn.2 hT hC
  have qq : ∀ b z, 114 ≤ b → m2 b z = m b z := fun b z h => (q2 b z h).trans (q1 b z h)
  have C1a := C1.1
  have C1b := C1.2.1
  have K0 := K m2 _ _ (lJ_k w qq) r2 C1 (aI_k cA (fun z => qq _ z hA))
  have K1 := L_759 (Q := Q) (e := e) (bd := bd) (wr := wr) (A := A) (U := U) n14 n15 hn hT r2 C1.1 C1.2.1 C4 h9 (aI_k cF (fun z => qq _ z hF.1)) n 0 (by omega) K0
  have hw : w32 (1000 + bd) = 1000 + bd := w32_id (by omega) (by omega)
  rcases hcm0 with ⟨hcm, h28⟩ | ⟨hcm, h28⟩
  · skip
    have so : (if cm = 62 then (0 : Int) else 1) = 0 := by rw [hcm]; decide
    have C2 := C2.trans so
    have u0 : c_call 10 96 [jR 2, jI (T : Int), jI 0] (hH B m2) = some (some (jI 1000), hH B m2) := Q96s r2 (k := 0) (v := 0) (by omega) (by omega) rfl (by
      rw [Nat.add_zero]
      exact C2)
    have u1 : c_call 10 96 [jR 2, jI (T : Int), jI 1] (hH B m2) = some (some (jI (1000 + bd)), hH B m2) := Q96s r2 (k := 1) (by omega) (by omega) rfl (by
      rw [show 12 + 7 * T + 1 = 13 + 7 * T by omega]
      exact C3)
    refine gS (S_iload rfl at_271_674) ?_
    refine gS (S_aload_n rfl at_271_676) ?_
    refine gS (S_aload rfl at_271_677) ?_
    refine gS (S_invs (by decide) (Nat.le_of_ble_eq_true rfl) (Nat.le_of_ble_eq_true rfl) at_271_679) ?_
    show lG Ls (((c_call 10) 309 [jR 2, jR U] (hH B m)).bind _)
    rw [f1]
    show lG Ls (j_fin (c_call 10) 271 682 [some (jR 0), some (jR 2), some (jI Q), some (jI (n : Int)), some (jI 1), some (jR A), some (jI (T : Int)), some (jI (T : Int)), some (jI e), some (jR F), some (jR U), some (jI bd), some (jI wr), d13, d14, d15, none, none, none, none, none, none] [jI 1, jI 1] (hH B m1))
    refine gS (S_if_eq at_271_682) ?_
    refine gS (if_neg (by decide)) ?_
    refine gS (S_aload_n rfl at_271_685) ?_
    refine gS (S_invv (b := 0) (by decide) kn_95 rfl (kd_2 B m1) (Nat.le_of_ble_eq_true rfl) at_271_686) ?_
    show lG Ls (((c_call 10) 95 [jR 2] (hH B m1)).bind _)
    rw [g1]
    show lG Ls (j_fin (c_call 10) 271 689 [some (jR 0), some (jR 2), some (jI Q), some (jI (n : Int)), some (jI 1), some (jR A), some (jI (T : Int)), some (jI (T : Int)), some (jI e), some (jR F), some (jR U), some (jI bd), some (jI wr), d13, d14, d15, none, none, none, none, none, none] [jI 1, jI 1] (hH B m2))
    refine gS (S_iconst at_271_689) ?_
    refine gS (S_icmp_ne at_271_690) ?_
    refine gS (if_pos (by decide)) ?_
    refine gS (S_iconst at_271_693) ?_
    refine gS (S_goto at_271_694) ?_
    refine gS (S_iand at_271_698) ?_
    rw [j_and11]
    refine gS (S_istore (l1 := [some (jR 0), some (jR 2), some (jI Q), some (jI (n : Int)), some (jI 1), some (jR A), some (jI (T : Int)), some (jI (T : Int)), some (jI e), some (jR F), some (jR U), some (jI bd), some (jI wr), d13, d14, d15, none, none, none, none, none, none]) rfl at_271_699) ?_
    refine gS (S_iload rfl at_271_701) ?_
    refine gS (S_aload_n rfl at_271_703) ?_
    refine gS (S_iload rfl at_271_704) ?_
    refine gS (S_iconst at_271_706) ?_
    refine gS (S_invv (b := 2) (by decide) kn_96 rfl (kd_2 B m2) (Nat.le_of_ble_eq_true rfl) at_271_707) ?_
    show lG Ls (((c_call 10) 96 [jR 2, jI (T : Int), jI 0] (hH B m2)).bind _)
    rw [u0]
    show lG Ls (j_fin (c_call 10) 271 710 [some (jR 0), some (jR 2), some (jI Q), some (jI (n : Int)), some (jI 1), some (jR A), some (jI (T : Int)), some (jI (T : Int)), some (jI e), some (jR F), some (jR U), some (jI bd), some (jI wr), d13, d14, d15, none, none, none, none, none, none] [jI 1000, jI 1] (hH B m2))
    refine gS (S_iload rfl at_271_710) ?_
    refine gS (S_bipush at_271_712) ?_
    refine gS (S_ishr at_271_714) ?_
    refine gS (S_iconst at_271_715) ?_
    refine gS (S_iand at_271_716) ?_
    refine gS (S_if_ne at_271_717) ?_
    refine gS (if_pos h28) ?_
    refine gS (S_sipush at_271_720) ?_
    refine gS (S_goto at_271_723) ?_
    refine gS (S_icmp_ne at_271_729) ?_
    refine gS (if_pos (by decide)) ?_
    refine gS (S_aload_n rfl at_271_732) ?_
    refine gS (S_iload rfl at_271_733) ?_
    refine gS (S_iconst at_271_735) ?_
    refine gS (S_invv (b := 2) (by decide) kn_96 rfl (kd_2 B m2) (Nat.le_of_ble_eq_true rfl) at_271_736) ?_
    show lG Ls (((c_call 10) 96 [jR 2, jI (T : Int), jI 1] (hH B m2)).bind _)
    rw [u1]
    show lG Ls (j_fin (c_call 10) 271 739 [some (jR 0), some (jR 2), some (jI Q), some (jI (n : Int)), some (jI 1), some (jR A), some (jI (T : Int)), some (jI (T : Int)), some (jI e), some (jR F), some (jR U), some (jI bd), some (jI wr), d13, d14, d15, none, none, none, none, none, none] [jI (1000 + bd), jI 1] (hH B m2))
    refine gS (S_sipush at_271_739) ?_
    refine gS (S_iload rfl at_271_742) ?_
    refine gS (S_iadd at_271_744) ?_
    rw [show w32 (1000 + bd) = 1000 + bd from hw]
    refine gS (S_icmp_ne at_271_745) ?_
    refine gS (if_pos rfl) ?_
    refine gS (S_iconst at_271_748) ?_
    refine gS (S_goto at_271_749) ?_
    refine gS (S_iand at_271_753) ?_
    rw [j_and11]
    refine gS (S_istore (l1 := [some (jR 0), some (jR 2), some (jI Q), some (jI (n : Int)), some (jI 1), some (jR A), some (jI (T : Int)), some (jI (T : Int)), some (jI e), some (jR F), some (jR U), some (jI bd), some (jI wr), d13, d14, d15, none, none, none, none, none, none]) rfl at_271_754) ?_
    refine gS (S_iconst at_271_756) ?_
    refine gS (S_istore (l1 := [some (jR 0), some (jR 2), some (jI Q), some (jI (n : Int)), some (jI 1), some (jR A), some (jI (T : Int)), some (jI (T : Int)), some (jI e), some (jR F), some (jR U), some (jI bd), some (jI wr), some (jI 0), d14, d15, none, none, none, none, none, none]) rfl at_271_757) ?_
    exact K1
  · skip
    have so : (if cm = 62 then (0 : Int) else 1) = 1 := by rw [hcm]; decide
    have C2 := C2.trans so
    have u0 : c_call 10 96 [jR 2, jI (T : Int), jI 0] (hH B m2) = some (some (jI 1001), hH B m2) := Q96s r2 (k := 0) (v := 1) (by omega) (by omega) rfl (by
      rw [Nat.add_zero]
      exact C2)
    have u1 : c_call 10 96 [jR 2, jI (T : Int), jI 1] (hH B m2) = some (some (jI (1000 + bd)), hH B m2) := Q96s r2 (k := 1) (by omega) (by omega) rfl (by
      rw [show 12 + 7 * T + 1 = 13 + 7 * T by omega]
      exact C3)
    refine gS (S_iload rfl at_271_674) ?_
    refine gS (S_aload_n rfl at_271_676) ?_
    refine gS (S_aload rfl at_271_677) ?_
    refine gS (S_invs (by decide) (Nat.le_of_ble_eq_true rfl) (Nat.le_of_ble_eq_true rfl) at_271_679) ?_
    show lG Ls (((c_call 10) 309 [jR 2, jR U] (hH B m)).bind _)
    rw [f1]
    show lG Ls (j_fin (c_call 10) 271 682 [some (jR 0), some (jR 2), some (jI Q), some (jI (n : Int)), some (jI 1), some (jR A), some (jI (T : Int)), some (jI (T : Int)), some (jI e), some (jR F), some (jR U), some (jI bd), some (jI wr), d13, d14, d15, none, none, none, none, none, none] [jI 1, jI 1] (hH B m1))
    refine gS (S_if_eq at_271_682) ?_
    refine gS (if_neg (by decide)) ?_
    refine gS (S_aload_n rfl at_271_685) ?_
    refine gS (S_invv (b := 0) (by decide) kn_95 rfl (kd_2 B m1) (Nat.le_of_ble_eq_true rfl) at_271_686) ?_
    show lG Ls (((c_call 10) 95 [jR 2] (hH B m1)).bind _)
    rw [g1]
    show lG Ls (j_fin (c_call 10) 271 689 [some (jR 0), some (jR 2), some (jI Q), some (jI (n : Int)), some (jI 1), some (jR A), some (jI (T : Int)), some (jI (T : Int)), some (jI e), some (jR F), some (jR U), some (jI bd), some (jI wr), d13, d14, d15, none, none, none, none, none, none] [jI 1, jI 1] (hH B m2))
    refine gS (S_iconst at_271_689) ?_
    refine gS (S_icmp_ne at_271_690) ?_
    refine gS (if_pos (by decide)) ?_
    refine gS (S_iconst at_271_693) ?_
    refine gS (S_goto at_271_694) ?_
    refine gS (S_iand at_271_698) ?_
    rw [j_and11]
    refine gS (S_istore (l1 := [some (jR 0), some (jR 2), some (jI Q), some (jI (n : Int)), some (jI 1), some (jR A), some (jI (T : Int)), some (jI (T : Int)), some (jI e), some (jR F), some (jR U), some (jI bd), some (jI wr), d13, d14, d15, none, none, none, none, none, none]) rfl at_271_699) ?_
    refine gS (S_iload rfl at_271_701) ?_
    refine gS (S_aload_n rfl at_271_703) ?_
    refine gS (S_iload rfl at_271_704) ?_
    refine gS (S_iconst at_271_706) ?_
    refine gS (S_invv (b := 2) (by decide) kn_96 rfl (kd_2 B m2) (Nat.le_of_ble_eq_true rfl) at_271_707) ?_
    show lG Ls (((c_call 10) 96 [jR 2, jI (T : Int), jI 0] (hH B m2)).bind _)
    rw [u0]
    show lG Ls (j_fin (c_call 10) 271 710 [some (jR 0), some (jR 2), some (jI Q), some (jI (n : Int)), some (jI 1), some (jR A), some (jI (T : Int)), some (jI (T : Int)), some (jI e), some (jR F), some (jR U), some (jI bd), some (jI wr), d13, d14, d15, none, none, none, none, none, none] [jI 1001, jI 1] (hH B m2))
    refine gS (S_iload rfl at_271_710) ?_
    refine gS (S_bipush at_271_712) ?_
    refine gS (S_ishr at_271_714) ?_
    refine gS (S_iconst at_271_715) ?_
    refine gS (S_iand at_271_716) ?_
    refine gS (S_if_ne at_271_717) ?_
    refine gS (if_neg h28) ?_
    refine gS (S_sipush at_271_726) ?_
    refine gS (S_icmp_ne at_271_729) ?_
    refine gS (if_pos (by decide)) ?_
    refine gS (S_aload_n rfl at_271_732) ?_
    refine gS (S_iload rfl at_271_733) ?_
    refine gS (S_iconst at_271_735) ?_
    refine gS (S_invv (b := 2) (by decide) kn_96 rfl (kd_2 B m2) (Nat.le_of_ble_eq_true rfl) at_271_736) ?_
    show lG Ls (((c_call 10) 96 [jR 2, jI (T : Int), jI 1] (hH B m2)).bind _)
    rw [u1]
    show lG Ls (j_fin (c_call 10) 271 739 [some (jR 0), some (jR 2), some (jI Q), some (jI (n : Int)), some (jI 1), some (jR A), some (jI (T : Int)), some (jI (T : Int)), some (jI e), some (jR F), some (jR U), some (jI bd), some (jI wr), d13, d14, d15, none, none, none, none, none, none] [jI (1000 + bd), jI 1] (hH B m2))
    refine gS (S_sipush at_271_739) ?_
    refine gS (S_iload rfl at_271_742) ?_
    refine gS (S_iadd at_271_744) ?_
    rw [show w32 (1000 + bd) = 1000 + bd from hw]
    refine gS (S_icmp_ne at_271_745) ?_
    refine gS (if_pos rfl) ?_
    refine gS (S_iconst at_271_748) ?_
    refine gS (S_goto at_271_749) ?_
    refine gS (S_iand at_271_753) ?_
    rw [j_and11]
    refine gS (S_istore (l1 := [some (jR 0), some (jR 2), some (jI Q), some (jI (n : Int)), some (jI 1), some (jR A), some (jI (T : Int)), some (jI (T : Int)), some (jI e), some (jR F), some (jR U), some (jI bd), some (jI wr), d13, d14, d15, none, none, none, none, none, none]) rfl at_271_754) ?_
    refine gS (S_iconst at_271_756) ?_
    refine gS (S_istore (l1 := [some (jR 0), some (jR 2), some (jI Q), some (jI (n : Int)), some (jI 1), some (jR A), some (jI (T : Int)), some (jI (T : Int)), some (jI e), some (jR F), some (jR U), some (jI bd), some (jI wr), some (jI 0), d14, d15, none, none, none, none, none, none]) rfl at_271_757) ?_
    exact K1
set_option maxHeartbeats 1000000 in
theorem T_105 {Ls : Nat} {xs : Nat → Int32} {A n T bu : Nat} {Q : Int} {co g t : Nat → Int} {B : j_B} {m : j_M0} {d8 d9 d10 d11 d12 d13 d14 d15 : Option j_V} (n8 : nL d8) (n9 : nL d9) (n10 : nL d10) (n11 : nL d11) (n12 : nL d12) (n13 : nL d13) (n14 : nL d14) (n15 : nL d15) (hn : 2 ≤ n ∧ n ≤ 4) (hA : 114 ≤ A ∧ A < 200000) (hT : T < 3) (w : lJ bu B m) (hbu : bu ≤ 4000) (r : Rel xs g none t 0 m) (hC : lC n co T g) (cA : aI (hH B m) A 4 co)
  (K : ∀ (Bn : j_B) (mn : j_M0) (gn tn : Nat → Int) (d8 d9 d10 d11 d12 d13 d14 d15 : Option j_V), nL d8 → nL d9 → nL d10 → nL d11 → nL d12 → nL d13 → nL d14 → nL d15 → Bn.1 = B.1 → lJ (bu + 100) Bn mn → Rel xs gn none tn 0 mn → lC n co (T + 1) gn → aI (hH Bn mn) A 4 co → lG Ls (j_fin (c_call 10) 271 105 [some (jR 0), some (jR 2), some (jI Q), some (jI (n : Int)), some (jI 1), some (jR A), some (jI (((T + 1 : Nat) : Int))), some (jI (((T + 1 : Nat) : Int))), d8, d9, d10, d11, d12, d13, d14, d15, none, none, none, none, none, none] [] (hH Bn mn))) : lG Ls (j_fin (c_call 10) 271 105 [some (jR 0), some (jR 2), some (jI Q), some (jI (n : Int)), some (jI 1), some (jR A), some (jI (T : Int)), some (jI (T : Int)), d8, d9, d10, d11, d12, d13, d14, d15, none, none, none, none, none, none] [] (hH B m)) := by
  obtain ⟨e, he⟩ : ∃ e, c_call 10 308 [jR 0, jI (w32 (1 + (T : Int)))] (hH B m) = some (some (jI e), hH B m) := ⟨_, R308 (d := 9) (by rw [w32_id (by omega) (by omega)]; omega)⟩
  obtain ⟨B1, m1, F, n2, hF, hF2, n1, b1, w1, q1, x1, cF⟩ := arr_new (n := 4) w (by omega) (by omega)
  have lA := aI_lt cA
  have cA1 := aI_x x1 cA (fun h => h)
  have r1 : Rel xs g none t 0 m1 := RQ_low r q1
  have h1 : tF n F A co 0 B1 m1 1000000 1000001 [] (fun _ => 0) := ⟨cA1, cF, lJ_t w1 0 (by omega) _ _ _ rfl rfl tx_0, by omega, Or.inl ⟨rfl, fun _ => rfl⟩, Nat.le_refl _, fun h => absurd h (Nat.lt_irrefl 0), fun _ _ => ⟨by show (-9 : Int) ≤ 0; decide, by show (0 : Int) ≤ 9; decide⟩⟩
  have K1 := L_133 (Ls := Ls) (Q := Q) (e := e) (T := T) hn ⟨hF, hF2⟩ (by omega : A ≠ F) 3 0 (by omega) B1 m1 (bu + 1) _ _ _ _ d12 d13 d14 d15 n12 n13 n14 n15 w1 (by omega) r1 h1 (fun B2 m2 U V s φ e12 e13 e14 e15 k12 k13 k14 k15 b2 w2 r2 h2 => by
    obtain ⟨cA2, cF2, t2, hV2, su, sl, sn, s9⟩ := h2
    have s0 : s ≠ [] := sn (by omega)
    refine T_373 (xs := xs) (co := co) (g := g) (t := t) (φ := φ) k12 k13 k14 k15 w2 (by omega) t2 hV2 sl (fun B3 m3 U2 V2 cm bd wr f13 f14 f15 j13 j14 j15 b3 w3 q3 x3 t3 hU3 hV3 l13 hcm hb hw => ?_)
    have hcm' : cm = 62 ∨ cm = 60 := hcm.imp (fun h => h.1) (fun h => h.1)
    have r3 := RQ_low r2 q3
    have cA3 := aI_x x3 cA2 (fun h => h)
    have cF3 := aI_x x3 cF2 (fun h => h)
    by_cases hwr : wr = 0
    · subst hwr
      refine T_440 (co := co) j13 j14 j15 w3 (by omega) r3 hC.1 hC.2.1 hn t3 hU3 hV3 l13 su s0 hcm' (by omega) (fun B4 m4 tn f13 j13 b4 w4 r4 x4 => ?_)
      have t4 : sT (hH B4 m4) U2 V2 (wcF s cm bd) := sT_x x4 (lJ_hw w3) (by have := lJ_hl w4; omega) t3 (by omega) (by omega)
      refine T_674 j13 j14 j15 w4 r4 hT hC hn ⟨hF, hF2⟩ t4 hU3 hV3 l13 su s0 hcm (by omega) s9 (aI_x x4 cA3 (by omega)) (aI_x x4 cF3 (by omega)) hA.1 (fun m5 gn tn w5 r5 C5 cA5 => ?_)
      exact K B4 m5 gn tn _ _ _ _ _ _ _ _ (nL_i _) (nL_r _) (nL_r _) (nL_i _) (nL_i _) (nL_i _) j14 j15 (b4.trans (b3.trans (b2.trans b1))) (lJ_w w5 (by omega)) r5 C5 cA5
    · have K2 : lG Ls (j_fin (c_call 10) 271 674 [some (jR 0), some (jR 2), some (jI Q), some (jI (n : Int)), some (jI 1), some (jR A), some (jI (T : Int)), some (jI (T : Int)), some (jI e), some (jR F), some (jR U2), some (jI bd), some (jI wr), f13, f14, f15, none, none, none, none, none, none] [] (hH B3 m3)) := T_674 j13 j14 j15 w3 r3 hT hC hn ⟨hF, hF2⟩ t3 hU3 hV3 l13 su s0 hcm (by omega) s9 cA3 cF3 hA.1 (fun m5 gn tn w5 r5 C5 cA5 => K B3 m5 gn tn _ _ _ _ _ _ _ _ (nL_i _) (nL_r _) (nL_r _) (nL_i _) (nL_i _) (nL_i _) j14 j15 (b3.trans (b2.trans b1)) (lJ_w w5 (by omega)) r5 C5 cA5)
      refine gS (S_iload rfl at_271_440) ?_
      refine gS (S_if_ne at_271_442) ?_
      refine gS (if_neg hwr) ?_
      exact K2)
  refine gS (S_iload rfl at_271_105) ?_
  refine gS (S_iconst at_271_107) ?_
  refine gS (S_icmp_ge at_271_108) ?_
  refine gS (if_pos (by omega)) ?_
  refine gS (S_aload_n rfl at_271_111) ?_
  refine gS (S_iconst at_271_112) ?_
  refine gS (S_iload rfl at_271_113) ?_
  refine gS (S_iadd at_271_115) ?_
  refine gS (S_invs (by decide) (Nat.le_of_ble_eq_true rfl) (Nat.le_of_ble_eq_true rfl) at_271_116) ?_
  show lG Ls (((c_call 10) 308 [jR 0, jI (w32 (1 + (T : Int)))] (hH B m)).bind _)
  rw [he]
  show lG Ls (j_fin (c_call 10) 271 119 [some (jR 0), some (jR 2), some (jI Q), some (jI (n : Int)), some (jI 1), some (jR A), some (jI (T : Int)), some (jI (T : Int)), d8, d9, d10, d11, d12, d13, d14, d15, none, none, none, none, none, none] [jI e] (hH B m))
  refine gS (S_istore (l1 := [some (jR 0), some (jR 2), some (jI Q), some (jI (n : Int)), some (jI 1), some (jR A), some (jI (T : Int)), some (jI (T : Int)), some (jI e), d9, d10, d11, d12, d13, d14, d15, none, none, none, none, none, none]) rfl at_271_119) ?_
  refine gS (S_iconst at_271_121) ?_
  refine gS (S_newarr (arr_ok w (by decide) (by omega)) at_271_122) ?_
  show lG Ls (j_fin (c_call 10) 271 124 [some (jR 0), some (jR 2), some (jI Q), some (jI (n : Int)), some (jI 1), some (jR A), some (jI (T : Int)), some (jI (T : Int)), some (jI e), d9, d10, d11, d12, d13, d14, d15, none, none, none, none, none, none] [jR ((hH B m).1.length)] ((j_new (hH B m) 32 4)))
  rw [n1, n2]
  refine gS (S_astore (l1 := [some (jR 0), some (jR 2), some (jI Q), some (jI (n : Int)), some (jI 1), some (jR A), some (jI (T : Int)), some (jI (T : Int)), some (jI e), some (jR F), d10, d11, d12, d13, d14, d15, none, none, none, none, none, none]) rfl at_271_124) ?_
  refine gS (S_ldcT rfl at_271_126) ?_
  show lG Ls (j_fin (c_call 10) 271 128 [some (jR 0), some (jR 2), some (jI Q), some (jI (n : Int)), some (jI 1), some (jR A), some (jI (T : Int)), some (jI (T : Int)), some (jI e), some (jR F), d10, d11, d12, d13, d14, d15, none, none, none, none, none, none] [jR 1000000] (hH B1 m1))
  refine gS (S_astore (l1 := [some (jR 0), some (jR 2), some (jI Q), some (jI (n : Int)), some (jI 1), some (jR A), some (jI (T : Int)), some (jI (T : Int)), some (jI e), some (jR F), some (jR 1000000), d11, d12, d13, d14, d15, none, none, none, none, none, none]) rfl at_271_128) ?_
  refine gS (S_iconst at_271_130) ?_
  refine gS (S_istore (l1 := [some (jR 0), some (jR 2), some (jI Q), some (jI (n : Int)), some (jI 1), some (jR A), some (jI (T : Int)), some (jI (T : Int)), some (jI e), some (jR F), some (jR 1000000), some (jI 0), d12, d13, d14, d15, none, none, none, none, none, none]) rfl at_271_131) ?_
  exact K1
theorem L_105 {Ls : Nat} {xs : Nat → Int32} {A n : Nat} {Q : Int} {co : Nat → Int} (hn : 2 ≤ n ∧ n ≤ 4) (hA : 114 ≤ A ∧ A < 200000) : ∀ (j T : Nat), T + j = 3 → ∀ (B : j_B) (m : j_M0) (bu : Nat) (g t : Nat → Int) (d8 d9 d10 d11 d12 d13 d14 d15 : Option j_V), nL d8 → nL d9 → nL d10 → nL d11 → nL d12 → nL d13 → nL d14 → nL d15 → lJ bu B m → bu ≤ 1000 + 100 * T → Rel xs g none t 0 m → lC n co T g → aI (hH B m) A 4 co → (∀ (Bn : j_B) (mn : j_M0) (gn tn : Nat → Int) (d8 d9 d10 d11 d12 d13 d14 d15 : Option j_V), nL d8 → nL d9 → nL d10 → nL d11 → nL d12 → nL d13 → nL d14 → nL d15 → Bn.1 = B.1 → lJ 2000 Bn mn → Rel xs gn none tn 0 mn → lC n co 3 gn → aI (hH Bn mn) A 4 co → lG Ls (j_fin (c_call 10) 271 812 [some (jR 0), some (jR 2), some (jI Q), some (jI (n : Int)), some (jI 1), some (jR A), some (jI (((3 : Nat) : Int))), some (jI (((3 : Nat) : Int))), d8, d9, d10, d11, d12, d13, d14, d15, none, none, none, none, none, none] [] (hH Bn mn))) → lG Ls (j_fin (c_call 10) 271 105 [some (jR 0), some (jR 2), some (jI Q), some (jI (n : Int)), some (jI 1), some (jR A), some (jI (T : Int)), some (jI (T : Int)), d8, d9, d10, d11, d12, d13, d14, d15, none, none, none, none, none, none] [] (hH B m)) := by
  intro j
  induction j with
  | zero =>
    intro T hk B m bu g t d8 d9 d10 d11 d12 d13 d14 d15 n8 n9 n10 n11 n12 n13 n14 n15 w hbu r hC cA K
    obtain rfl : T = 3 := by omega
    have K1 := K B m g t d8 d9 d10 d11 d12 d13 d14 d15 n8 n9 n10 n11 n12 n13 n14 n15 rfl (lJ_w w (by omega)) r hC cA
    refine gS (S_iload rfl at_271_105) ?_
    refine gS (S_iconst at_271_107) ?_
    refine gS (S_icmp_ge at_271_108) ?_
    refine gS (if_neg (by omega)) ?_
    exact K1
  | succ j ih =>
    intro T hk B m bu g t d8 d9 d10 d11 d12 d13 d14 d15 n8 n9 n10 n11 n12 n13 n14 n15 w hbu r hC cA K
    refine T_105 n8 n9 n10 n11 n12 n13 n14 n15 hn hA (by omega) w (by omega) r hC cA (fun Bn mn gn tn e8 e9 e10 e11 e12 e13 e14 e15 m8 m9 m10 m11 m12 m13 m14 m15 b1 w1 r1 C1 cA1 => ?_)
    refine ih (T + 1) (by omega) Bn mn (bu + 100) gn tn e8 e9 e10 e11 e12 e13 e14 e15 m8 m9 m10 m11 m12 m13 m14 m15 w1 (by omega) r1 C1 cA1 (fun Bq mq gq tq c8 c9 c10 c11 c12 c13 c14 c15 k8 k9 k10 k11 k12 k13 k14 k15 b2 w2 r2 C2 cA2 => ?_)
    exact K Bq mq gq tq c8 c9 c10 c11 c12 c13 c14 c15 k8 k9 k10 k11 k12 k13 k14 k15 (b2.trans b1) w2 r2 C2 cA2
