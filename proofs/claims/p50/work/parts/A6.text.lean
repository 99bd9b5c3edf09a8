/-! Texts: what they hold; length, charAt. The law's cell. -/
theorem ml_272 : j_ml 272 = 2 := by decide +kernel
theorem E272 {d : Nat} {h : j_H} {a0 : Nat} {x1 : Int} : c_call (d + 1) 272 [jR a0, jI x1] h = j_fin (c_call d) 272 0 [some (jR a0), some (jI x1)] [] h := (E_of ml_272 (Nat.le_of_ble_eq_true rfl)).trans rfl
theorem ml_273 : j_ml 273 = 2 := by decide +kernel
theorem E273 {d : Nat} {h : j_H} {x0 : Int} {x1 : Int} : c_call (d + 1) 273 [jI x0, jI x1] h = j_fin (c_call d) 273 0 [some (jI x0), some (jI x1)] [] h := (E_of ml_273 (Nat.le_of_ble_eq_true rfl)).trans rfl
theorem ml_274 : j_ml 274 = 1 := by decide +kernel
theorem E274 {d : Nat} {h : j_H} {a0 : Nat} : c_call (d + 1) 274 [jR a0] h = j_fin (c_call d) 274 0 [some (jR a0)] [] h := (E_of ml_274 (Nat.le_of_ble_eq_true rfl)).trans rfl
theorem ml_278 : j_ml 278 = 1 := by decide +kernel
theorem E278 {d : Nat} {h : j_H} {a0 : Nat} : c_call (d + 1) 278 [jR a0] h = j_fin (c_call d) 278 0 [some (jR a0)] [] h := (E_of ml_278 (Nat.le_of_ble_eq_true rfl)).trans rfl
theorem ml_279 : j_ml 279 = 1 := by decide +kernel
theorem E279 {d : Nat} {h : j_H} {a0 : Nat} : c_call (d + 1) 279 [jR a0] h = j_fin (c_call d) 279 0 [some (jR a0)] [] h := (E_of ml_279 (Nat.le_of_ble_eq_true rfl)).trans rfl
theorem ml_281 : j_ml 281 = 2 := by decide +kernel
theorem E281 {d : Nat} {h : j_H} {a0 : Nat} {x1 : Int} : c_call (d + 1) 281 [jR a0, jI x1] h = j_fin (c_call d) 281 0 [some (jR a0), some (jI x1)] [] h := (E_of ml_281 (Nat.le_of_ble_eq_true rfl)).trans rfl
theorem ml_308 : j_ml 308 = 3 := by decide +kernel
theorem E308 {d : Nat} {h : j_H} {a0 : Nat} {x1 : Int} : c_call (d + 1) 308 [jR a0, jI x1] h = j_fin (c_call d) 308 0 [some (jR a0), some (jI x1), none] [] h := (E_of ml_308 (Nat.le_of_ble_eq_true rfl)).trans rfl
theorem ml_309 : j_ml 309 = 4 := by decide +kernel
theorem E309 {d : Nat} {h : j_H} {a0 : Nat} {a1 : Nat} : c_call (d + 1) 309 [jR a0, jR a1] h = j_fin (c_call d) 309 0 [some (jR a0), some (jR a1), none, none] [] h := (E_of ml_309 (Nat.le_of_ble_eq_true rfl)).trans rfl
theorem ml_282 : j_ml 282 = 3 := by decide +kernel
theorem E282 {d : Nat} {h : j_H} {x0 x1 : Int} : c_call (d + 1) 282 [jI x0, jI x1] h = j_fin (c_call d) 282 0 [some (jI x0), some (jI x1), none] [] h := (E_of ml_282 (Nat.le_of_ble_eq_true rfl)).trans rfl
/-- a text at a, its bytes at b -/
def sT (h : j_H) (a b : Nat) (s : List Int) : Prop := j_kd h a = some (0, 4) ∧ j_rk1 h a 0 = some b ∧ j_kd h b = some (34, s.length) ∧ h.2.2 a 1 = 0 ∧ (∀ i : Nat, i < s.length → h.2.2 b i = s.getD i 0) ∧ (∀ x ∈ s, 0 ≤ x ∧ x ≤ 127) ∧ s.length ≤ 1000
theorem j_shr_0 (x : Int) (h : -2147483648 ≤ x ∧ x ≤ 2147483647) : j_shr x 0 = x := by
  unfold j_shr
  rw [show (Int32.ofInt 0 &&& 31) = 0 from by decide, Int32.shiftRight_zero, Int32.toInt_ofInt]
  have e : ((Int32.size : Nat) : Int) = 4294967296 := rfl
  exact Int.bmod_eq_of_le (by omega) (by omega)
theorem R274 {d a n : Nat} {h : j_H} (k1 : j_kd h a = some (0, n)) (k2 : h.2.2 a 1 = 0) : c_call (d + 1) 274 [jR a] h = some (some (jI 0), h) := by
  refine E274.trans (Eq.trans ?_ (show some (some (jI (h.2.2 a 1)), h) = _ by rw [k2]))
  refine (S_getsI rfl at_274_0).trans ?_
  refine (S_if_eq at_274_3).trans ?_
  refine (if_neg (by decide)).trans ?_
  refine (S_aload_n rfl at_274_6).trans ?_
  refine (S_getK2 k1 (by decide) rfl at_274_7).trans ?_
  refine (S_goto at_274_10).trans ?_
  exact S_iretb rfl (by rw [k2]; decide) at_274_14
theorem R278 {d a n : Nat} {h : j_H} (k1 : j_kd h a = some (0, n)) (k2 : h.2.2 a 1 = 0) : c_call (d + 1) 278 [jR a] h = some (some (jI 1), h) := by
  refine E278.trans ?_
  refine (S_getsI rfl at_278_0).trans ?_
  refine (S_if_eq at_278_3).trans ?_
  refine (if_neg (by decide)).trans ?_
  refine (S_aload_n rfl at_278_6).trans ?_
  refine (S_getK2 k1 (by decide) rfl at_278_7).trans ?_
  refine (S_if_ne at_278_10).trans ?_
  refine (if_pos k2).trans ?_
  refine (S_iconst at_278_13).trans ?_
  refine (S_goto at_278_14).trans ?_
  refine (S_iretz rfl at_278_18).trans ?_
  exact if_pos (by decide)
theorem R279 {d a b : Nat} {h : j_H} {s : List Int} (w : sT h a b s) : c_call (d + 2) 279 [jR a] h = some (some (jI s.length), h) := by
  have h1 := w.2.2.2.2.2.2
  refine E279.trans (Eq.trans ?_ (show some (some (jI (j_shr (s.length : Int) 0)), h) = _ by rw [j_shr_0 _ (by omega)]))
  refine (S_aload_n rfl at_279_0).trans ?_
  refine (S_getKR w.1 (by decide) rfl w.2.1 at_279_1).trans ?_
  refine (S_alen w.2.2.1 (by decide) at_279_4).trans ?_
  refine (S_aload_n rfl at_279_5).trans ?_
  refine (S_invv (b := 0) (by decide) kn_274 rfl w.1 (Nat.le_of_ble_eq_true rfl) at_279_6).trans ?_
  show (((c_call (d + 1)) 274 [jR a] h).bind _) = _
  rw [R274 w.1 w.2.2.2.1]
  show j_fin (c_call (d + 1)) 279 9 [some (jR a)] [jI 0, jI (s.length : Int)] h = _
  refine (S_ishr at_279_9).trans ?_
  exact S_ireti rfl at_279_10
theorem R282 {d : Nat} {h : j_H} {x n : Int} (k : 0 ≤ x ∧ x < n) : c_call (d + 1) 282 [jI x, jI n] h = some (some (jI x), h) := by
  refine E282.trans ?_
  refine (S_iload_n rfl at_282_0).trans ?_
  refine (S_if_lt at_282_1).trans ?_
  refine (if_neg (by omega)).trans ?_
  refine (S_iload_n rfl at_282_4).trans ?_
  refine (S_iload_n rfl at_282_5).trans ?_
  refine (S_icmp_lt at_282_6).trans ?_
  refine (if_pos k.2).trans ?_
  refine (S_iload_n rfl at_282_16).trans ?_
  exact S_ireti rfl at_282_17
theorem R273 {d : Nat} {h : j_H} {x n : Int} (k : 0 ≤ x ∧ x < n) : c_call (d + 2) 273 [jI x, jI n] h = some (none, h) := by
  refine E273.trans ?_
  refine (S_iload_n rfl at_273_0).trans ?_
  refine (S_iload_n rfl at_273_1).trans ?_
  refine (S_goto at_273_2).trans ?_
  refine (S_invs (by decide) (Nat.le_of_ble_eq_true rfl) (Nat.le_of_ble_eq_true rfl) at_273_5).trans ?_
  show (((c_call (d + 1)) 282 [jI x, jI n] h).bind _) = _
  rw [R282 k]
  show j_fin (c_call (d + 1)) 273 8 [some (jI x), some (jI n)] [jI x] h = _
  refine (S_pop rfl at_273_8).trans ?_
  exact S_ret rfl at_273_9
theorem j_and_255 (x : Int) (h : 0 ≤ x ∧ x ≤ 127) : j_chr (j_and x 255) = x := by
  obtain ⟨k, rfl⟩ : ∃ k : Nat, x = k := ⟨x.toNat, by omega⟩
  have e : ∀ j : Nat, j < 128 → j_chr (j_and (j : Int) 255) = (j : Int) := by decide +kernel
  exact e k (by omega)
theorem R281 {d b n : Nat} {h : j_H} {i x : Int} (k1 : j_kd h b = some (34, n)) (k : 0 ≤ i ∧ i < (n : Int)) (k2 : h.2.2 b i.toNat = x) (k3 : 0 ≤ x ∧ x ≤ 127) : c_call (d + 3) 281 [jR b, jI i] h = some (some (jI x), h) := by
  refine E281.trans (Eq.trans ?_ (show some (some (jI (j_chr (j_and (h.2.2 b i.toNat) 255))), h) = _ by rw [k2, j_and_255 _ k3]))
  refine (S_iload_n rfl at_281_0).trans ?_
  refine (S_aload_n rfl at_281_1).trans ?_
  refine (S_alen k1 (by decide) at_281_2).trans ?_
  refine (S_invs (by decide) (Nat.le_of_ble_eq_true rfl) (Nat.le_of_ble_eq_true rfl) at_281_3).trans ?_
  show (((c_call (d + 2)) 273 [jI i, jI (n : Int)] h).bind _) = _
  rw [R273 k]
  show j_fin (c_call (d + 2)) 281 6 [some (jR b), some (jI i)] [] h = _
  refine (S_aload_n rfl at_281_6).trans ?_
  refine (S_iload_n rfl at_281_7).trans ?_
  refine (S_baload34 k1 at_281_8).trans ?_
  refine (if_pos k).trans ?_
  refine (S_sipush at_281_9).trans ?_
  refine (S_iand at_281_12).trans ?_
  refine (S_i2c at_281_13).trans ?_
  exact S_iretc rfl (by rw [k2, j_and_255 _ k3]; omega) at_281_14
theorem R272 {d a b i : Nat} {h : j_H} {s : List Int} (w : sT h a b s) (hi : i < s.length) : c_call (d + 4) 272 [jR a, jI i] h = some (some (jI (s.getD i 0)), h) := by
  have hr : 0 ≤ s.getD i 0 ∧ s.getD i 0 ≤ 127 := by
    rw [List.getD_eq_getElem?_getD, List.getElem?_eq_getElem hi]
    exact w.2.2.2.2.2.1 _ (List.getElem_mem hi)
  refine E272.trans ?_
  refine (S_aload_n rfl at_272_0).trans ?_
  refine (S_invv (b := 0) (by decide) kn_278 rfl w.1 (Nat.le_of_ble_eq_true rfl) at_272_1).trans ?_
  show (((c_call (d + 3)) 278 [jR a] h).bind _) = _
  rw [R278 w.1 w.2.2.2.1]
  show j_fin (c_call (d + 3)) 272 4 [some (jR a), some (jI (i : Int))] [jI 1] h = _
  refine (S_if_eq at_272_4).trans ?_
  refine (if_neg (by decide)).trans ?_
  refine (S_aload_n rfl at_272_7).trans ?_
  refine (S_getKR w.1 (by decide) rfl w.2.1 at_272_8).trans ?_
  refine (S_iload_n rfl at_272_11).trans ?_
  refine (S_invs (by decide) (Nat.le_of_ble_eq_true rfl) (Nat.le_of_ble_eq_true rfl) at_272_12).trans ?_
  show (((c_call (d + 3)) 281 [jR b, jI (i : Int)] h).bind _) = _
  rw [R281 (i := (i : Int)) (x := s.getD i 0) w.2.2.1 (by omega) (w.2.2.2.2.1 i hi) hr]
  show j_fin (c_call (d + 3)) 272 15 [some (jR a), some (jI (i : Int))] [jI (s.getD i 0)] h = _
  exact S_iretc rfl (by omega) at_272_15
