/-! Builders: room. -/
theorem ml_268 : j_ml 268 = 2 := by decide +kernel
theorem E268 {d : Nat} {h : j_H} {x0 : Int} {x1 : Int} : c_call (d + 1) 268 [jI x0, jI x1] h = j_fin (c_call d) 268 0 [some (jI x0), some (jI x1)] [] h := (E_of ml_268 (Nat.le_of_ble_eq_true rfl)).trans rfl
theorem ml_306 : j_ml 306 = 4 := by decide +kernel
theorem E306 {d : Nat} {h : j_H} {x0 : Int} {x1 : Int} {x2 : Int} : c_call (d + 1) 306 [jI x0, jI x1, jI x2] h = j_fin (c_call d) 306 0 [some (jI x0), some (jI x1), some (jI x2), none] [] h := (E_of ml_306 (Nat.le_of_ble_eq_true rfl)).trans rfl
theorem ml_307 : j_ml 307 = 2 := by decide +kernel
theorem E307 {d : Nat} {h : j_H} {x0 : Int} {x1 : Int} : c_call (d + 1) 307 [jI x0, jI x1] h = j_fin (c_call d) 307 0 [some (jI x0), some (jI x1)] [] h := (E_of ml_307 (Nat.le_of_ble_eq_true rfl)).trans rfl
theorem ml_298 : j_ml 298 = 6 := by decide +kernel
theorem E298 {d : Nat} {h : j_H} {a0 : Nat} {x1 : Int} : c_call (d + 1) 298 [jR a0, jI x1] h = j_fin (c_call d) 298 0 [some (jR a0), some (jI x1), none, none, none, none] [] h := (E_of ml_298 (Nat.le_of_ble_eq_true rfl)).trans rfl
theorem ml_305 : j_ml 305 = 3 := by decide +kernel
theorem E305 {d : Nat} {h : j_H} {a0 : Nat} {x1 : Int} : c_call (d + 1) 305 [jR a0, jI x1] h = j_fin (c_call d) 305 0 [some (jR a0), some (jI x1), none] [] h := (E_of ml_305 (Nat.le_of_ble_eq_true rfl)).trans rfl
theorem ml_292 : j_ml 292 = 3 := by decide +kernel
theorem E292 {d : Nat} {h : j_H} {a0 : Nat} {x1 : Int} : c_call (d + 1) 292 [jR a0, jI x1] h = j_fin (c_call d) 292 0 [some (jR a0), some (jI x1), none] [] h := (E_of ml_292 (Nat.le_of_ble_eq_true rfl)).trans rfl
theorem kn_268 : j_kn[268]? = some (14, 1, 2) := by decide +kernel
theorem at_268_0 : j_at 268 0 = some (.iload_n 0, 0, 0, 0) := by decide +kernel
theorem at_268_1 : j_at 268 1 = some (.iload_n 1, 0, 0, 0) := by decide +kernel
theorem at_268_2 : j_at 268 2 = some (.if_icmp .gt 7, 9, 0, 0) := by decide +kernel
theorem at_268_5 : j_at 268 5 = some (.iload_n 0, 0, 0, 0) := by decide +kernel
theorem at_268_6 : j_at 268 6 = some (.goto 4, 10, 0, 0) := by decide +kernel
theorem at_268_9 : j_at 268 9 = some (.iload_n 1, 0, 0, 0) := by decide +kernel
theorem at_268_10 : j_at 268 10 = some (.ireturn, 0, 0, 0) := by decide +kernel
theorem j_shl_0 (x : Int) (h : -2147483648 ≤ x ∧ x ≤ 2147483647) : j_shl x 0 = x := by
  unfold j_shl
  rw [show (Int32.ofInt 0 &&& 31) = 0 from by decide, Int32.shiftLeft_zero, Int32.toInt_ofInt]
  have e : ((Int32.size : Nat) : Int) = 4294967296 := rfl
  exact Int.bmod_eq_of_le (by omega) (by omega)
theorem R307a {d : Nat} {h : j_H} {x v : Int} (k : x < v) : c_call (d + 1) 307 [jI x, jI v] h = some (some (jI v), h) := by
  refine E307.trans ?_
  refine (S_iload_n rfl at_307_0).trans ?_
  refine (S_iload_n rfl at_307_1).trans ?_
  refine (S_icmp_lt at_307_2).trans ?_
  refine (if_pos k).trans ?_
  refine (S_iload_n rfl at_307_9).trans ?_
  exact S_ireti rfl at_307_10
theorem R268a {d : Nat} {h : j_H} {x v : Int} (k : x ≤ v) : c_call (d + 1) 268 [jI x, jI v] h = some (some (jI x), h) := by
  refine E268.trans ?_
  refine (S_iload_n rfl at_268_0).trans ?_
  refine (S_iload_n rfl at_268_1).trans ?_
  refine (S_icmp_gt at_268_2).trans ?_
  refine (if_neg (by omega)).trans ?_
  refine (S_iload_n rfl at_268_5).trans ?_
  refine (S_goto at_268_6).trans ?_
  exact S_ireti rfl at_268_10
theorem R306 {d : Nat} {h : j_H} {c0 x v : Int} (k : x < v) (hc : 0 ≤ c0 ∧ c0 ≤ 10000) (hv : 0 < v ∧ v ≤ 10000) : c_call (d + 2) 306 [jI c0, jI x, jI v] h = some (some (jI (c0 + v)), h) := by
  refine E306.trans ?_
  refine (S_iload_n rfl at_306_0).trans ?_
  refine (S_iload_n rfl at_306_1).trans ?_
  refine (S_iload_n rfl at_306_2).trans ?_
  refine (S_invs (by decide) (Nat.le_of_ble_eq_true rfl) (Nat.le_of_ble_eq_true rfl) at_306_3).trans ?_
  show (((c_call (d + 1)) 307 [jI x, jI v] h).bind _) = _
  rw [R307a k]
  show j_fin (c_call (d + 1)) 306 6 [some (jI c0), some (jI x), some (jI v), none] [jI v, jI c0] h = _
  refine (S_iadd at_306_6).trans ?_
  rw [w32_id (x := c0 + v) (by omega) (by omega)]
  refine (S_istore_n (l1 := [some (jI c0), some (jI x), some (jI v), some (jI (c0 + v))]) rfl at_306_7).trans ?_
  refine (S_iconst at_306_8).trans ?_
  refine (S_iload_n rfl at_306_9).trans ?_
  refine (S_icmp_ge at_306_10).trans ?_
  refine (if_pos (by omega)).trans ?_
  refine (S_iload_n rfl at_306_13).trans ?_
  refine (S_ldc rfl at_306_14).trans ?_
  refine (S_icmp_gt at_306_16).trans ?_
  refine (if_neg (by omega)).trans ?_
  refine (S_iload_n rfl at_306_19).trans ?_
  exact S_ireti rfl at_306_20
theorem R298 {d a b c : Nat} {h : j_H} {n : Int} (k1 : h.1[a]? = some (1, 4)) (kr : j_rf h a 0 = some b) (k3 : h.1[b]? = some (34, c)) (k2 : h.2.2 a 1 = 0) (hn : (c : Int) < n ∧ n ≤ 2 * (c : Int) + 1) (hc : c ≤ 1000) {r : Int} (hr : r = 2 * (c : Int) + 2) : c_call (d + 3) 298 [jR a, jI n] h = some (some (jI r), h) := by
  refine E298.trans ?_
  refine (S_aload_n rfl at_298_0).trans ?_
  refine (S_getR k1 rfl kr at_298_1).trans ?_
  refine (S_alen (kd_of k3) (by decide) at_298_4).trans ?_
  refine (S_istore_n (l1 := [some (jR a), some (jI n), some (jI (c : Int)), none, none, none]) rfl at_298_5).trans ?_
  refine (S_iload_n rfl at_298_6).trans ?_
  refine (S_aload_n rfl at_298_7).trans ?_
  refine (S_get2 k1 rfl at_298_8).trans ?_
  rw [k2]
  refine (S_ishl at_298_11).trans ?_
  rw [j_shl_0 n (by omega)]
  refine (S_istore_n (l1 := [some (jR a), some (jI n), some (jI (c : Int)), some (jI n), none, none]) rfl at_298_12).trans ?_
  refine (S_iload_n rfl at_298_13).trans ?_
  refine (S_iload_n rfl at_298_14).trans ?_
  refine (S_isub at_298_15).trans ?_
  rw [w32_id (x := n - (c : Int)) (by omega) (by omega)]
  refine (S_istore (l1 := [some (jR a), some (jI n), some (jI (c : Int)), some (jI n), some (jI ((n - (c : Int)))), none]) rfl at_298_16).trans ?_
  refine (S_iload_n rfl at_298_18).trans ?_
  refine (S_iload rfl at_298_19).trans ?_
  refine (S_iload_n rfl at_298_21).trans ?_
  refine (S_iconst at_298_22).trans ?_
  refine (S_aload_n rfl at_298_23).trans ?_
  refine (S_get2 k1 rfl at_298_24).trans ?_
  rw [k2]
  refine (S_ishl at_298_27).trans ?_
  rw [show j_shl 2 0 = 2 from by decide]
  refine (S_iadd at_298_28).trans ?_
  rw [w32_id (x := (c : Int) + 2) (by omega) (by omega)]
  refine (S_invs (by decide) (Nat.le_of_ble_eq_true rfl) (Nat.le_of_ble_eq_true rfl) at_298_29).trans ?_
  show (((c_call (d + 2)) 306 [jI (c : Int), jI ((n - (c : Int))), jI (((c : Int) + 2))] h).bind _) = _
  rw [show c_call (d + 2) 306 [jI (c : Int), jI (n - (c : Int)), jI ((c : Int) + 2)] h = some (some (jI r), h) from (R306 (c0 := (c : Int)) (x := n - (c : Int)) (v := (c : Int) + 2) (by omega) (by omega) (by omega)).trans (by rw [show (c : Int) + ((c : Int) + 2) = r by omega])]
  show j_fin (c_call (d + 2)) 298 32 [some (jR a), some (jI n), some (jI (c : Int)), some (jI n), some (jI ((n - (c : Int)))), none] [jI r] h = _
  refine (S_istore (l1 := [some (jR a), some (jI n), some (jI (c : Int)), some (jI n), some (jI ((n - (c : Int)))), some (jI r)]) rfl at_298_32).trans ?_
  refine (S_iload rfl at_298_34).trans ?_
  refine (S_ldc rfl at_298_36).trans ?_
  refine (S_icmp_ne at_298_38).trans ?_
  refine (if_neg (by omega)).trans ?_
  refine (S_iload rfl at_298_51).trans ?_
  refine (S_aload_n rfl at_298_53).trans ?_
  refine (S_get2 k1 rfl at_298_54).trans ?_
  rw [k2]
  refine (S_ishr at_298_57).trans ?_
  rw [j_shr_0 r (by omega)]
  exact S_ireti rfl at_298_58
theorem R305 {d b c n : Nat} {h : j_H} (k3 : h.1[b]? = some (34, c)) (hn : c < n ∧ n ≤ 100000) (hl : h.1.length < 900000) (hb : 2 ≤ b) (hq : 2 ≤ h.1.length) (hB : j_byt (j_new h 34 n).2.2 b 0 c = true) : c_call (d + 2) 305 [jR b, jI (n : Int)] h = some (some (jR (h.1.length)), ((j_new h 34 n).1, (j_new h 34 n).2.1, j_cpy (j_new h 34 n).2.2 b 0 (h.1.length) 0 (c : Int).toNat)) := by
  refine E305.trans ?_
  refine (S_iload_n rfl at_305_0).trans ?_
  refine (S_aload_n rfl at_305_1).trans ?_
  refine (S_alen (kd_of k3) (by decide) at_305_2).trans ?_
  refine (S_icmp_ne at_305_3).trans ?_
  refine (if_neg (by omega)).trans ?_
  refine (S_iload_n rfl at_305_14).trans ?_
  refine (S_newarr ⟨by decide, by omega, by omega, hl⟩ at_305_15).trans ?_
  refine (S_astore_n (l1 := [some (jR b), some (jI (n : Int)), some (jR (h.1.length))]) rfl at_305_17).trans ?_
  refine (S_aload_n rfl at_305_18).trans ?_
  refine (S_iconst at_305_19).trans ?_
  refine (S_aload_n rfl at_305_20).trans ?_
  refine (S_iconst at_305_21).trans ?_
  refine (S_aload_n rfl at_305_22).trans ?_
  refine (S_alen (kd_of (show ((j_new h 34 n)).1[b]? = some (34, c) from kq_old1 k3)) (by decide) at_305_23).trans ?_
  refine (S_iload_n rfl at_305_24).trans ?_
  refine (S_invs (by decide) (Nat.le_of_ble_eq_true rfl) (Nat.le_of_ble_eq_true rfl) at_305_25).trans ?_
  show (((c_call (d + 1)) 268 [jI (c : Int), jI (n : Int)] (j_new h 34 n)).bind _) = _
  rw [R268a (x := (c : Int)) (v := (n : Int)) (by omega)]
  show j_fin (c_call (d + 1)) 305 28 [some (jR b), some (jI (n : Int)), some (jR (h.1.length))] [jI (c : Int), jI 0, jR (h.1.length), jI 0, jR b] (j_new h 34 n) = _
  refine (S_cpyB rfl hB (kd_of (show ((j_new h 34 n)).1[b]? = some (34, c) from kq_old1 k3)) (show ((j_new h 34 n)).1[h.1.length]? = some (34, n) from kq_new h 34 n) ⟨hb, hq⟩ (Nat.le_of_ble_eq_true rfl) at_305_28).trans ?_
  refine (if_pos ⟨by omega, by decide, by decide, by omega, by omega⟩).trans ?_
  refine (S_aload_n rfl at_305_31).trans ?_
  exact S_aret rfl at_305_32
