/-! append(int): its runs. -/
theorem ml_290 : j_ml 290 = 4 := by decide +kernel
theorem E290 {d : Nat} {h : j_H} {a0 : Nat} {x1 : Int} : c_call (d + 1) 290 [jR a0, jI x1] h = j_fin (c_call d) 290 0 [some (jR a0), some (jI x1), none, none] [] h := (E_of ml_290 (Nat.le_of_ble_eq_true rfl)).trans rfl
theorem ml_284 : j_ml 284 = 2 := by decide +kernel
theorem E284 {d : Nat} {h : j_H} {a0 : Nat} {x1 : Int} : c_call (d + 1) 284 [jR a0, jI x1] h = j_fin (c_call d) 284 0 [some (jR a0), some (jI x1)] [] h := (E_of ml_284 (Nat.le_of_ble_eq_true rfl)).trans rfl
theorem R290 {d a b1 : Nat} {h h1 h2 : j_H} {x k l n q : Int} (k1 : h.1[a]? = some (1, 4)) (kc : h.2.2 a 3 = k) (e301 : c_call (d + 4) 301 [jI x] h = some (some (jI l), h)) (hn : w32 (k + l) = n) (e292 : c_call (d + 4) 292 [jR a, jI n] h = some (none, h1)) (j1 : h1.1[a]? = some (1, 4)) (jr : j_rf h1 a 0 = some b1) (j2 : h1.2.2 a 1 = 0) (e300 : c_call (d + 4) 300 [jI x, jI n, jR b1] h1 = some (some (jI q), h2)) (j12 : h2.1[a]? = some (1, 4)) : c_call (d + 5) 290 [jR a, jI x] h = some (some (jR a), (h2.1, h2.2.1, j_up h2.2.2 a 3 n)) := by
  refine E290.trans ?_
  refine (S_aload_n rfl at_290_0).trans ?_
  refine (S_get0 k1 rfl at_290_1).trans ?_
  rw [kc]
  refine (S_istore_n (l1 := [some (jR a), some (jI x), some (jI k), none]) rfl at_290_4).trans ?_
  refine (S_iload_n rfl at_290_5).trans ?_
  refine (S_iload_n rfl at_290_6).trans ?_
  refine (S_invs (by decide) (Nat.le_of_ble_eq_true rfl) (Nat.le_of_ble_eq_true rfl) at_290_7).trans ?_
  show (((c_call (d + 4)) 301 [jI x] h).bind _) = _
  rw [e301]
  show j_fin (c_call (d + 4)) 290 10 [some (jR a), some (jI x), some (jI k), none] [jI l, jI k] h = _
  refine (S_iadd at_290_10).trans ?_
  rw [hn]
  refine (S_istore_n (l1 := [some (jR a), some (jI x), some (jI k), some (jI n)]) rfl at_290_11).trans ?_
  refine (S_aload_n rfl at_290_12).trans ?_
  refine (S_iload_n rfl at_290_13).trans ?_
  refine (S_invv (b := 1) (by decide) kn_292 rfl (kd_of k1) (Nat.le_of_ble_eq_true rfl) at_290_14).trans ?_
  show (((c_call (d + 4)) 292 [jR a, jI n] h).bind _) = _
  rw [e292]
  show j_fin (c_call (d + 4)) 290 17 [some (jR a), some (jI x), some (jI k), some (jI n)] [] h1 = _
  refine (S_aload_n rfl at_290_17).trans ?_
  refine (S_invv (b := 0) (by decide) kn_296 rfl (kd_of j1) (Nat.le_of_ble_eq_true rfl) at_290_18).trans ?_
  show (((c_call (d + 4)) 296 [jR a] h1).bind _) = _
  rw [R296 (d := d + 3) j1 j2]
  show j_fin (c_call (d + 4)) 290 21 [some (jR a), some (jI x), some (jI k), some (jI n)] [jI 1] h1 = _
  refine (S_if_eq at_290_21).trans ?_
  refine (if_neg (by decide)).trans ?_
  refine (S_iload_n rfl at_290_24).trans ?_
  refine (S_iload_n rfl at_290_25).trans ?_
  refine (S_aload_n rfl at_290_26).trans ?_
  refine (S_getR (show (h1).1[a]? = some (1, 4) from j1) rfl jr at_290_27).trans ?_
  refine (S_invs (by decide) (Nat.le_of_ble_eq_true rfl) (Nat.le_of_ble_eq_true rfl) at_290_30).trans ?_
  show (((c_call (d + 4)) 300 [jI x, jI n, jR b1] h1).bind _) = _
  rw [e300]
  show j_fin (c_call (d + 4)) 290 33 [some (jR a), some (jI x), some (jI k), some (jI n)] [jI q] h2 = _
  refine (S_pop rfl at_290_33).trans ?_
  refine (S_goto at_290_34).trans ?_
  refine (S_aload_n rfl at_290_48).trans ?_
  refine (S_iload_n rfl at_290_49).trans ?_
  refine (S_put0 j12 rfl at_290_50).trans ?_
  refine (S_aload_n rfl at_290_53).trans ?_
  exact S_aret rfl at_290_54
theorem R284 {d a : Nat} {h h2 : j_H} {x : Int} (k1 : h.1[a]? = some (1, 4)) (e : c_call (d + 5) 290 [jR a, jI x] h = some (some (jR a), h2)) : c_call (d + 6) 284 [jR a, jI x] h = some (some (jR a), h2) := by
  refine E284.trans ?_
  refine (S_aload_n rfl at_284_0).trans ?_
  refine (S_iload_n rfl at_284_1).trans ?_
  refine (S_invp (b := 1) (by decide) kn_290 rfl (kd_of k1) (Nat.le_of_ble_eq_true rfl) at_284_2).trans ?_
  show (((c_call (d + 5)) 290 [jR a, jI x] h).bind _) = _
  rw [e]
  show j_fin (c_call (d + 5)) 284 5 [some (jR a), some (jI x)] [jR a] h2 = _
  refine (S_pop rfl at_284_5).trans ?_
  refine (S_aload_n rfl at_284_6).trans ?_
  exact S_aret rfl at_284_7
/-- a number's letters -/
def dgF (x : Int) : List Int := (if x < 0 then [45] else []) ++ (if 10 ≤ x.natAbs then [48 + ((x.natAbs / 10 : Nat) : Int)] else []) ++ [48 + ((x.natAbs % 10 : Nat) : Int)]
/-- the constants' digits stand in memory -/
def kmD (h : j_H) : Prop := ∀ j : Nat, j < 100 → h.2.2 1000020 j = 48 + ((j % 10 : Nat) : Int) ∧ h.2.2 1000021 j = 48 + ((j / 10 : Nat) : Int)
theorem kmD_x {W : Nat → Prop} {c n : Nat} {h h' : j_H} (x : xF W c n h h') (hW : ¬ W 1000020 ∧ ¬ W 1000021) (k : kmD h) : kmD h' := by
  obtain ⟨-, -, -, x4⟩ := x
  exact fun j hj => ⟨(x4 _ _ (Or.inr (by decide)) hW.1).trans (k j hj).1, (x4 _ _ (Or.inr (by decide)) hW.2).trans (k j hj).2⟩
theorem kd_O {h : j_H} (hl : h.1.length ≤ 1000000) : j_kd h 1000020 = some (34, 100) ∧ j_kd h 1000021 = some (34, 100) := by
  unfold j_kd
  rw [List.getElem?_eq_none (by omega), List.getElem?_eq_none (by omega)]
  exact ⟨by decide, by decide⟩
