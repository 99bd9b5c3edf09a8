/-! Entries: a call is the run from its first instruction. -/
theorem E_of {d y ml : Nat} {as : List j_V} {h : j_H} (hm : j_ml y = ml) (hl : (j_ent as).length ≤ ml) : c_call (d + 1) y as h = j_fin (c_call d) y 0 (j_ent as ++ List.replicate (ml - (j_ent as).length) none) [] h := by
  show (if (j_ent as).length ≤ j_ml y then j_fin (c_call d) y 0 (j_loc y as) [] h else none) = _
  rw [if_pos (by rw [hm]; exact hl)]
  unfold j_loc
  rw [hm]
theorem ml_1 : j_ml 1 = 1 := by decide +kernel
theorem E1 {d : Nat} {h : j_H} {a0 : Nat} : c_call (d + 1) 1 [jR a0] h = j_fin (c_call d) 1 0 [some (jR a0)] [] h := (E_of ml_1 (Nat.le_of_ble_eq_true rfl)).trans rfl
theorem ml_2 : j_ml 2 = 3 := by decide +kernel
theorem E2 {d : Nat} {h : j_H} {a0 : Nat} {x1 : Int} {x2 : Int} : c_call (d + 1) 2 [jR a0, jI x1, jI x2] h = j_fin (c_call d) 2 0 [some (jR a0), some (jI x1), some (jI x2)] [] h := (E_of ml_2 (Nat.le_of_ble_eq_true rfl)).trans rfl
theorem ml_3 : j_ml 3 = 3 := by decide +kernel
theorem E3 {d : Nat} {h : j_H} {a0 : Nat} {x1 : Int} {x2 : Int} : c_call (d + 1) 3 [jR a0, jI x1, jI x2] h = j_fin (c_call d) 3 0 [some (jR a0), some (jI x1), some (jI x2)] [] h := (E_of ml_3 (Nat.le_of_ble_eq_true rfl)).trans rfl
theorem ml_4 : j_ml 4 = 7 := by decide +kernel
theorem E4 {d : Nat} {h : j_H} {a0 : Nat} {a1 : Nat} {x2 : Int} {a3 : Nat} : c_call (d + 1) 4 [jR a0, jR a1, jI x2, jR a3] h = j_fin (c_call d) 4 0 [some (jR a0), some (jR a1), some (jI x2), some (jR a3), none, none, none] [] h := (E_of ml_4 (Nat.le_of_ble_eq_true rfl)).trans rfl
theorem ml_5 : j_ml 5 = 11 := by decide +kernel
theorem E5 {d : Nat} {h : j_H} {a0 : Nat} {a1 : Nat} {x2 : Int} {a3 : Nat} {x4 : Int} : c_call (d + 1) 5 [jR a0, jR a1, jI x2, jR a3, jI x4] h = j_fin (c_call d) 5 0 [some (jR a0), some (jR a1), some (jI x2), some (jR a3), some (jI x4), none, none, none, none, none, none] [] h := (E_of ml_5 (Nat.le_of_ble_eq_true rfl)).trans rfl
theorem ml_6 : j_ml 6 = 7 := by decide +kernel
theorem E6 {d : Nat} {h : j_H} {a0 : Nat} {x1 : Int} {a2 : Nat} : c_call (d + 1) 6 [jR a0, jI x1, jR a2] h = j_fin (c_call d) 6 0 [some (jR a0), some (jI x1), some (jR a2), none, none, none, none] [] h := (E_of ml_6 (Nat.le_of_ble_eq_true rfl)).trans rfl
theorem ml_8 : j_ml 8 = 2 := by decide +kernel
theorem E8 {d : Nat} {h : j_H} {a0 : Nat} {a1 : Nat} : c_call (d + 1) 8 [jR a0, jR a1] h = j_fin (c_call d) 8 0 [some (jR a0), some (jR a1)] [] h := (E_of ml_8 (Nat.le_of_ble_eq_true rfl)).trans rfl
theorem ml_9 : j_ml 9 = 2 := by decide +kernel
theorem E9 {d : Nat} {h : j_H} {a0 : Nat} {x1 : Int} : c_call (d + 1) 9 [jR a0, jI x1] h = j_fin (c_call d) 9 0 [some (jR a0), some (jI x1)] [] h := (E_of ml_9 (Nat.le_of_ble_eq_true rfl)).trans rfl
theorem ml_10 : j_ml 10 = 4 := by decide +kernel
theorem E10 {d : Nat} {h : j_H} {a0 : Nat} {x1 : Int} {x2 : Int} : c_call (d + 1) 10 [jR a0, jI x1, jI x2] h = j_fin (c_call d) 10 0 [some (jR a0), some (jI x1), some (jI x2), none] [] h := (E_of ml_10 (Nat.le_of_ble_eq_true rfl)).trans rfl
theorem ml_11 : j_ml 11 = 3 := by decide +kernel
theorem E11 {d : Nat} {h : j_H} {a0 : Nat} {x1 : Int} {x2 : Int} : c_call (d + 1) 11 [jR a0, jI x1, jI x2] h = j_fin (c_call d) 11 0 [some (jR a0), some (jI x1), some (jI x2)] [] h := (E_of ml_11 (Nat.le_of_ble_eq_true rfl)).trans rfl
theorem ml_12 : j_ml 12 = 4 := by decide +kernel
theorem E12 {d : Nat} {h : j_H} {a0 : Nat} {x1 : Int} {x2 : Int} {x3 : Int} : c_call (d + 1) 12 [jR a0, jI x1, jI x2, jI x3] h = j_fin (c_call d) 12 0 [some (jR a0), some (jI x1), some (jI x2), some (jI x3)] [] h := (E_of ml_12 (Nat.le_of_ble_eq_true rfl)).trans rfl
theorem ml_13 : j_ml 13 = 4 := by decide +kernel
theorem E13 {d : Nat} {h : j_H} {a0 : Nat} {x1 : Int} {x2 : Int} : c_call (d + 1) 13 [jR a0, jI x1, jI x2] h = j_fin (c_call d) 13 0 [some (jR a0), some (jI x1), some (jI x2), none] [] h := (E_of ml_13 (Nat.le_of_ble_eq_true rfl)).trans rfl
theorem ml_14 : j_ml 14 = 4 := by decide +kernel
theorem E14 {d : Nat} {h : j_H} {a0 : Nat} {x1 : Int} : c_call (d + 1) 14 [jR a0, jI x1] h = j_fin (c_call d) 14 0 [some (jR a0), some (jI x1), none, none] [] h := (E_of ml_14 (Nat.le_of_ble_eq_true rfl)).trans rfl
theorem ml_15 : j_ml 15 = 5 := by decide +kernel
theorem E15 {d : Nat} {h : j_H} {a0 : Nat} {x1 : Int} : c_call (d + 1) 15 [jR a0, jI x1] h = j_fin (c_call d) 15 0 [some (jR a0), some (jI x1), none, none, none] [] h := (E_of ml_15 (Nat.le_of_ble_eq_true rfl)).trans rfl
theorem ml_16 : j_ml 16 = 5 := by decide +kernel
theorem E16 {d : Nat} {h : j_H} {a0 : Nat} {x1 : Int} {x2 : Int} : c_call (d + 1) 16 [jR a0, jI x1, jI x2] h = j_fin (c_call d) 16 0 [some (jR a0), some (jI x1), some (jI x2), none, none] [] h := (E_of ml_16 (Nat.le_of_ble_eq_true rfl)).trans rfl
theorem ml_17 : j_ml 17 = 5 := by decide +kernel
theorem E17 {d : Nat} {h : j_H} {a0 : Nat} {x1 : Int} {x2 : Int} {x3 : Int} : c_call (d + 1) 17 [jR a0, jI x1, jI x2, jI x3] h = j_fin (c_call d) 17 0 [some (jR a0), some (jI x1), some (jI x2), some (jI x3), none] [] h := (E_of ml_17 (Nat.le_of_ble_eq_true rfl)).trans rfl
theorem ml_18 : j_ml 18 = 6 := by decide +kernel
theorem E18 {d : Nat} {h : j_H} {a0 : Nat} {x1 : Int} {x2 : Int} : c_call (d + 1) 18 [jR a0, jI x1, jI x2] h = j_fin (c_call d) 18 0 [some (jR a0), some (jI x1), some (jI x2), none, none, none] [] h := (E_of ml_18 (Nat.le_of_ble_eq_true rfl)).trans rfl
theorem ml_19 : j_ml 19 = 1 := by decide +kernel
theorem E19 {d : Nat} {h : j_H} {x0 : Int} : c_call (d + 1) 19 [jI x0] h = j_fin (c_call d) 19 0 [some (jI x0)] [] h := (E_of ml_19 (Nat.le_of_ble_eq_true rfl)).trans rfl
theorem ml_21 : j_ml 21 = 2 := by decide +kernel
theorem E21 {d : Nat} {h : j_H} {a0 : Nat} {a1 : Nat} : c_call (d + 1) 21 [jR a0, jR a1] h = j_fin (c_call d) 21 0 [some (jR a0), some (jR a1)] [] h := (E_of ml_21 (Nat.le_of_ble_eq_true rfl)).trans rfl
theorem ml_22 : j_ml 22 = 1 := by decide +kernel
theorem E22 {d : Nat} {h : j_H} {a0 : Nat} : c_call (d + 1) 22 [jR a0] h = j_fin (c_call d) 22 0 [some (jR a0)] [] h := (E_of ml_22 (Nat.le_of_ble_eq_true rfl)).trans rfl
theorem ml_23 : j_ml 23 = 3 := by decide +kernel
theorem E23 {d : Nat} {h : j_H} {a0 : Nat} {x1 : Int} : c_call (d + 1) 23 [jR a0, jI x1] h = j_fin (c_call d) 23 0 [some (jR a0), some (jI x1), none] [] h := (E_of ml_23 (Nat.le_of_ble_eq_true rfl)).trans rfl
theorem ml_24 : j_ml 24 = 2 := by decide +kernel
theorem E24 {d : Nat} {h : j_H} {a0 : Nat} {x1 : Int} : c_call (d + 1) 24 [jR a0, jI x1] h = j_fin (c_call d) 24 0 [some (jR a0), some (jI x1)] [] h := (E_of ml_24 (Nat.le_of_ble_eq_true rfl)).trans rfl
theorem ml_25 : j_ml 25 = 5 := by decide +kernel
theorem E25 {d : Nat} {h : j_H} {a0 : Nat} {x1 : Int} {x2 : Int} {x3 : Int} : c_call (d + 1) 25 [jR a0, jI x1, jI x2, jI x3] h = j_fin (c_call d) 25 0 [some (jR a0), some (jI x1), some (jI x2), some (jI x3), none] [] h := (E_of ml_25 (Nat.le_of_ble_eq_true rfl)).trans rfl
theorem ml_26 : j_ml 26 = 3 := by decide +kernel
theorem E26 {d : Nat} {h : j_H} {a0 : Nat} {x1 : Int} {x2 : Int} : c_call (d + 1) 26 [jR a0, jI x1, jI x2] h = j_fin (c_call d) 26 0 [some (jR a0), some (jI x1), some (jI x2)] [] h := (E_of ml_26 (Nat.le_of_ble_eq_true rfl)).trans rfl
theorem ml_27 : j_ml 27 = 4 := by decide +kernel
theorem E27 {d : Nat} {h : j_H} {a0 : Nat} {x1 : Int} {x2 : Int} {x3 : Int} : c_call (d + 1) 27 [jR a0, jI x1, jI x2, jI x3] h = j_fin (c_call d) 27 0 [some (jR a0), some (jI x1), some (jI x2), some (jI x3)] [] h := (E_of ml_27 (Nat.le_of_ble_eq_true rfl)).trans rfl
theorem ml_29 : j_ml 29 = 5 := by decide +kernel
theorem E29 {d : Nat} {h : j_H} {a0 : Nat} {a1 : Nat} {x2 : Int} : c_call (d + 1) 29 [jR a0, jR a1, jI x2] h = j_fin (c_call d) 29 0 [some (jR a0), some (jR a1), some (jI x2), none, none] [] h := (E_of ml_29 (Nat.le_of_ble_eq_true rfl)).trans rfl
theorem ml_30 : j_ml 30 = 3 := by decide +kernel
theorem E30 {d : Nat} {h : j_H} {a0 : Nat} {a1 : Nat} : c_call (d + 1) 30 [jR a0, jR a1] h = j_fin (c_call d) 30 0 [some (jR a0), some (jR a1), none] [] h := (E_of ml_30 (Nat.le_of_ble_eq_true rfl)).trans rfl
theorem ml_32 : j_ml 32 = 2 := by decide +kernel
theorem E32 {d : Nat} {h : j_H} {a0 : Nat} {a1 : Nat} : c_call (d + 1) 32 [jR a0, jR a1] h = j_fin (c_call d) 32 0 [some (jR a0), some (jR a1)] [] h := (E_of ml_32 (Nat.le_of_ble_eq_true rfl)).trans rfl
theorem ml_33 : j_ml 33 = 2 := by decide +kernel
theorem E33 {d : Nat} {h : j_H} {a0 : Nat} {x1 : Int} : c_call (d + 1) 33 [jR a0, jI x1] h = j_fin (c_call d) 33 0 [some (jR a0), some (jI x1)] [] h := (E_of ml_33 (Nat.le_of_ble_eq_true rfl)).trans rfl
theorem ml_34 : j_ml 34 = 3 := by decide +kernel
theorem E34 {d : Nat} {h : j_H} {a0 : Nat} {x1 : Int} {x2 : Int} : c_call (d + 1) 34 [jR a0, jI x1, jI x2] h = j_fin (c_call d) 34 0 [some (jR a0), some (jI x1), some (jI x2)] [] h := (E_of ml_34 (Nat.le_of_ble_eq_true rfl)).trans rfl
theorem ml_35 : j_ml 35 = 4 := by decide +kernel
theorem E35 {d : Nat} {h : j_H} {a0 : Nat} {x1 : Int} {x2 : Int} {x3 : Int} : c_call (d + 1) 35 [jR a0, jI x1, jI x2, jI x3] h = j_fin (c_call d) 35 0 [some (jR a0), some (jI x1), some (jI x2), some (jI x3)] [] h := (E_of ml_35 (Nat.le_of_ble_eq_true rfl)).trans rfl
theorem ml_36 : j_ml 36 = 4 := by decide +kernel
theorem E36 {d : Nat} {h : j_H} {a0 : Nat} {x1 : Int} : c_call (d + 1) 36 [jR a0, jI x1] h = j_fin (c_call d) 36 0 [some (jR a0), some (jI x1), none, none] [] h := (E_of ml_36 (Nat.le_of_ble_eq_true rfl)).trans rfl
theorem ml_38 : j_ml 38 = 5 := by decide +kernel
theorem E38 {d : Nat} {h : j_H} {a0 : Nat} {a1 : Nat} : c_call (d + 1) 38 [jR a0, jR a1] h = j_fin (c_call d) 38 0 [some (jR a0), some (jR a1), none, none, none] [] h := (E_of ml_38 (Nat.le_of_ble_eq_true rfl)).trans rfl
theorem ml_39 : j_ml 39 = 6 := by decide +kernel
theorem E39 {d : Nat} {h : j_H} {a0 : Nat} {x1 : Int} {x2 : Int} : c_call (d + 1) 39 [jR a0, jI x1, jL x2] h = j_fin (c_call d) 39 0 [some (jR a0), some (jI x1), some (jL x2), none, none, none] [] h := (E_of ml_39 (Nat.le_of_ble_eq_true rfl)).trans rfl
theorem ml_40 : j_ml 40 = 5 := by decide +kernel
theorem E40 {d : Nat} {h : j_H} {a0 : Nat} {x1 : Int} {x2 : Int} : c_call (d + 1) 40 [jR a0, jI x1, jL x2] h = j_fin (c_call d) 40 0 [some (jR a0), some (jI x1), some (jL x2), none, none] [] h := (E_of ml_40 (Nat.le_of_ble_eq_true rfl)).trans rfl
theorem ml_41 : j_ml 41 = 5 := by decide +kernel
theorem E41 {d : Nat} {h : j_H} {a0 : Nat} {x1 : Int} {x2 : Int} : c_call (d + 1) 41 [jR a0, jI x1, jL x2] h = j_fin (c_call d) 41 0 [some (jR a0), some (jI x1), some (jL x2), none, none] [] h := (E_of ml_41 (Nat.le_of_ble_eq_true rfl)).trans rfl
theorem ml_42 : j_ml 42 = 5 := by decide +kernel
theorem E42 {d : Nat} {h : j_H} {a0 : Nat} {x1 : Int} {x2 : Int} : c_call (d + 1) 42 [jR a0, jI x1, jI x2] h = j_fin (c_call d) 42 0 [some (jR a0), some (jI x1), some (jI x2), none, none] [] h := (E_of ml_42 (Nat.le_of_ble_eq_true rfl)).trans rfl
theorem ml_43 : j_ml 43 = 3 := by decide +kernel
theorem E43 {d : Nat} {h : j_H} {a0 : Nat} {x1 : Int} : c_call (d + 1) 43 [jR a0, jL x1] h = j_fin (c_call d) 43 0 [some (jR a0), some (jL x1), none] [] h := (E_of ml_43 (Nat.le_of_ble_eq_true rfl)).trans rfl
theorem ml_44 : j_ml 44 = 3 := by decide +kernel
theorem E44 {d : Nat} {h : j_H} {a0 : Nat} {x1 : Int} : c_call (d + 1) 44 [jR a0, jL x1] h = j_fin (c_call d) 44 0 [some (jR a0), some (jL x1), none] [] h := (E_of ml_44 (Nat.le_of_ble_eq_true rfl)).trans rfl
theorem ml_45 : j_ml 45 = 4 := by decide +kernel
theorem E45 {d : Nat} {h : j_H} {a0 : Nat} : c_call (d + 1) 45 [jR a0] h = j_fin (c_call d) 45 0 [some (jR a0), none, none, none] [] h := (E_of ml_45 (Nat.le_of_ble_eq_true rfl)).trans rfl
theorem ml_46 : j_ml 46 = 3 := by decide +kernel
theorem E46 {d : Nat} {h : j_H} {a0 : Nat} : c_call (d + 1) 46 [jR a0] h = j_fin (c_call d) 46 0 [some (jR a0), none, none] [] h := (E_of ml_46 (Nat.le_of_ble_eq_true rfl)).trans rfl
theorem ml_47 : j_ml 47 = 4 := by decide +kernel
theorem E47 {d : Nat} {h : j_H} {a0 : Nat} {x1 : Int} : c_call (d + 1) 47 [jR a0, jI x1] h = j_fin (c_call d) 47 0 [some (jR a0), some (jI x1), none, none] [] h := (E_of ml_47 (Nat.le_of_ble_eq_true rfl)).trans rfl
theorem ml_48 : j_ml 48 = 8 := by decide +kernel
theorem E48 {d : Nat} {h : j_H} {a0 : Nat} {x1 : Int} {x2 : Int} {x3 : Int} : c_call (d + 1) 48 [jR a0, jI x1, jI x2, jI x3] h = j_fin (c_call d) 48 0 [some (jR a0), some (jI x1), some (jI x2), some (jI x3), none, none, none, none] [] h := (E_of ml_48 (Nat.le_of_ble_eq_true rfl)).trans rfl
theorem ml_49 : j_ml 49 = 6 := by decide +kernel
theorem E49 {d : Nat} {h : j_H} {a0 : Nat} {x1 : Int} {x2 : Int} : c_call (d + 1) 49 [jR a0, jI x1, jI x2] h = j_fin (c_call d) 49 0 [some (jR a0), some (jI x1), some (jI x2), none, none, none] [] h := (E_of ml_49 (Nat.le_of_ble_eq_true rfl)).trans rfl
theorem ml_50 : j_ml 50 = 11 := by decide +kernel
theorem E50 {d : Nat} {h : j_H} {a0 : Nat} {x1 : Int} {x2 : Int} {x3 : Int} : c_call (d + 1) 50 [jR a0, jI x1, jI x2, jI x3] h = j_fin (c_call d) 50 0 [some (jR a0), some (jI x1), some (jI x2), some (jI x3), none, none, none, none, none, none, none] [] h := (E_of ml_50 (Nat.le_of_ble_eq_true rfl)).trans rfl
theorem ml_51 : j_ml 51 = 11 := by decide +kernel
theorem E51 {d : Nat} {h : j_H} {a0 : Nat} {x1 : Int} {x2 : Int} {x3 : Int} {x4 : Int} {x5 : Int} : c_call (d + 1) 51 [jR a0, jL x1, jL x2, jL x3, jI x4, jI x5] h = j_fin (c_call d) 51 0 [some (jR a0), some (jL x1), none, some (jL x2), none, some (jL x3), none, some (jI x4), some (jI x5), none, none] [] h := (E_of ml_51 (Nat.le_of_ble_eq_true rfl)).trans rfl
theorem ml_52 : j_ml 52 = 3 := by decide +kernel
theorem E52 {d : Nat} {h : j_H} {a0 : Nat} {x1 : Int} : c_call (d + 1) 52 [jR a0, jI x1] h = j_fin (c_call d) 52 0 [some (jR a0), some (jI x1), none] [] h := (E_of ml_52 (Nat.le_of_ble_eq_true rfl)).trans rfl
theorem ml_53 : j_ml 53 = 3 := by decide +kernel
theorem E53 {d : Nat} {h : j_H} {a0 : Nat} {x1 : Int} : c_call (d + 1) 53 [jR a0, jI x1] h = j_fin (c_call d) 53 0 [some (jR a0), some (jI x1), none] [] h := (E_of ml_53 (Nat.le_of_ble_eq_true rfl)).trans rfl
theorem ml_54 : j_ml 54 = 2 := by decide +kernel
theorem E54 {d : Nat} {h : j_H} {a0 : Nat} {x1 : Int} : c_call (d + 1) 54 [jR a0, jI x1] h = j_fin (c_call d) 54 0 [some (jR a0), some (jI x1)] [] h := (E_of ml_54 (Nat.le_of_ble_eq_true rfl)).trans rfl
theorem ml_55 : j_ml 55 = 3 := by decide +kernel
theorem E55 {d : Nat} {h : j_H} {a0 : Nat} {x1 : Int} : c_call (d + 1) 55 [jR a0, jI x1] h = j_fin (c_call d) 55 0 [some (jR a0), some (jI x1), none] [] h := (E_of ml_55 (Nat.le_of_ble_eq_true rfl)).trans rfl
theorem ml_56 : j_ml 56 = 2 := by decide +kernel
theorem E56 {d : Nat} {h : j_H} {a0 : Nat} : c_call (d + 1) 56 [jR a0] h = j_fin (c_call d) 56 0 [some (jR a0), none] [] h := (E_of ml_56 (Nat.le_of_ble_eq_true rfl)).trans rfl
theorem ml_57 : j_ml 57 = 2 := by decide +kernel
theorem E57 {d : Nat} {h : j_H} {a0 : Nat} : c_call (d + 1) 57 [jR a0] h = j_fin (c_call d) 57 0 [some (jR a0), none] [] h := (E_of ml_57 (Nat.le_of_ble_eq_true rfl)).trans rfl
theorem ml_58 : j_ml 58 = 3 := by decide +kernel
theorem E58 {d : Nat} {h : j_H} {a0 : Nat} {x1 : Int} {x2 : Int} : c_call (d + 1) 58 [jR a0, jI x1, jI x2] h = j_fin (c_call d) 58 0 [some (jR a0), some (jI x1), some (jI x2)] [] h := (E_of ml_58 (Nat.le_of_ble_eq_true rfl)).trans rfl
theorem ml_59 : j_ml 59 = 2 := by decide +kernel
theorem E59 {d : Nat} {h : j_H} {a0 : Nat} {x1 : Int} : c_call (d + 1) 59 [jR a0, jI x1] h = j_fin (c_call d) 59 0 [some (jR a0), some (jI x1)] [] h := (E_of ml_59 (Nat.le_of_ble_eq_true rfl)).trans rfl
theorem ml_61 : j_ml 61 = 4 := by decide +kernel
theorem E61 {d : Nat} {h : j_H} {a0 : Nat} {x1 : Int} {x2 : Int} {x3 : Int} : c_call (d + 1) 61 [jR a0, jI x1, jI x2, jI x3] h = j_fin (c_call d) 61 0 [some (jR a0), some (jI x1), some (jI x2), some (jI x3)] [] h := (E_of ml_61 (Nat.le_of_ble_eq_true rfl)).trans rfl
theorem ml_62 : j_ml 62 = 4 := by decide +kernel
theorem E62 {d : Nat} {h : j_H} {a0 : Nat} {x1 : Int} {x2 : Int} : c_call (d + 1) 62 [jR a0, jI x1, jL x2] h = j_fin (c_call d) 62 0 [some (jR a0), some (jI x1), some (jL x2), none] [] h := (E_of ml_62 (Nat.le_of_ble_eq_true rfl)).trans rfl
theorem ml_63 : j_ml 63 = 4 := by decide +kernel
theorem E63 {d : Nat} {h : j_H} {a0 : Nat} {x1 : Int} {x2 : Int} {x3 : Int} : c_call (d + 1) 63 [jR a0, jI x1, jI x2, jI x3] h = j_fin (c_call d) 63 0 [some (jR a0), some (jI x1), some (jI x2), some (jI x3)] [] h := (E_of ml_63 (Nat.le_of_ble_eq_true rfl)).trans rfl
theorem ml_65 : j_ml 65 = 3 := by decide +kernel
theorem E65 {d : Nat} {h : j_H} {a0 : Nat} {x1 : Int} : c_call (d + 1) 65 [jR a0, jI x1] h = j_fin (c_call d) 65 0 [some (jR a0), some (jI x1), none] [] h := (E_of ml_65 (Nat.le_of_ble_eq_true rfl)).trans rfl
theorem ml_66 : j_ml 66 = 4 := by decide +kernel
theorem E66 {d : Nat} {h : j_H} {a0 : Nat} {a1 : Nat} : c_call (d + 1) 66 [jR a0, jR a1] h = j_fin (c_call d) 66 0 [some (jR a0), some (jR a1), none, none] [] h := (E_of ml_66 (Nat.le_of_ble_eq_true rfl)).trans rfl
theorem ml_67 : j_ml 67 = 1 := by decide +kernel
theorem E67 {d : Nat} {h : j_H} {a0 : Nat} : c_call (d + 1) 67 [jR a0] h = j_fin (c_call d) 67 0 [some (jR a0)] [] h := (E_of ml_67 (Nat.le_of_ble_eq_true rfl)).trans rfl
theorem ml_68 : j_ml 68 = 2 := by decide +kernel
theorem E68 {d : Nat} {h : j_H} {a0 : Nat} {x1 : Int} : c_call (d + 1) 68 [jR a0, jI x1] h = j_fin (c_call d) 68 0 [some (jR a0), some (jI x1)] [] h := (E_of ml_68 (Nat.le_of_ble_eq_true rfl)).trans rfl
theorem ml_69 : j_ml 69 = 1 := by decide +kernel
theorem E69 {d : Nat} {h : j_H} {a0 : Nat} : c_call (d + 1) 69 [jR a0] h = j_fin (c_call d) 69 0 [some (jR a0)] [] h := (E_of ml_69 (Nat.le_of_ble_eq_true rfl)).trans rfl
theorem ml_70 : j_ml 70 = 3 := by decide +kernel
theorem E70 {d : Nat} {h : j_H} {a0 : Nat} : c_call (d + 1) 70 [jR a0] h = j_fin (c_call d) 70 0 [some (jR a0), none, none] [] h := (E_of ml_70 (Nat.le_of_ble_eq_true rfl)).trans rfl
theorem ml_71 : j_ml 71 = 5 := by decide +kernel
theorem E71 {d : Nat} {h : j_H} {a0 : Nat} {x1 : Int} : c_call (d + 1) 71 [jR a0, jI x1] h = j_fin (c_call d) 71 0 [some (jR a0), some (jI x1), none, none, none] [] h := (E_of ml_71 (Nat.le_of_ble_eq_true rfl)).trans rfl
theorem ml_72 : j_ml 72 = 4 := by decide +kernel
theorem E72 {d : Nat} {h : j_H} {a0 : Nat} {x1 : Int} : c_call (d + 1) 72 [jR a0, jI x1] h = j_fin (c_call d) 72 0 [some (jR a0), some (jI x1), none, none] [] h := (E_of ml_72 (Nat.le_of_ble_eq_true rfl)).trans rfl
theorem ml_74 : j_ml 74 = 4 := by decide +kernel
theorem E74 {d : Nat} {h : j_H} {a0 : Nat} {a1 : Nat} : c_call (d + 1) 74 [jR a0, jR a1] h = j_fin (c_call d) 74 0 [some (jR a0), some (jR a1), none, none] [] h := (E_of ml_74 (Nat.le_of_ble_eq_true rfl)).trans rfl
theorem ml_75 : j_ml 75 = 6 := by decide +kernel
theorem E75 {d : Nat} {h : j_H} {a0 : Nat} {a1 : Nat} {x2 : Int} : c_call (d + 1) 75 [jR a0, jR a1, jI x2] h = j_fin (c_call d) 75 0 [some (jR a0), some (jR a1), some (jI x2), none, none, none] [] h := (E_of ml_75 (Nat.le_of_ble_eq_true rfl)).trans rfl
theorem ml_76 : j_ml 76 = 2 := by decide +kernel
theorem E76 {d : Nat} {h : j_H} {a0 : Nat} {x1 : Int} : c_call (d + 1) 76 [jR a0, jI x1] h = j_fin (c_call d) 76 0 [some (jR a0), some (jI x1)] [] h := (E_of ml_76 (Nat.le_of_ble_eq_true rfl)).trans rfl
theorem ml_77 : j_ml 77 = 5 := by decide +kernel
theorem E77 {d : Nat} {h : j_H} {a0 : Nat} {a1 : Nat} : c_call (d + 1) 77 [jR a0, jR a1] h = j_fin (c_call d) 77 0 [some (jR a0), some (jR a1), none, none, none] [] h := (E_of ml_77 (Nat.le_of_ble_eq_true rfl)).trans rfl
theorem ml_78 : j_ml 78 = 3 := by decide +kernel
theorem E78 {d : Nat} {h : j_H} {a0 : Nat} : c_call (d + 1) 78 [jR a0] h = j_fin (c_call d) 78 0 [some (jR a0), none, none] [] h := (E_of ml_78 (Nat.le_of_ble_eq_true rfl)).trans rfl
theorem ml_79 : j_ml 79 = 2 := by decide +kernel
theorem E79 {d : Nat} {h : j_H} {a0 : Nat} {x1 : Int} : c_call (d + 1) 79 [jR a0, jI x1] h = j_fin (c_call d) 79 0 [some (jR a0), some (jI x1)] [] h := (E_of ml_79 (Nat.le_of_ble_eq_true rfl)).trans rfl
theorem ml_81 : j_ml 81 = 4 := by decide +kernel
theorem E81 {d : Nat} {h : j_H} {a0 : Nat} {a1 : Nat} {x2 : Int} : c_call (d + 1) 81 [jR a0, jR a1, jI x2] h = j_fin (c_call d) 81 0 [some (jR a0), some (jR a1), some (jI x2), none] [] h := (E_of ml_81 (Nat.le_of_ble_eq_true rfl)).trans rfl
theorem ml_82 : j_ml 82 = 2 := by decide +kernel
theorem E82 {d : Nat} {h : j_H} {a0 : Nat} : c_call (d + 1) 82 [jR a0] h = j_fin (c_call d) 82 0 [some (jR a0), none] [] h := (E_of ml_82 (Nat.le_of_ble_eq_true rfl)).trans rfl
theorem ml_83 : j_ml 83 = 4 := by decide +kernel
theorem E83 {d : Nat} {h : j_H} {a0 : Nat} {x1 : Int} {x2 : Int} : c_call (d + 1) 83 [jR a0, jI x1, jI x2] h = j_fin (c_call d) 83 0 [some (jR a0), some (jI x1), some (jI x2), none] [] h := (E_of ml_83 (Nat.le_of_ble_eq_true rfl)).trans rfl
theorem ml_84 : j_ml 84 = 2 := by decide +kernel
theorem E84 {d : Nat} {h : j_H} {a0 : Nat} : c_call (d + 1) 84 [jR a0] h = j_fin (c_call d) 84 0 [some (jR a0), none] [] h := (E_of ml_84 (Nat.le_of_ble_eq_true rfl)).trans rfl
theorem ml_85 : j_ml 85 = 3 := by decide +kernel
theorem E85 {d : Nat} {h : j_H} {a0 : Nat} : c_call (d + 1) 85 [jR a0] h = j_fin (c_call d) 85 0 [some (jR a0), none, none] [] h := (E_of ml_85 (Nat.le_of_ble_eq_true rfl)).trans rfl
theorem ml_86 : j_ml 86 = 5 := by decide +kernel
theorem E86 {d : Nat} {h : j_H} {a0 : Nat} {a1 : Nat} : c_call (d + 1) 86 [jR a0, jR a1] h = j_fin (c_call d) 86 0 [some (jR a0), some (jR a1), none, none, none] [] h := (E_of ml_86 (Nat.le_of_ble_eq_true rfl)).trans rfl
theorem ml_88 : j_ml 88 = 3 := by decide +kernel
theorem E88 {d : Nat} {h : j_H} {a0 : Nat} {x1 : Int} : c_call (d + 1) 88 [jR a0, jI x1] h = j_fin (c_call d) 88 0 [some (jR a0), some (jI x1), none] [] h := (E_of ml_88 (Nat.le_of_ble_eq_true rfl)).trans rfl
theorem ml_89 : j_ml 89 = 4 := by decide +kernel
theorem E89 {d : Nat} {h : j_H} {a0 : Nat} {x1 : Int} {x2 : Int} : c_call (d + 1) 89 [jR a0, jI x1, jI x2] h = j_fin (c_call d) 89 0 [some (jR a0), some (jI x1), some (jI x2), none] [] h := (E_of ml_89 (Nat.le_of_ble_eq_true rfl)).trans rfl
theorem ml_90 : j_ml 90 = 3 := by decide +kernel
theorem E90 {d : Nat} {h : j_H} {a0 : Nat} {x1 : Int} {x2 : Int} : c_call (d + 1) 90 [jR a0, jI x1, jI x2] h = j_fin (c_call d) 90 0 [some (jR a0), some (jI x1), some (jI x2)] [] h := (E_of ml_90 (Nat.le_of_ble_eq_true rfl)).trans rfl
theorem ml_91 : j_ml 91 = 5 := by decide +kernel
theorem E91 {d : Nat} {h : j_H} {a0 : Nat} {x1 : Int} {x2 : Int} {x3 : Int} : c_call (d + 1) 91 [jR a0, jI x1, jI x2, jI x3] h = j_fin (c_call d) 91 0 [some (jR a0), some (jI x1), some (jI x2), some (jI x3), none] [] h := (E_of ml_91 (Nat.le_of_ble_eq_true rfl)).trans rfl
theorem ml_92 : j_ml 92 = 4 := by decide +kernel
theorem E92 {d : Nat} {h : j_H} {a0 : Nat} {x1 : Int} {x2 : Int} : c_call (d + 1) 92 [jR a0, jI x1, jI x2] h = j_fin (c_call d) 92 0 [some (jR a0), some (jI x1), some (jI x2), none] [] h := (E_of ml_92 (Nat.le_of_ble_eq_true rfl)).trans rfl
theorem ml_93 : j_ml 93 = 1 := by decide +kernel
theorem E93 {d : Nat} {h : j_H} {a0 : Nat} : c_call (d + 1) 93 [jR a0] h = j_fin (c_call d) 93 0 [some (jR a0)] [] h := (E_of ml_93 (Nat.le_of_ble_eq_true rfl)).trans rfl
theorem ml_94 : j_ml 94 = 2 := by decide +kernel
theorem E94 {d : Nat} {h : j_H} {a0 : Nat} {x1 : Int} : c_call (d + 1) 94 [jR a0, jI x1] h = j_fin (c_call d) 94 0 [some (jR a0), some (jI x1)] [] h := (E_of ml_94 (Nat.le_of_ble_eq_true rfl)).trans rfl
theorem ml_95 : j_ml 95 = 2 := by decide +kernel
theorem E95 {d : Nat} {h : j_H} {a0 : Nat} : c_call (d + 1) 95 [jR a0] h = j_fin (c_call d) 95 0 [some (jR a0), none] [] h := (E_of ml_95 (Nat.le_of_ble_eq_true rfl)).trans rfl
theorem ml_96 : j_ml 96 = 3 := by decide +kernel
theorem E96 {d : Nat} {h : j_H} {a0 : Nat} {x1 : Int} {x2 : Int} : c_call (d + 1) 96 [jR a0, jI x1, jI x2] h = j_fin (c_call d) 96 0 [some (jR a0), some (jI x1), some (jI x2)] [] h := (E_of ml_96 (Nat.le_of_ble_eq_true rfl)).trans rfl
theorem ml_97 : j_ml 97 = 2 := by decide +kernel
theorem E97 {d : Nat} {h : j_H} {a0 : Nat} {x1 : Int} : c_call (d + 1) 97 [jR a0, jI x1] h = j_fin (c_call d) 97 0 [some (jR a0), some (jI x1)] [] h := (E_of ml_97 (Nat.le_of_ble_eq_true rfl)).trans rfl
theorem ml_98 : j_ml 98 = 4 := by decide +kernel
theorem E98 {d : Nat} {h : j_H} {a0 : Nat} {x1 : Int} {x2 : Int} : c_call (d + 1) 98 [jR a0, jI x1, jI x2] h = j_fin (c_call d) 98 0 [some (jR a0), some (jI x1), some (jI x2), none] [] h := (E_of ml_98 (Nat.le_of_ble_eq_true rfl)).trans rfl
theorem ml_99 : j_ml 99 = 3 := by decide +kernel
theorem E99 {d : Nat} {h : j_H} {a0 : Nat} {x1 : Int} {x2 : Int} : c_call (d + 1) 99 [jR a0, jI x1, jI x2] h = j_fin (c_call d) 99 0 [some (jR a0), some (jI x1), some (jI x2)] [] h := (E_of ml_99 (Nat.le_of_ble_eq_true rfl)).trans rfl
theorem ml_100 : j_ml 100 = 2 := by decide +kernel
theorem E100 {d : Nat} {h : j_H} {a0 : Nat} {x1 : Int} : c_call (d + 1) 100 [jR a0, jI x1] h = j_fin (c_call d) 100 0 [some (jR a0), some (jI x1)] [] h := (E_of ml_100 (Nat.le_of_ble_eq_true rfl)).trans rfl
theorem ml_101 : j_ml 101 = 3 := by decide +kernel
theorem E101 {d : Nat} {h : j_H} {a0 : Nat} {x1 : Int} {x2 : Int} : c_call (d + 1) 101 [jR a0, jI x1, jI x2] h = j_fin (c_call d) 101 0 [some (jR a0), some (jI x1), some (jI x2)] [] h := (E_of ml_101 (Nat.le_of_ble_eq_true rfl)).trans rfl
theorem ml_102 : j_ml 102 = 3 := by decide +kernel
theorem E102 {d : Nat} {h : j_H} {a0 : Nat} {x1 : Int} {x2 : Int} : c_call (d + 1) 102 [jR a0, jI x1, jI x2] h = j_fin (c_call d) 102 0 [some (jR a0), some (jI x1), some (jI x2)] [] h := (E_of ml_102 (Nat.le_of_ble_eq_true rfl)).trans rfl
theorem ml_103 : j_ml 103 = 6 := by decide +kernel
theorem E103 {d : Nat} {h : j_H} {a0 : Nat} {x1 : Int} {x2 : Int} {x3 : Int} : c_call (d + 1) 103 [jR a0, jI x1, jI x2, jI x3] h = j_fin (c_call d) 103 0 [some (jR a0), some (jI x1), some (jI x2), some (jI x3), none, none] [] h := (E_of ml_103 (Nat.le_of_ble_eq_true rfl)).trans rfl
theorem ml_104 : j_ml 104 = 2 := by decide +kernel
theorem E104 {d : Nat} {h : j_H} {a0 : Nat} {x1 : Int} : c_call (d + 1) 104 [jR a0, jI x1] h = j_fin (c_call d) 104 0 [some (jR a0), some (jI x1)] [] h := (E_of ml_104 (Nat.le_of_ble_eq_true rfl)).trans rfl
theorem ml_105 : j_ml 105 = 4 := by decide +kernel
theorem E105 {d : Nat} {h : j_H} {a0 : Nat} {x1 : Int} {x2 : Int} : c_call (d + 1) 105 [jR a0, jI x1, jI x2] h = j_fin (c_call d) 105 0 [some (jR a0), some (jI x1), some (jI x2), none] [] h := (E_of ml_105 (Nat.le_of_ble_eq_true rfl)).trans rfl
theorem ml_106 : j_ml 106 = 3 := by decide +kernel
theorem E106 {d : Nat} {h : j_H} {a0 : Nat} {x1 : Int} : c_call (d + 1) 106 [jR a0, jI x1] h = j_fin (c_call d) 106 0 [some (jR a0), some (jI x1), none] [] h := (E_of ml_106 (Nat.le_of_ble_eq_true rfl)).trans rfl
theorem ml_107 : j_ml 107 = 2 := by decide +kernel
theorem E107 {d : Nat} {h : j_H} {a0 : Nat} {x1 : Int} : c_call (d + 1) 107 [jR a0, jI x1] h = j_fin (c_call d) 107 0 [some (jR a0), some (jI x1)] [] h := (E_of ml_107 (Nat.le_of_ble_eq_true rfl)).trans rfl
theorem ml_108 : j_ml 108 = 5 := by decide +kernel
theorem E108 {d : Nat} {h : j_H} {a0 : Nat} : c_call (d + 1) 108 [jR a0] h = j_fin (c_call d) 108 0 [some (jR a0), none, none, none, none] [] h := (E_of ml_108 (Nat.le_of_ble_eq_true rfl)).trans rfl
theorem ml_109 : j_ml 109 = 3 := by decide +kernel
theorem E109 {d : Nat} {h : j_H} {a0 : Nat} {x1 : Int} : c_call (d + 1) 109 [jR a0, jI x1] h = j_fin (c_call d) 109 0 [some (jR a0), some (jI x1), none] [] h := (E_of ml_109 (Nat.le_of_ble_eq_true rfl)).trans rfl
theorem ml_110 : j_ml 110 = 3 := by decide +kernel
theorem E110 {d : Nat} {h : j_H} {a0 : Nat} {x1 : Int} : c_call (d + 1) 110 [jR a0, jI x1] h = j_fin (c_call d) 110 0 [some (jR a0), some (jI x1), none] [] h := (E_of ml_110 (Nat.le_of_ble_eq_true rfl)).trans rfl
theorem ml_111 : j_ml 111 = 4 := by decide +kernel
theorem E111 {d : Nat} {h : j_H} {a0 : Nat} {x1 : Int} : c_call (d + 1) 111 [jR a0, jI x1] h = j_fin (c_call d) 111 0 [some (jR a0), some (jI x1), none, none] [] h := (E_of ml_111 (Nat.le_of_ble_eq_true rfl)).trans rfl
theorem ml_112 : j_ml 112 = 2 := by decide +kernel
theorem E112 {d : Nat} {h : j_H} {a0 : Nat} {x1 : Int} : c_call (d + 1) 112 [jR a0, jI x1] h = j_fin (c_call d) 112 0 [some (jR a0), some (jI x1)] [] h := (E_of ml_112 (Nat.le_of_ble_eq_true rfl)).trans rfl
theorem ml_113 : j_ml 113 = 3 := by decide +kernel
theorem E113 {d : Nat} {h : j_H} {a0 : Nat} {x1 : Int} : c_call (d + 1) 113 [jR a0, jI x1] h = j_fin (c_call d) 113 0 [some (jR a0), some (jI x1), none] [] h := (E_of ml_113 (Nat.le_of_ble_eq_true rfl)).trans rfl
theorem ml_114 : j_ml 114 = 3 := by decide +kernel
theorem E114 {d : Nat} {h : j_H} {a0 : Nat} {x1 : Int} : c_call (d + 1) 114 [jR a0, jI x1] h = j_fin (c_call d) 114 0 [some (jR a0), some (jI x1), none] [] h := (E_of ml_114 (Nat.le_of_ble_eq_true rfl)).trans rfl
theorem ml_115 : j_ml 115 = 3 := by decide +kernel
theorem E115 {d : Nat} {h : j_H} {a0 : Nat} {x1 : Int} {x2 : Int} : c_call (d + 1) 115 [jR a0, jI x1, jI x2] h = j_fin (c_call d) 115 0 [some (jR a0), some (jI x1), some (jI x2)] [] h := (E_of ml_115 (Nat.le_of_ble_eq_true rfl)).trans rfl
theorem ml_116 : j_ml 116 = 3 := by decide +kernel
theorem E116 {d : Nat} {h : j_H} {a0 : Nat} {x1 : Int} {x2 : Int} : c_call (d + 1) 116 [jR a0, jI x1, jI x2] h = j_fin (c_call d) 116 0 [some (jR a0), some (jI x1), some (jI x2)] [] h := (E_of ml_116 (Nat.le_of_ble_eq_true rfl)).trans rfl
theorem ml_117 : j_ml 117 = 6 := by decide +kernel
theorem E117 {d : Nat} {h : j_H} {a0 : Nat} {x1 : Int} {x2 : Int} : c_call (d + 1) 117 [jR a0, jI x1, jI x2] h = j_fin (c_call d) 117 0 [some (jR a0), some (jI x1), some (jI x2), none, none, none] [] h := (E_of ml_117 (Nat.le_of_ble_eq_true rfl)).trans rfl
theorem ml_118 : j_ml 118 = 9 := by decide +kernel
theorem E118 {d : Nat} {h : j_H} {a0 : Nat} {x1 : Int} {x2 : Int} {x3 : Int} {x4 : Int} {x5 : Int} : c_call (d + 1) 118 [jR a0, jI x1, jI x2, jI x3, jI x4, jI x5] h = j_fin (c_call d) 118 0 [some (jR a0), some (jI x1), some (jI x2), some (jI x3), some (jI x4), some (jI x5), none, none, none] [] h := (E_of ml_118 (Nat.le_of_ble_eq_true rfl)).trans rfl
theorem ml_119 : j_ml 119 = 4 := by decide +kernel
theorem E119 {d : Nat} {h : j_H} {a0 : Nat} {x1 : Int} : c_call (d + 1) 119 [jR a0, jI x1] h = j_fin (c_call d) 119 0 [some (jR a0), some (jI x1), none, none] [] h := (E_of ml_119 (Nat.le_of_ble_eq_true rfl)).trans rfl
theorem ml_120 : j_ml 120 = 3 := by decide +kernel
theorem E120 {d : Nat} {h : j_H} {a0 : Nat} {x1 : Int} {x2 : Int} : c_call (d + 1) 120 [jR a0, jI x1, jI x2] h = j_fin (c_call d) 120 0 [some (jR a0), some (jI x1), some (jI x2)] [] h := (E_of ml_120 (Nat.le_of_ble_eq_true rfl)).trans rfl
theorem ml_121 : j_ml 121 = 5 := by decide +kernel
theorem E121 {d : Nat} {h : j_H} {a0 : Nat} {x1 : Int} {x2 : Int} : c_call (d + 1) 121 [jR a0, jI x1, jI x2] h = j_fin (c_call d) 121 0 [some (jR a0), some (jI x1), some (jI x2), none, none] [] h := (E_of ml_121 (Nat.le_of_ble_eq_true rfl)).trans rfl
theorem ml_122 : j_ml 122 = 3 := by decide +kernel
theorem E122 {d : Nat} {h : j_H} {a0 : Nat} {x1 : Int} {x2 : Int} : c_call (d + 1) 122 [jR a0, jI x1, jI x2] h = j_fin (c_call d) 122 0 [some (jR a0), some (jI x1), some (jI x2)] [] h := (E_of ml_122 (Nat.le_of_ble_eq_true rfl)).trans rfl
theorem ml_123 : j_ml 123 = 4 := by decide +kernel
theorem E123 {d : Nat} {h : j_H} {a0 : Nat} {x1 : Int} : c_call (d + 1) 123 [jR a0, jI x1] h = j_fin (c_call d) 123 0 [some (jR a0), some (jI x1), none, none] [] h := (E_of ml_123 (Nat.le_of_ble_eq_true rfl)).trans rfl
theorem ml_124 : j_ml 124 = 3 := by decide +kernel
theorem E124 {d : Nat} {h : j_H} {a0 : Nat} : c_call (d + 1) 124 [jR a0] h = j_fin (c_call d) 124 0 [some (jR a0), none, none] [] h := (E_of ml_124 (Nat.le_of_ble_eq_true rfl)).trans rfl
theorem ml_125 : j_ml 125 = 4 := by decide +kernel
theorem E125 {d : Nat} {h : j_H} {a0 : Nat} {x1 : Int} {x2 : Int} {x3 : Int} : c_call (d + 1) 125 [jR a0, jI x1, jI x2, jI x3] h = j_fin (c_call d) 125 0 [some (jR a0), some (jI x1), some (jI x2), some (jI x3)] [] h := (E_of ml_125 (Nat.le_of_ble_eq_true rfl)).trans rfl
theorem ml_126 : j_ml 126 = 2 := by decide +kernel
theorem E126 {d : Nat} {h : j_H} {a0 : Nat} : c_call (d + 1) 126 [jR a0] h = j_fin (c_call d) 126 0 [some (jR a0), none] [] h := (E_of ml_126 (Nat.le_of_ble_eq_true rfl)).trans rfl
theorem ml_127 : j_ml 127 = 5 := by decide +kernel
theorem E127 {d : Nat} {h : j_H} {a0 : Nat} {x1 : Int} {x2 : Int} : c_call (d + 1) 127 [jR a0, jI x1, jI x2] h = j_fin (c_call d) 127 0 [some (jR a0), some (jI x1), some (jI x2), none, none] [] h := (E_of ml_127 (Nat.le_of_ble_eq_true rfl)).trans rfl
theorem ml_128 : j_ml 128 = 1 := by decide +kernel
theorem E128 {d : Nat} {h : j_H} {a0 : Nat} : c_call (d + 1) 128 [jR a0] h = j_fin (c_call d) 128 0 [some (jR a0)] [] h := (E_of ml_128 (Nat.le_of_ble_eq_true rfl)).trans rfl
theorem ml_129 : j_ml 129 = 1 := by decide +kernel
theorem E129 {d : Nat} {h : j_H} {a0 : Nat} : c_call (d + 1) 129 [jR a0] h = j_fin (c_call d) 129 0 [some (jR a0)] [] h := (E_of ml_129 (Nat.le_of_ble_eq_true rfl)).trans rfl
theorem ml_130 : j_ml 130 = 2 := by decide +kernel
theorem E130 {d : Nat} {h : j_H} {a0 : Nat} {x1 : Int} : c_call (d + 1) 130 [jR a0, jI x1] h = j_fin (c_call d) 130 0 [some (jR a0), some (jI x1)] [] h := (E_of ml_130 (Nat.le_of_ble_eq_true rfl)).trans rfl
theorem ml_131 : j_ml 131 = 4 := by decide +kernel
theorem E131 {d : Nat} {h : j_H} {a0 : Nat} {x1 : Int} {x2 : Int} {x3 : Int} : c_call (d + 1) 131 [jR a0, jI x1, jI x2, jI x3] h = j_fin (c_call d) 131 0 [some (jR a0), some (jI x1), some (jI x2), some (jI x3)] [] h := (E_of ml_131 (Nat.le_of_ble_eq_true rfl)).trans rfl
theorem ml_132 : j_ml 132 = 5 := by decide +kernel
theorem E132 {d : Nat} {h : j_H} {a0 : Nat} {x1 : Int} {x2 : Int} {x3 : Int} : c_call (d + 1) 132 [jR a0, jI x1, jI x2, jL x3] h = j_fin (c_call d) 132 0 [some (jR a0), some (jI x1), some (jI x2), some (jL x3), none] [] h := (E_of ml_132 (Nat.le_of_ble_eq_true rfl)).trans rfl
theorem ml_133 : j_ml 133 = 3 := by decide +kernel
theorem E133 {d : Nat} {h : j_H} {a0 : Nat} {x1 : Int} {x2 : Int} : c_call (d + 1) 133 [jR a0, jI x1, jI x2] h = j_fin (c_call d) 133 0 [some (jR a0), some (jI x1), some (jI x2)] [] h := (E_of ml_133 (Nat.le_of_ble_eq_true rfl)).trans rfl
theorem ml_134 : j_ml 134 = 6 := by decide +kernel
theorem E134 {d : Nat} {h : j_H} {a0 : Nat} {x1 : Int} {x2 : Int} {x3 : Int} {x4 : Int} {x5 : Int} : c_call (d + 1) 134 [jR a0, jI x1, jI x2, jI x3, jI x4, jI x5] h = j_fin (c_call d) 134 0 [some (jR a0), some (jI x1), some (jI x2), some (jI x3), some (jI x4), some (jI x5)] [] h := (E_of ml_134 (Nat.le_of_ble_eq_true rfl)).trans rfl
theorem ml_135 : j_ml 135 = 2 := by decide +kernel
theorem E135 {d : Nat} {h : j_H} {a0 : Nat} {x1 : Int} : c_call (d + 1) 135 [jR a0, jI x1] h = j_fin (c_call d) 135 0 [some (jR a0), some (jI x1)] [] h := (E_of ml_135 (Nat.le_of_ble_eq_true rfl)).trans rfl
theorem ml_136 : j_ml 136 = 2 := by decide +kernel
theorem E136 {d : Nat} {h : j_H} {a0 : Nat} {x1 : Int} : c_call (d + 1) 136 [jR a0, jI x1] h = j_fin (c_call d) 136 0 [some (jR a0), some (jI x1)] [] h := (E_of ml_136 (Nat.le_of_ble_eq_true rfl)).trans rfl
theorem ml_137 : j_ml 137 = 2 := by decide +kernel
theorem E137 {d : Nat} {h : j_H} {a0 : Nat} {x1 : Int} : c_call (d + 1) 137 [jR a0, jI x1] h = j_fin (c_call d) 137 0 [some (jR a0), some (jI x1)] [] h := (E_of ml_137 (Nat.le_of_ble_eq_true rfl)).trans rfl
theorem ml_138 : j_ml 138 = 2 := by decide +kernel
theorem E138 {d : Nat} {h : j_H} {a0 : Nat} {x1 : Int} : c_call (d + 1) 138 [jR a0, jI x1] h = j_fin (c_call d) 138 0 [some (jR a0), some (jI x1)] [] h := (E_of ml_138 (Nat.le_of_ble_eq_true rfl)).trans rfl
theorem ml_139 : j_ml 139 = 1 := by decide +kernel
theorem E139 {d : Nat} {h : j_H} {x0 : Int} : c_call (d + 1) 139 [jI x0] h = j_fin (c_call d) 139 0 [some (jI x0)] [] h := (E_of ml_139 (Nat.le_of_ble_eq_true rfl)).trans rfl
theorem ml_140 : j_ml 140 = 1 := by decide +kernel
theorem E140 {d : Nat} {h : j_H} {x0 : Int} : c_call (d + 1) 140 [jI x0] h = j_fin (c_call d) 140 0 [some (jI x0)] [] h := (E_of ml_140 (Nat.le_of_ble_eq_true rfl)).trans rfl
theorem ml_141 : j_ml 141 = 1 := by decide +kernel
theorem E141 {d : Nat} {h : j_H} {x0 : Int} : c_call (d + 1) 141 [jI x0] h = j_fin (c_call d) 141 0 [some (jI x0)] [] h := (E_of ml_141 (Nat.le_of_ble_eq_true rfl)).trans rfl
theorem ml_142 : j_ml 142 = 1 := by decide +kernel
theorem E142 {d : Nat} {h : j_H} {x0 : Int} : c_call (d + 1) 142 [jI x0] h = j_fin (c_call d) 142 0 [some (jI x0)] [] h := (E_of ml_142 (Nat.le_of_ble_eq_true rfl)).trans rfl
theorem ml_143 : j_ml 143 = 2 := by decide +kernel
theorem E143 {d : Nat} {h : j_H} {x0 : Int} {x1 : Int} : c_call (d + 1) 143 [jI x0, jI x1] h = j_fin (c_call d) 143 0 [some (jI x0), some (jI x1)] [] h := (E_of ml_143 (Nat.le_of_ble_eq_true rfl)).trans rfl
theorem ml_144 : j_ml 144 = 2 := by decide +kernel
theorem E144 {d : Nat} {h : j_H} {x0 : Int} : c_call (d + 1) 144 [jL x0] h = j_fin (c_call d) 144 0 [some (jL x0), none] [] h := (E_of ml_144 (Nat.le_of_ble_eq_true rfl)).trans rfl
theorem ml_145 : j_ml 145 = 2 := by decide +kernel
theorem E145 {d : Nat} {h : j_H} {a0 : Nat} : c_call (d + 1) 145 [jR a0] h = j_fin (c_call d) 145 0 [some (jR a0), none] [] h := (E_of ml_145 (Nat.le_of_ble_eq_true rfl)).trans rfl
theorem ml_146 : j_ml 146 = 12 := by decide +kernel
theorem E146 {d : Nat} {h : j_H} {x0 : Int} {x1 : Int} {x2 : Int} : c_call (d + 1) 146 [jL x0, jL x1, jI x2] h = j_fin (c_call d) 146 0 [some (jL x0), none, some (jL x1), none, some (jI x2), none, none, none, none, none, none, none] [] h := (E_of ml_146 (Nat.le_of_ble_eq_true rfl)).trans rfl
theorem ml_149 : j_ml 149 = 4 := by decide +kernel
theorem E149 {d : Nat} {h : j_H} {a0 : Nat} {x1 : Int} : c_call (d + 1) 149 [jR a0, jI x1] h = j_fin (c_call d) 149 0 [some (jR a0), some (jI x1), none, none] [] h := (E_of ml_149 (Nat.le_of_ble_eq_true rfl)).trans rfl
theorem ml_150 : j_ml 150 = 6 := by decide +kernel
theorem E150 {d : Nat} {h : j_H} {x0 : Int} {x1 : Int} {x2 : Int} : c_call (d + 1) 150 [jL x0, jL x1, jL x2] h = j_fin (c_call d) 150 0 [some (jL x0), none, some (jL x1), none, some (jL x2), none] [] h := (E_of ml_150 (Nat.le_of_ble_eq_true rfl)).trans rfl
theorem ml_151 : j_ml 151 = 1 := by decide +kernel
theorem E151 {d : Nat} {h : j_H} {a0 : Nat} : c_call (d + 1) 151 [jR a0] h = j_fin (c_call d) 151 0 [some (jR a0)] [] h := (E_of ml_151 (Nat.le_of_ble_eq_true rfl)).trans rfl
theorem ml_152 : j_ml 152 = 2 := by decide +kernel
theorem E152 {d : Nat} {h : j_H} {a0 : Nat} {x1 : Int} : c_call (d + 1) 152 [jR a0, jI x1] h = j_fin (c_call d) 152 0 [some (jR a0), some (jI x1)] [] h := (E_of ml_152 (Nat.le_of_ble_eq_true rfl)).trans rfl
theorem ml_153 : j_ml 153 = 2 := by decide +kernel
theorem E153 {d : Nat} {h : j_H} {a0 : Nat} {x1 : Int} : c_call (d + 1) 153 [jR a0, jI x1] h = j_fin (c_call d) 153 0 [some (jR a0), some (jI x1)] [] h := (E_of ml_153 (Nat.le_of_ble_eq_true rfl)).trans rfl
theorem ml_154 : j_ml 154 = 2 := by decide +kernel
theorem E154 {d : Nat} {h : j_H} {a0 : Nat} {x1 : Int} : c_call (d + 1) 154 [jR a0, jI x1] h = j_fin (c_call d) 154 0 [some (jR a0), some (jI x1)] [] h := (E_of ml_154 (Nat.le_of_ble_eq_true rfl)).trans rfl
theorem ml_155 : j_ml 155 = 2 := by decide +kernel
theorem E155 {d : Nat} {h : j_H} {a0 : Nat} {x1 : Int} : c_call (d + 1) 155 [jR a0, jI x1] h = j_fin (c_call d) 155 0 [some (jR a0), some (jI x1)] [] h := (E_of ml_155 (Nat.le_of_ble_eq_true rfl)).trans rfl
theorem ml_156 : j_ml 156 = 3 := by decide +kernel
theorem E156 {d : Nat} {h : j_H} {a0 : Nat} {x1 : Int} {x2 : Int} : c_call (d + 1) 156 [jR a0, jI x1, jI x2] h = j_fin (c_call d) 156 0 [some (jR a0), some (jI x1), some (jI x2)] [] h := (E_of ml_156 (Nat.le_of_ble_eq_true rfl)).trans rfl
theorem ml_157 : j_ml 157 = 3 := by decide +kernel
theorem E157 {d : Nat} {h : j_H} {a0 : Nat} {x1 : Int} {x2 : Int} : c_call (d + 1) 157 [jR a0, jI x1, jI x2] h = j_fin (c_call d) 157 0 [some (jR a0), some (jI x1), some (jI x2)] [] h := (E_of ml_157 (Nat.le_of_ble_eq_true rfl)).trans rfl
theorem ml_158 : j_ml 158 = 2 := by decide +kernel
theorem E158 {d : Nat} {h : j_H} {a0 : Nat} {x1 : Int} : c_call (d + 1) 158 [jR a0, jI x1] h = j_fin (c_call d) 158 0 [some (jR a0), some (jI x1)] [] h := (E_of ml_158 (Nat.le_of_ble_eq_true rfl)).trans rfl
theorem ml_159 : j_ml 159 = 3 := by decide +kernel
theorem E159 {d : Nat} {h : j_H} {a0 : Nat} {x1 : Int} : c_call (d + 1) 159 [jR a0, jI x1] h = j_fin (c_call d) 159 0 [some (jR a0), some (jI x1), none] [] h := (E_of ml_159 (Nat.le_of_ble_eq_true rfl)).trans rfl
theorem ml_160 : j_ml 160 = 4 := by decide +kernel
theorem E160 {d : Nat} {h : j_H} {a0 : Nat} {x1 : Int} {x2 : Int} : c_call (d + 1) 160 [jR a0, jI x1, jI x2] h = j_fin (c_call d) 160 0 [some (jR a0), some (jI x1), some (jI x2), none] [] h := (E_of ml_160 (Nat.le_of_ble_eq_true rfl)).trans rfl
theorem ml_161 : j_ml 161 = 5 := by decide +kernel
theorem E161 {d : Nat} {h : j_H} {a0 : Nat} {x1 : Int} {x2 : Int} : c_call (d + 1) 161 [jR a0, jI x1, jI x2] h = j_fin (c_call d) 161 0 [some (jR a0), some (jI x1), some (jI x2), none, none] [] h := (E_of ml_161 (Nat.le_of_ble_eq_true rfl)).trans rfl
theorem ml_162 : j_ml 162 = 3 := by decide +kernel
theorem E162 {d : Nat} {h : j_H} {a0 : Nat} {x1 : Int} {x2 : Int} : c_call (d + 1) 162 [jR a0, jI x1, jI x2] h = j_fin (c_call d) 162 0 [some (jR a0), some (jI x1), some (jI x2)] [] h := (E_of ml_162 (Nat.le_of_ble_eq_true rfl)).trans rfl
theorem ml_163 : j_ml 163 = 5 := by decide +kernel
theorem E163 {d : Nat} {h : j_H} {a0 : Nat} {x1 : Int} {x2 : Int} {x3 : Int} : c_call (d + 1) 163 [jR a0, jI x1, jI x2, jI x3] h = j_fin (c_call d) 163 0 [some (jR a0), some (jI x1), some (jI x2), some (jI x3), none] [] h := (E_of ml_163 (Nat.le_of_ble_eq_true rfl)).trans rfl
theorem ml_164 : j_ml 164 = 4 := by decide +kernel
theorem E164 {d : Nat} {h : j_H} {a0 : Nat} {x1 : Int} {x2 : Int} : c_call (d + 1) 164 [jR a0, jI x1, jI x2] h = j_fin (c_call d) 164 0 [some (jR a0), some (jI x1), some (jI x2), none] [] h := (E_of ml_164 (Nat.le_of_ble_eq_true rfl)).trans rfl
theorem ml_165 : j_ml 165 = 1 := by decide +kernel
theorem E165 {d : Nat} {h : j_H} {a0 : Nat} : c_call (d + 1) 165 [jR a0] h = j_fin (c_call d) 165 0 [some (jR a0)] [] h := (E_of ml_165 (Nat.le_of_ble_eq_true rfl)).trans rfl
theorem ml_166 : j_ml 166 = 3 := by decide +kernel
theorem E166 {d : Nat} {h : j_H} {a0 : Nat} {x1 : Int} {x2 : Int} : c_call (d + 1) 166 [jR a0, jI x1, jI x2] h = j_fin (c_call d) 166 0 [some (jR a0), some (jI x1), some (jI x2)] [] h := (E_of ml_166 (Nat.le_of_ble_eq_true rfl)).trans rfl
theorem ml_167 : j_ml 167 = 2 := by decide +kernel
theorem E167 {d : Nat} {h : j_H} {a0 : Nat} {x1 : Int} : c_call (d + 1) 167 [jR a0, jI x1] h = j_fin (c_call d) 167 0 [some (jR a0), some (jI x1)] [] h := (E_of ml_167 (Nat.le_of_ble_eq_true rfl)).trans rfl
theorem ml_168 : j_ml 168 = 1 := by decide +kernel
theorem E168 {d : Nat} {h : j_H} {a0 : Nat} : c_call (d + 1) 168 [jR a0] h = j_fin (c_call d) 168 0 [some (jR a0)] [] h := (E_of ml_168 (Nat.le_of_ble_eq_true rfl)).trans rfl
theorem ml_169 : j_ml 169 = 2 := by decide +kernel
theorem E169 {d : Nat} {h : j_H} {a0 : Nat} {x1 : Int} : c_call (d + 1) 169 [jR a0, jI x1] h = j_fin (c_call d) 169 0 [some (jR a0), some (jI x1)] [] h := (E_of ml_169 (Nat.le_of_ble_eq_true rfl)).trans rfl
theorem ml_170 : j_ml 170 = 1 := by decide +kernel
theorem E170 {d : Nat} {h : j_H} {a0 : Nat} : c_call (d + 1) 170 [jR a0] h = j_fin (c_call d) 170 0 [some (jR a0)] [] h := (E_of ml_170 (Nat.le_of_ble_eq_true rfl)).trans rfl
theorem ml_171 : j_ml 171 = 5 := by decide +kernel
theorem E171 {d : Nat} {h : j_H} {a0 : Nat} {x1 : Int} {x2 : Int} : c_call (d + 1) 171 [jR a0, jI x1, jI x2] h = j_fin (c_call d) 171 0 [some (jR a0), some (jI x1), some (jI x2), none, none] [] h := (E_of ml_171 (Nat.le_of_ble_eq_true rfl)).trans rfl
theorem ml_172 : j_ml 172 = 3 := by decide +kernel
theorem E172 {d : Nat} {h : j_H} {a0 : Nat} {x1 : Int} : c_call (d + 1) 172 [jR a0, jI x1] h = j_fin (c_call d) 172 0 [some (jR a0), some (jI x1), none] [] h := (E_of ml_172 (Nat.le_of_ble_eq_true rfl)).trans rfl
theorem ml_173 : j_ml 173 = 5 := by decide +kernel
theorem E173 {d : Nat} {h : j_H} {a0 : Nat} {x1 : Int} : c_call (d + 1) 173 [jR a0, jI x1] h = j_fin (c_call d) 173 0 [some (jR a0), some (jI x1), none, none, none] [] h := (E_of ml_173 (Nat.le_of_ble_eq_true rfl)).trans rfl
theorem ml_174 : j_ml 174 = 3 := by decide +kernel
theorem E174 {d : Nat} {h : j_H} {a0 : Nat} {x1 : Int} : c_call (d + 1) 174 [jR a0, jI x1] h = j_fin (c_call d) 174 0 [some (jR a0), some (jI x1), none] [] h := (E_of ml_174 (Nat.le_of_ble_eq_true rfl)).trans rfl
theorem ml_175 : j_ml 175 = 3 := by decide +kernel
theorem E175 {d : Nat} {h : j_H} {a0 : Nat} : c_call (d + 1) 175 [jR a0] h = j_fin (c_call d) 175 0 [some (jR a0), none, none] [] h := (E_of ml_175 (Nat.le_of_ble_eq_true rfl)).trans rfl
theorem ml_176 : j_ml 176 = 4 := by decide +kernel
theorem E176 {d : Nat} {h : j_H} {a0 : Nat} : c_call (d + 1) 176 [jR a0] h = j_fin (c_call d) 176 0 [some (jR a0), none, none, none] [] h := (E_of ml_176 (Nat.le_of_ble_eq_true rfl)).trans rfl
theorem ml_177 : j_ml 177 = 6 := by decide +kernel
theorem E177 {d : Nat} {h : j_H} {a0 : Nat} {a1 : Nat} {x2 : Int} {x3 : Int} : c_call (d + 1) 177 [jR a0, jR a1, jI x2, jL x3] h = j_fin (c_call d) 177 0 [some (jR a0), some (jR a1), some (jI x2), some (jL x3), none, none] [] h := (E_of ml_177 (Nat.le_of_ble_eq_true rfl)).trans rfl
theorem ml_178 : j_ml 178 = 4 := by decide +kernel
theorem E178 {d : Nat} {h : j_H} {a0 : Nat} {a1 : Nat} : c_call (d + 1) 178 [jR a0, jR a1] h = j_fin (c_call d) 178 0 [some (jR a0), some (jR a1), none, none] [] h := (E_of ml_178 (Nat.le_of_ble_eq_true rfl)).trans rfl
theorem ml_179 : j_ml 179 = 2 := by decide +kernel
theorem E179 {d : Nat} {h : j_H} {x0 : Int} : c_call (d + 1) 179 [jL x0] h = j_fin (c_call d) 179 0 [some (jL x0), none] [] h := (E_of ml_179 (Nat.le_of_ble_eq_true rfl)).trans rfl
theorem ml_180 : j_ml 180 = 13 := by decide +kernel
theorem E180 {d : Nat} {h : j_H} {a0 : Nat} {a1 : Nat} {x2 : Int} {x3 : Int} : c_call (d + 1) 180 [jR a0, jR a1, jI x2, jI x3] h = j_fin (c_call d) 180 0 [some (jR a0), some (jR a1), some (jI x2), some (jI x3), none, none, none, none, none, none, none, none, none] [] h := (E_of ml_180 (Nat.le_of_ble_eq_true rfl)).trans rfl
theorem ml_181 : j_ml 181 = 7 := by decide +kernel
theorem E181 {d : Nat} {h : j_H} {a0 : Nat} {a1 : Nat} {x2 : Int} {x3 : Int} : c_call (d + 1) 181 [jR a0, jR a1, jI x2, jI x3] h = j_fin (c_call d) 181 0 [some (jR a0), some (jR a1), some (jI x2), some (jI x3), none, none, none] [] h := (E_of ml_181 (Nat.le_of_ble_eq_true rfl)).trans rfl
theorem ml_182 : j_ml 182 = 9 := by decide +kernel
theorem E182 {d : Nat} {h : j_H} {a0 : Nat} {a1 : Nat} {x2 : Int} : c_call (d + 1) 182 [jR a0, jR a1, jI x2] h = j_fin (c_call d) 182 0 [some (jR a0), some (jR a1), some (jI x2), none, none, none, none, none, none] [] h := (E_of ml_182 (Nat.le_of_ble_eq_true rfl)).trans rfl
theorem ml_183 : j_ml 183 = 4 := by decide +kernel
theorem E183 {d : Nat} {h : j_H} {a0 : Nat} {a1 : Nat} : c_call (d + 1) 183 [jR a0, jR a1] h = j_fin (c_call d) 183 0 [some (jR a0), some (jR a1), none, none] [] h := (E_of ml_183 (Nat.le_of_ble_eq_true rfl)).trans rfl
theorem ml_184 : j_ml 184 = 4 := by decide +kernel
theorem E184 {d : Nat} {h : j_H} {a0 : Nat} {a1 : Nat} {x2 : Int} : c_call (d + 1) 184 [jR a0, jR a1, jI x2] h = j_fin (c_call d) 184 0 [some (jR a0), some (jR a1), some (jI x2), none] [] h := (E_of ml_184 (Nat.le_of_ble_eq_true rfl)).trans rfl
theorem ml_185 : j_ml 185 = 3 := by decide +kernel
theorem E185 {d : Nat} {h : j_H} {a0 : Nat} {a1 : Nat} : c_call (d + 1) 185 [jR a0, jR a1] h = j_fin (c_call d) 185 0 [some (jR a0), some (jR a1), none] [] h := (E_of ml_185 (Nat.le_of_ble_eq_true rfl)).trans rfl
theorem ml_186 : j_ml 186 = 4 := by decide +kernel
theorem E186 {d : Nat} {h : j_H} {a0 : Nat} {a1 : Nat} {x2 : Int} {x3 : Int} : c_call (d + 1) 186 [jR a0, jR a1, jI x2, jI x3] h = j_fin (c_call d) 186 0 [some (jR a0), some (jR a1), some (jI x2), some (jI x3)] [] h := (E_of ml_186 (Nat.le_of_ble_eq_true rfl)).trans rfl
theorem ml_187 : j_ml 187 = 3 := by decide +kernel
theorem E187 {d : Nat} {h : j_H} {a0 : Nat} {a1 : Nat} {x2 : Int} : c_call (d + 1) 187 [jR a0, jR a1, jI x2] h = j_fin (c_call d) 187 0 [some (jR a0), some (jR a1), some (jI x2)] [] h := (E_of ml_187 (Nat.le_of_ble_eq_true rfl)).trans rfl
theorem ml_188 : j_ml 188 = 11 := by decide +kernel
theorem E188 {d : Nat} {h : j_H} {a0 : Nat} {a1 : Nat} {x2 : Int} : c_call (d + 1) 188 [jR a0, jR a1, jI x2] h = j_fin (c_call d) 188 0 [some (jR a0), some (jR a1), some (jI x2), none, none, none, none, none, none, none, none] [] h := (E_of ml_188 (Nat.le_of_ble_eq_true rfl)).trans rfl
theorem ml_189 : j_ml 189 = 7 := by decide +kernel
theorem E189 {d : Nat} {h : j_H} {a0 : Nat} {a1 : Nat} {x2 : Int} : c_call (d + 1) 189 [jR a0, jR a1, jI x2] h = j_fin (c_call d) 189 0 [some (jR a0), some (jR a1), some (jI x2), none, none, none, none] [] h := (E_of ml_189 (Nat.le_of_ble_eq_true rfl)).trans rfl
theorem ml_190 : j_ml 190 = 1 := by decide +kernel
theorem E190 {d : Nat} {h : j_H} {x0 : Int} : c_call (d + 1) 190 [jI x0] h = j_fin (c_call d) 190 0 [some (jI x0)] [] h := (E_of ml_190 (Nat.le_of_ble_eq_true rfl)).trans rfl
theorem ml_191 : j_ml 191 = 5 := by decide +kernel
theorem E191 {d : Nat} {h : j_H} {a0 : Nat} {a1 : Nat} {x2 : Int} : c_call (d + 1) 191 [jR a0, jR a1, jI x2] h = j_fin (c_call d) 191 0 [some (jR a0), some (jR a1), some (jI x2), none, none] [] h := (E_of ml_191 (Nat.le_of_ble_eq_true rfl)).trans rfl
theorem ml_192 : j_ml 192 = 2 := by decide +kernel
theorem E192 {d : Nat} {h : j_H} {a0 : Nat} : c_call (d + 1) 192 [jR a0] h = j_fin (c_call d) 192 0 [some (jR a0), none] [] h := (E_of ml_192 (Nat.le_of_ble_eq_true rfl)).trans rfl
theorem ml_193 : j_ml 193 = 2 := by decide +kernel
theorem E193 {d : Nat} {h : j_H} {a0 : Nat} {x1 : Int} : c_call (d + 1) 193 [jR a0, jI x1] h = j_fin (c_call d) 193 0 [some (jR a0), some (jI x1)] [] h := (E_of ml_193 (Nat.le_of_ble_eq_true rfl)).trans rfl
theorem ml_194 : j_ml 194 = 3 := by decide +kernel
theorem E194 {d : Nat} {h : j_H} {a0 : Nat} {x1 : Int} {x2 : Int} : c_call (d + 1) 194 [jR a0, jI x1, jI x2] h = j_fin (c_call d) 194 0 [some (jR a0), some (jI x1), some (jI x2)] [] h := (E_of ml_194 (Nat.le_of_ble_eq_true rfl)).trans rfl
theorem ml_195 : j_ml 195 = 11 := by decide +kernel
theorem E195 {d : Nat} {h : j_H} {x0 : Int} {x1 : Int} {x2 : Int} : c_call (d + 1) 195 [jL x0, jL x1, jI x2] h = j_fin (c_call d) 195 0 [some (jL x0), none, some (jL x1), none, some (jI x2), none, none, none, none, none, none] [] h := (E_of ml_195 (Nat.le_of_ble_eq_true rfl)).trans rfl
theorem ml_196 : j_ml 196 = 1 := by decide +kernel
theorem E196 {d : Nat} {h : j_H} {x0 : Int} : c_call (d + 1) 196 [jI x0] h = j_fin (c_call d) 196 0 [some (jI x0)] [] h := (E_of ml_196 (Nat.le_of_ble_eq_true rfl)).trans rfl
theorem ml_197 : j_ml 197 = 4 := by decide +kernel
theorem E197 {d : Nat} {h : j_H} {a0 : Nat} {a1 : Nat} {x2 : Int} : c_call (d + 1) 197 [jR a0, jR a1, jI x2] h = j_fin (c_call d) 197 0 [some (jR a0), some (jR a1), some (jI x2), none] [] h := (E_of ml_197 (Nat.le_of_ble_eq_true rfl)).trans rfl
theorem ml_198 : j_ml 198 = 3 := by decide +kernel
theorem E198 {d : Nat} {h : j_H} {a0 : Nat} {x1 : Int} {x2 : Int} : c_call (d + 1) 198 [jR a0, jI x1, jI x2] h = j_fin (c_call d) 198 0 [some (jR a0), some (jI x1), some (jI x2)] [] h := (E_of ml_198 (Nat.le_of_ble_eq_true rfl)).trans rfl
theorem ml_199 : j_ml 199 = 2 := by decide +kernel
theorem E199 {d : Nat} {h : j_H} {a0 : Nat} {x1 : Int} : c_call (d + 1) 199 [jR a0, jI x1] h = j_fin (c_call d) 199 0 [some (jR a0), some (jI x1)] [] h := (E_of ml_199 (Nat.le_of_ble_eq_true rfl)).trans rfl
theorem ml_200 : j_ml 200 = 4 := by decide +kernel
theorem E200 {d : Nat} {h : j_H} {a0 : Nat} {x1 : Int} {x2 : Int} : c_call (d + 1) 200 [jR a0, jI x1, jI x2] h = j_fin (c_call d) 200 0 [some (jR a0), some (jI x1), some (jI x2), none] [] h := (E_of ml_200 (Nat.le_of_ble_eq_true rfl)).trans rfl
theorem ml_201 : j_ml 201 = 2 := by decide +kernel
theorem E201 {d : Nat} {h : j_H} {a0 : Nat} {x1 : Int} : c_call (d + 1) 201 [jR a0, jI x1] h = j_fin (c_call d) 201 0 [some (jR a0), some (jI x1)] [] h := (E_of ml_201 (Nat.le_of_ble_eq_true rfl)).trans rfl
theorem ml_202 : j_ml 202 = 3 := by decide +kernel
theorem E202 {d : Nat} {h : j_H} {a0 : Nat} {x1 : Int} {x2 : Int} : c_call (d + 1) 202 [jR a0, jI x1, jI x2] h = j_fin (c_call d) 202 0 [some (jR a0), some (jI x1), some (jI x2)] [] h := (E_of ml_202 (Nat.le_of_ble_eq_true rfl)).trans rfl
theorem ml_203 : j_ml 203 = 4 := by decide +kernel
theorem E203 {d : Nat} {h : j_H} {a0 : Nat} {x1 : Int} {x2 : Int} {x3 : Int} : c_call (d + 1) 203 [jR a0, jI x1, jI x2, jI x3] h = j_fin (c_call d) 203 0 [some (jR a0), some (jI x1), some (jI x2), some (jI x3)] [] h := (E_of ml_203 (Nat.le_of_ble_eq_true rfl)).trans rfl
theorem ml_204 : j_ml 204 = 6 := by decide +kernel
theorem E204 {d : Nat} {h : j_H} {a0 : Nat} {x1 : Int} {x2 : Int} : c_call (d + 1) 204 [jR a0, jI x1, jI x2] h = j_fin (c_call d) 204 0 [some (jR a0), some (jI x1), some (jI x2), none, none, none] [] h := (E_of ml_204 (Nat.le_of_ble_eq_true rfl)).trans rfl
theorem ml_205 : j_ml 205 = 4 := by decide +kernel
theorem E205 {d : Nat} {h : j_H} {a0 : Nat} {x1 : Int} : c_call (d + 1) 205 [jR a0, jI x1] h = j_fin (c_call d) 205 0 [some (jR a0), some (jI x1), none, none] [] h := (E_of ml_205 (Nat.le_of_ble_eq_true rfl)).trans rfl
theorem ml_206 : j_ml 206 = 4 := by decide +kernel
theorem E206 {d : Nat} {h : j_H} {a0 : Nat} {x1 : Int} {x2 : Int} : c_call (d + 1) 206 [jR a0, jI x1, jI x2] h = j_fin (c_call d) 206 0 [some (jR a0), some (jI x1), some (jI x2), none] [] h := (E_of ml_206 (Nat.le_of_ble_eq_true rfl)).trans rfl
theorem ml_207 : j_ml 207 = 3 := by decide +kernel
theorem E207 {d : Nat} {h : j_H} {a0 : Nat} {x1 : Int} : c_call (d + 1) 207 [jR a0, jI x1] h = j_fin (c_call d) 207 0 [some (jR a0), some (jI x1), none] [] h := (E_of ml_207 (Nat.le_of_ble_eq_true rfl)).trans rfl
theorem ml_208 : j_ml 208 = 5 := by decide +kernel
theorem E208 {d : Nat} {h : j_H} {a0 : Nat} {x1 : Int} : c_call (d + 1) 208 [jR a0, jI x1] h = j_fin (c_call d) 208 0 [some (jR a0), some (jI x1), none, none, none] [] h := (E_of ml_208 (Nat.le_of_ble_eq_true rfl)).trans rfl
theorem ml_209 : j_ml 209 = 4 := by decide +kernel
theorem E209 {d : Nat} {h : j_H} {a0 : Nat} : c_call (d + 1) 209 [jR a0] h = j_fin (c_call d) 209 0 [some (jR a0), none, none, none] [] h := (E_of ml_209 (Nat.le_of_ble_eq_true rfl)).trans rfl
theorem ml_210 : j_ml 210 = 3 := by decide +kernel
theorem E210 {d : Nat} {h : j_H} {a0 : Nat} : c_call (d + 1) 210 [jR a0] h = j_fin (c_call d) 210 0 [some (jR a0), none, none] [] h := (E_of ml_210 (Nat.le_of_ble_eq_true rfl)).trans rfl
theorem ml_211 : j_ml 211 = 2 := by decide +kernel
theorem E211 {d : Nat} {h : j_H} {a0 : Nat} {x1 : Int} : c_call (d + 1) 211 [jR a0, jI x1] h = j_fin (c_call d) 211 0 [some (jR a0), some (jI x1)] [] h := (E_of ml_211 (Nat.le_of_ble_eq_true rfl)).trans rfl
theorem ml_212 : j_ml 212 = 4 := by decide +kernel
theorem E212 {d : Nat} {h : j_H} {a0 : Nat} {x1 : Int} : c_call (d + 1) 212 [jR a0, jI x1] h = j_fin (c_call d) 212 0 [some (jR a0), some (jI x1), none, none] [] h := (E_of ml_212 (Nat.le_of_ble_eq_true rfl)).trans rfl
theorem ml_213 : j_ml 213 = 4 := by decide +kernel
theorem E213 {d : Nat} {h : j_H} {a0 : Nat} {x1 : Int} : c_call (d + 1) 213 [jR a0, jI x1] h = j_fin (c_call d) 213 0 [some (jR a0), some (jI x1), none, none] [] h := (E_of ml_213 (Nat.le_of_ble_eq_true rfl)).trans rfl
theorem ml_214 : j_ml 214 = 5 := by decide +kernel
theorem E214 {d : Nat} {h : j_H} {a0 : Nat} {x1 : Int} : c_call (d + 1) 214 [jR a0, jI x1] h = j_fin (c_call d) 214 0 [some (jR a0), some (jI x1), none, none, none] [] h := (E_of ml_214 (Nat.le_of_ble_eq_true rfl)).trans rfl
theorem ml_215 : j_ml 215 = 3 := by decide +kernel
theorem E215 {d : Nat} {h : j_H} {a0 : Nat} : c_call (d + 1) 215 [jR a0] h = j_fin (c_call d) 215 0 [some (jR a0), none, none] [] h := (E_of ml_215 (Nat.le_of_ble_eq_true rfl)).trans rfl
theorem ml_216 : j_ml 216 = 5 := by decide +kernel
theorem E216 {d : Nat} {h : j_H} {a0 : Nat} {x1 : Int} : c_call (d + 1) 216 [jR a0, jI x1] h = j_fin (c_call d) 216 0 [some (jR a0), some (jI x1), none, none, none] [] h := (E_of ml_216 (Nat.le_of_ble_eq_true rfl)).trans rfl
theorem ml_217 : j_ml 217 = 3 := by decide +kernel
theorem E217 {d : Nat} {h : j_H} {a0 : Nat} {x1 : Int} : c_call (d + 1) 217 [jR a0, jI x1] h = j_fin (c_call d) 217 0 [some (jR a0), some (jI x1), none] [] h := (E_of ml_217 (Nat.le_of_ble_eq_true rfl)).trans rfl
theorem ml_218 : j_ml 218 = 6 := by decide +kernel
theorem E218 {d : Nat} {h : j_H} {a0 : Nat} {x1 : Int} : c_call (d + 1) 218 [jR a0, jI x1] h = j_fin (c_call d) 218 0 [some (jR a0), some (jI x1), none, none, none, none] [] h := (E_of ml_218 (Nat.le_of_ble_eq_true rfl)).trans rfl
theorem ml_219 : j_ml 219 = 4 := by decide +kernel
theorem E219 {d : Nat} {h : j_H} {a0 : Nat} {x1 : Int} : c_call (d + 1) 219 [jR a0, jI x1] h = j_fin (c_call d) 219 0 [some (jR a0), some (jI x1), none, none] [] h := (E_of ml_219 (Nat.le_of_ble_eq_true rfl)).trans rfl
theorem ml_220 : j_ml 220 = 3 := by decide +kernel
theorem E220 {d : Nat} {h : j_H} {a0 : Nat} {x1 : Int} : c_call (d + 1) 220 [jR a0, jI x1] h = j_fin (c_call d) 220 0 [some (jR a0), some (jI x1), none] [] h := (E_of ml_220 (Nat.le_of_ble_eq_true rfl)).trans rfl
theorem ml_221 : j_ml 221 = 5 := by decide +kernel
theorem E221 {d : Nat} {h : j_H} {a0 : Nat} {x1 : Int} : c_call (d + 1) 221 [jR a0, jI x1] h = j_fin (c_call d) 221 0 [some (jR a0), some (jI x1), none, none, none] [] h := (E_of ml_221 (Nat.le_of_ble_eq_true rfl)).trans rfl
theorem ml_222 : j_ml 222 = 3 := by decide +kernel
theorem E222 {d : Nat} {h : j_H} {a0 : Nat} {x1 : Int} : c_call (d + 1) 222 [jR a0, jI x1] h = j_fin (c_call d) 222 0 [some (jR a0), some (jI x1), none] [] h := (E_of ml_222 (Nat.le_of_ble_eq_true rfl)).trans rfl
theorem ml_223 : j_ml 223 = 7 := by decide +kernel
theorem E223 {d : Nat} {h : j_H} {a0 : Nat} {x1 : Int} {x2 : Int} {x3 : Int} {x4 : Int} : c_call (d + 1) 223 [jR a0, jI x1, jI x2, jI x3, jI x4] h = j_fin (c_call d) 223 0 [some (jR a0), some (jI x1), some (jI x2), some (jI x3), some (jI x4), none, none] [] h := (E_of ml_223 (Nat.le_of_ble_eq_true rfl)).trans rfl
theorem ml_224 : j_ml 224 = 4 := by decide +kernel
theorem E224 {d : Nat} {h : j_H} {a0 : Nat} {a1 : Nat} {x2 : Int} {x3 : Int} : c_call (d + 1) 224 [jR a0, jR a1, jI x2, jI x3] h = j_fin (c_call d) 224 0 [some (jR a0), some (jR a1), some (jI x2), some (jI x3)] [] h := (E_of ml_224 (Nat.le_of_ble_eq_true rfl)).trans rfl
theorem ml_225 : j_ml 225 = 4 := by decide +kernel
theorem E225 {d : Nat} {h : j_H} {a0 : Nat} {x1 : Int} : c_call (d + 1) 225 [jR a0, jI x1] h = j_fin (c_call d) 225 0 [some (jR a0), some (jI x1), none, none] [] h := (E_of ml_225 (Nat.le_of_ble_eq_true rfl)).trans rfl
theorem ml_226 : j_ml 226 = 3 := by decide +kernel
theorem E226 {d : Nat} {h : j_H} {a0 : Nat} : c_call (d + 1) 226 [jR a0] h = j_fin (c_call d) 226 0 [some (jR a0), none, none] [] h := (E_of ml_226 (Nat.le_of_ble_eq_true rfl)).trans rfl
theorem ml_227 : j_ml 227 = 3 := by decide +kernel
theorem E227 {d : Nat} {h : j_H} {a0 : Nat} {x1 : Int} : c_call (d + 1) 227 [jR a0, jI x1] h = j_fin (c_call d) 227 0 [some (jR a0), some (jI x1), none] [] h := (E_of ml_227 (Nat.le_of_ble_eq_true rfl)).trans rfl
theorem ml_228 : j_ml 228 = 5 := by decide +kernel
theorem E228 {d : Nat} {h : j_H} {a0 : Nat} : c_call (d + 1) 228 [jR a0] h = j_fin (c_call d) 228 0 [some (jR a0), none, none, none, none] [] h := (E_of ml_228 (Nat.le_of_ble_eq_true rfl)).trans rfl
theorem ml_229 : j_ml 229 = 3 := by decide +kernel
theorem E229 {d : Nat} {h : j_H} {a0 : Nat} {x1 : Int} : c_call (d + 1) 229 [jR a0, jI x1] h = j_fin (c_call d) 229 0 [some (jR a0), some (jI x1), none] [] h := (E_of ml_229 (Nat.le_of_ble_eq_true rfl)).trans rfl
theorem ml_230 : j_ml 230 = 6 := by decide +kernel
theorem E230 {d : Nat} {h : j_H} {a0 : Nat} {x1 : Int} {x2 : Int} : c_call (d + 1) 230 [jR a0, jI x1, jI x2] h = j_fin (c_call d) 230 0 [some (jR a0), some (jI x1), some (jI x2), none, none, none] [] h := (E_of ml_230 (Nat.le_of_ble_eq_true rfl)).trans rfl
theorem ml_231 : j_ml 231 = 3 := by decide +kernel
theorem E231 {d : Nat} {h : j_H} {a0 : Nat} {x1 : Int} {x2 : Int} : c_call (d + 1) 231 [jR a0, jI x1, jI x2] h = j_fin (c_call d) 231 0 [some (jR a0), some (jI x1), some (jI x2)] [] h := (E_of ml_231 (Nat.le_of_ble_eq_true rfl)).trans rfl
theorem ml_232 : j_ml 232 = 3 := by decide +kernel
theorem E232 {d : Nat} {h : j_H} {a0 : Nat} {x1 : Int} {x2 : Int} : c_call (d + 1) 232 [jR a0, jI x1, jI x2] h = j_fin (c_call d) 232 0 [some (jR a0), some (jI x1), some (jI x2)] [] h := (E_of ml_232 (Nat.le_of_ble_eq_true rfl)).trans rfl
theorem ml_233 : j_ml 233 = 2 := by decide +kernel
theorem E233 {d : Nat} {h : j_H} {a0 : Nat} : c_call (d + 1) 233 [jR a0] h = j_fin (c_call d) 233 0 [some (jR a0), none] [] h := (E_of ml_233 (Nat.le_of_ble_eq_true rfl)).trans rfl
theorem ml_234 : j_ml 234 = 6 := by decide +kernel
theorem E234 {d : Nat} {h : j_H} {a0 : Nat} {x1 : Int} {x2 : Int} : c_call (d + 1) 234 [jR a0, jI x1, jI x2] h = j_fin (c_call d) 234 0 [some (jR a0), some (jI x1), some (jI x2), none, none, none] [] h := (E_of ml_234 (Nat.le_of_ble_eq_true rfl)).trans rfl
theorem ml_235 : j_ml 235 = 8 := by decide +kernel
theorem E235 {d : Nat} {h : j_H} {a0 : Nat} {x1 : Int} {x2 : Int} {x3 : Int} {x4 : Int} {x5 : Int} : c_call (d + 1) 235 [jR a0, jI x1, jI x2, jI x3, jI x4, jI x5] h = j_fin (c_call d) 235 0 [some (jR a0), some (jI x1), some (jI x2), some (jI x3), some (jI x4), some (jI x5), none, none] [] h := (E_of ml_235 (Nat.le_of_ble_eq_true rfl)).trans rfl
theorem ml_236 : j_ml 236 = 4 := by decide +kernel
theorem E236 {d : Nat} {h : j_H} {a0 : Nat} {x1 : Int} : c_call (d + 1) 236 [jR a0, jI x1] h = j_fin (c_call d) 236 0 [some (jR a0), some (jI x1), none, none] [] h := (E_of ml_236 (Nat.le_of_ble_eq_true rfl)).trans rfl
theorem ml_237 : j_ml 237 = 2 := by decide +kernel
theorem E237 {d : Nat} {h : j_H} {a0 : Nat} : c_call (d + 1) 237 [jR a0] h = j_fin (c_call d) 237 0 [some (jR a0), none] [] h := (E_of ml_237 (Nat.le_of_ble_eq_true rfl)).trans rfl
theorem ml_238 : j_ml 238 = 2 := by decide +kernel
theorem E238 {d : Nat} {h : j_H} {a0 : Nat} : c_call (d + 1) 238 [jR a0] h = j_fin (c_call d) 238 0 [some (jR a0), none] [] h := (E_of ml_238 (Nat.le_of_ble_eq_true rfl)).trans rfl
theorem ml_239 : j_ml 239 = 2 := by decide +kernel
theorem E239 {d : Nat} {h : j_H} {a0 : Nat} {x1 : Int} : c_call (d + 1) 239 [jR a0, jI x1] h = j_fin (c_call d) 239 0 [some (jR a0), some (jI x1)] [] h := (E_of ml_239 (Nat.le_of_ble_eq_true rfl)).trans rfl
theorem ml_240 : j_ml 240 = 5 := by decide +kernel
theorem E240 {d : Nat} {h : j_H} {a0 : Nat} {x1 : Int} {x2 : Int} : c_call (d + 1) 240 [jR a0, jI x1, jI x2] h = j_fin (c_call d) 240 0 [some (jR a0), some (jI x1), some (jI x2), none, none] [] h := (E_of ml_240 (Nat.le_of_ble_eq_true rfl)).trans rfl
theorem ml_241 : j_ml 241 = 3 := by decide +kernel
theorem E241 {d : Nat} {h : j_H} {a0 : Nat} {x1 : Int} : c_call (d + 1) 241 [jR a0, jI x1] h = j_fin (c_call d) 241 0 [some (jR a0), some (jI x1), none] [] h := (E_of ml_241 (Nat.le_of_ble_eq_true rfl)).trans rfl
theorem ml_242 : j_ml 242 = 5 := by decide +kernel
theorem E242 {d : Nat} {h : j_H} {a0 : Nat} {x1 : Int} {x2 : Int} : c_call (d + 1) 242 [jR a0, jI x1, jI x2] h = j_fin (c_call d) 242 0 [some (jR a0), some (jI x1), some (jI x2), none, none] [] h := (E_of ml_242 (Nat.le_of_ble_eq_true rfl)).trans rfl
theorem ml_243 : j_ml 243 = 4 := by decide +kernel
theorem E243 {d : Nat} {h : j_H} {a0 : Nat} {x1 : Int} {x2 : Int} : c_call (d + 1) 243 [jR a0, jI x1, jI x2] h = j_fin (c_call d) 243 0 [some (jR a0), some (jI x1), some (jI x2), none] [] h := (E_of ml_243 (Nat.le_of_ble_eq_true rfl)).trans rfl
theorem ml_244 : j_ml 244 = 4 := by decide +kernel
theorem E244 {d : Nat} {h : j_H} {a0 : Nat} {x1 : Int} : c_call (d + 1) 244 [jR a0, jI x1] h = j_fin (c_call d) 244 0 [some (jR a0), some (jI x1), none, none] [] h := (E_of ml_244 (Nat.le_of_ble_eq_true rfl)).trans rfl
theorem ml_245 : j_ml 245 = 4 := by decide +kernel
theorem E245 {d : Nat} {h : j_H} {a0 : Nat} {x1 : Int} {x2 : Int} : c_call (d + 1) 245 [jR a0, jI x1, jI x2] h = j_fin (c_call d) 245 0 [some (jR a0), some (jI x1), some (jI x2), none] [] h := (E_of ml_245 (Nat.le_of_ble_eq_true rfl)).trans rfl
theorem ml_246 : j_ml 246 = 4 := by decide +kernel
theorem E246 {d : Nat} {h : j_H} {a0 : Nat} {x1 : Int} : c_call (d + 1) 246 [jR a0, jI x1] h = j_fin (c_call d) 246 0 [some (jR a0), some (jI x1), none, none] [] h := (E_of ml_246 (Nat.le_of_ble_eq_true rfl)).trans rfl
theorem ml_247 : j_ml 247 = 2 := by decide +kernel
theorem E247 {d : Nat} {h : j_H} {a0 : Nat} {x1 : Int} : c_call (d + 1) 247 [jR a0, jI x1] h = j_fin (c_call d) 247 0 [some (jR a0), some (jI x1)] [] h := (E_of ml_247 (Nat.le_of_ble_eq_true rfl)).trans rfl
theorem ml_248 : j_ml 248 = 3 := by decide +kernel
theorem E248 {d : Nat} {h : j_H} {a0 : Nat} : c_call (d + 1) 248 [jR a0] h = j_fin (c_call d) 248 0 [some (jR a0), none, none] [] h := (E_of ml_248 (Nat.le_of_ble_eq_true rfl)).trans rfl
theorem ml_249 : j_ml 249 = 2 := by decide +kernel
theorem E249 {d : Nat} {h : j_H} {x0 : Int} {x1 : Int} : c_call (d + 1) 249 [jI x0, jI x1] h = j_fin (c_call d) 249 0 [some (jI x0), some (jI x1)] [] h := (E_of ml_249 (Nat.le_of_ble_eq_true rfl)).trans rfl
theorem ml_250 : j_ml 250 = 5 := by decide +kernel
theorem E250 {d : Nat} {h : j_H} {a0 : Nat} {x1 : Int} {x2 : Int} {x3 : Int} : c_call (d + 1) 250 [jR a0, jI x1, jI x2, jI x3] h = j_fin (c_call d) 250 0 [some (jR a0), some (jI x1), some (jI x2), some (jI x3), none] [] h := (E_of ml_250 (Nat.le_of_ble_eq_true rfl)).trans rfl
theorem ml_251 : j_ml 251 = 4 := by decide +kernel
theorem E251 {d : Nat} {h : j_H} {a0 : Nat} {x1 : Int} {x2 : Int} {x3 : Int} : c_call (d + 1) 251 [jR a0, jI x1, jI x2, jI x3] h = j_fin (c_call d) 251 0 [some (jR a0), some (jI x1), some (jI x2), some (jI x3)] [] h := (E_of ml_251 (Nat.le_of_ble_eq_true rfl)).trans rfl
theorem ml_252 : j_ml 252 = 2 := by decide +kernel
theorem E252 {d : Nat} {h : j_H} {a0 : Nat} : c_call (d + 1) 252 [jR a0] h = j_fin (c_call d) 252 0 [some (jR a0), none] [] h := (E_of ml_252 (Nat.le_of_ble_eq_true rfl)).trans rfl
theorem ml_253 : j_ml 253 = 1 := by decide +kernel
theorem E253 {d : Nat} {h : j_H} {x0 : Int} : c_call (d + 1) 253 [jI x0] h = j_fin (c_call d) 253 0 [some (jI x0)] [] h := (E_of ml_253 (Nat.le_of_ble_eq_true rfl)).trans rfl
theorem ml_254 : j_ml 254 = 4 := by decide +kernel
theorem E254 {d : Nat} {h : j_H} {a0 : Nat} {x1 : Int} {x2 : Int} : c_call (d + 1) 254 [jR a0, jI x1, jI x2] h = j_fin (c_call d) 254 0 [some (jR a0), some (jI x1), some (jI x2), none] [] h := (E_of ml_254 (Nat.le_of_ble_eq_true rfl)).trans rfl
theorem ml_255 : j_ml 255 = 2 := by decide +kernel
theorem E255 {d : Nat} {h : j_H} {a0 : Nat} : c_call (d + 1) 255 [jR a0] h = j_fin (c_call d) 255 0 [some (jR a0), none] [] h := (E_of ml_255 (Nat.le_of_ble_eq_true rfl)).trans rfl
theorem ml_256 : j_ml 256 = 2 := by decide +kernel
theorem E256 {d : Nat} {h : j_H} {a0 : Nat} : c_call (d + 1) 256 [jR a0] h = j_fin (c_call d) 256 0 [some (jR a0), none] [] h := (E_of ml_256 (Nat.le_of_ble_eq_true rfl)).trans rfl
theorem ml_257 : j_ml 257 = 3 := by decide +kernel
theorem E257 {d : Nat} {h : j_H} {a0 : Nat} {x1 : Int} : c_call (d + 1) 257 [jR a0, jI x1] h = j_fin (c_call d) 257 0 [some (jR a0), some (jI x1), none] [] h := (E_of ml_257 (Nat.le_of_ble_eq_true rfl)).trans rfl
theorem ml_258 : j_ml 258 = 5 := by decide +kernel
theorem E258 {d : Nat} {h : j_H} {a0 : Nat} {x1 : Int} {x2 : Int} {x3 : Int} : c_call (d + 1) 258 [jR a0, jI x1, jI x2, jI x3] h = j_fin (c_call d) 258 0 [some (jR a0), some (jI x1), some (jI x2), some (jI x3), none] [] h := (E_of ml_258 (Nat.le_of_ble_eq_true rfl)).trans rfl
theorem ml_259 : j_ml 259 = 3 := by decide +kernel
theorem E259 {d : Nat} {h : j_H} {x0 : Int} {x1 : Int} : c_call (d + 1) 259 [jI x0, jL x1] h = j_fin (c_call d) 259 0 [some (jI x0), some (jL x1), none] [] h := (E_of ml_259 (Nat.le_of_ble_eq_true rfl)).trans rfl
theorem ml_260 : j_ml 260 = 5 := by decide +kernel
theorem E260 {d : Nat} {h : j_H} {a0 : Nat} {x1 : Int} {x2 : Int} {x3 : Int} : c_call (d + 1) 260 [jR a0, jI x1, jI x2, jL x3] h = j_fin (c_call d) 260 0 [some (jR a0), some (jI x1), some (jI x2), some (jL x3), none] [] h := (E_of ml_260 (Nat.le_of_ble_eq_true rfl)).trans rfl
theorem ml_261 : j_ml 261 = 3 := by decide +kernel
theorem E261 {d : Nat} {h : j_H} {a0 : Nat} {x1 : Int} {x2 : Int} : c_call (d + 1) 261 [jR a0, jI x1, jI x2] h = j_fin (c_call d) 261 0 [some (jR a0), some (jI x1), some (jI x2)] [] h := (E_of ml_261 (Nat.le_of_ble_eq_true rfl)).trans rfl
theorem ml_262 : j_ml 262 = 7 := by decide +kernel
theorem E262 {d : Nat} {h : j_H} {a0 : Nat} {x1 : Int} {x2 : Int} {x3 : Int} {x4 : Int} {x5 : Int} : c_call (d + 1) 262 [jR a0, jI x1, jI x2, jI x3, jI x4, jI x5] h = j_fin (c_call d) 262 0 [some (jR a0), some (jI x1), some (jI x2), some (jI x3), some (jI x4), some (jI x5), none] [] h := (E_of ml_262 (Nat.le_of_ble_eq_true rfl)).trans rfl
theorem ml_263 : j_ml 263 = 3 := by decide +kernel
theorem E263 {d : Nat} {h : j_H} {x0 : Int} {x1 : Int} : c_call (d + 1) 263 [jI x0, jI x1] h = j_fin (c_call d) 263 0 [some (jI x0), some (jI x1), none] [] h := (E_of ml_263 (Nat.le_of_ble_eq_true rfl)).trans rfl
theorem ml_264 : j_ml 264 = 3 := by decide +kernel
theorem E264 {d : Nat} {h : j_H} {x0 : Int} {x1 : Int} : c_call (d + 1) 264 [jL x0, jI x1] h = j_fin (c_call d) 264 0 [some (jL x0), none, some (jI x1)] [] h := (E_of ml_264 (Nat.le_of_ble_eq_true rfl)).trans rfl
theorem ml_265 : j_ml 265 = 6 := by decide +kernel
theorem E265 {d : Nat} {h : j_H} {x0 : Int} {x1 : Int} : c_call (d + 1) 265 [jL x0, jL x1] h = j_fin (c_call d) 265 0 [some (jL x0), none, some (jL x1), none, none, none] [] h := (E_of ml_265 (Nat.le_of_ble_eq_true rfl)).trans rfl
theorem ml_266 : j_ml 266 = 6 := by decide +kernel
theorem E266 {d : Nat} {h : j_H} {x0 : Int} {x1 : Int} : c_call (d + 1) 266 [jL x0, jL x1] h = j_fin (c_call d) 266 0 [some (jL x0), none, some (jL x1), none, none, none] [] h := (E_of ml_266 (Nat.le_of_ble_eq_true rfl)).trans rfl
theorem ml_267 : j_ml 267 = 2 := by decide +kernel
theorem E267 {d : Nat} {h : j_H} {x0 : Int} : c_call (d + 1) 267 [jL x0] h = j_fin (c_call d) 267 0 [some (jL x0), none] [] h := (E_of ml_267 (Nat.le_of_ble_eq_true rfl)).trans rfl
theorem ml_268 : j_ml 268 = 2 := by decide +kernel
theorem E268 {d : Nat} {h : j_H} {x0 : Int} {x1 : Int} : c_call (d + 1) 268 [jI x0, jI x1] h = j_fin (c_call d) 268 0 [some (jI x0), some (jI x1)] [] h := (E_of ml_268 (Nat.le_of_ble_eq_true rfl)).trans rfl
theorem ml_269 : j_ml 269 = 5 := by decide +kernel
theorem E269 {d : Nat} {h : j_H} {a0 : Nat} {x1 : Int} : c_call (d + 1) 269 [jR a0, jL x1] h = j_fin (c_call d) 269 0 [some (jR a0), some (jL x1), none, none, none] [] h := (E_of ml_269 (Nat.le_of_ble_eq_true rfl)).trans rfl
theorem ml_270 : j_ml 270 = 4 := by decide +kernel
theorem E270 {d : Nat} {h : j_H} {a0 : Nat} {x1 : Int} : c_call (d + 1) 270 [jR a0, jI x1] h = j_fin (c_call d) 270 0 [some (jR a0), some (jI x1), none, none] [] h := (E_of ml_270 (Nat.le_of_ble_eq_true rfl)).trans rfl
