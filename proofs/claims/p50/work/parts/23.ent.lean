/-! Entries: a call is the run from its first instruction. -/
theorem E_of {d y ml : Nat} {as : List j_V} {h : j_H} (hm : j_ml y = ml) (hl : (j_ent as).length ≤ ml) : c_call (d + 1) y as h = j_fin (c_call d) y 0 (j_ent as ++ List.replicate (ml - (j_ent as).length) none) [] h := by
  show (if (j_ent as).length ≤ j_ml y then j_fin (c_call d) y 0 (j_loc y as) [] h else none) = _
  rw [if_pos (by rw [hm]; exact hl)]
  unfold j_loc
  rw [hm]
theorem ml_1 : j_ml 1 = 1 := by decide +kernel
theorem E1 {d : Nat} {h : j_H} {a0 : Nat} : c_call (d + 1) 1 [jR a0] h = j_fin (c_call d) 1 0 [some (jR a0)] [] h := (E_of ml_1 (Nat.le_of_ble_eq_true rfl)).trans rfl
theorem ml_2 : j_ml 2 = 3 := by decide +kernel
theorem E2 {d : Nat} {h : j_H} {a0 : Nat} {x1 : Int} {x2 : Int} : c_call (d + 1) 2 [jR a0, jI x1, jI x2] h = j_fin (c_call d) 2 0 [some (jR a0), some (jI x1), some (jI x2)] [] h := (E_of ml_2 (Nat.le_of_ble_eq_true rfl)).trans rfl
theorem ml_4 : j_ml 4 = 7 := by decide +kernel
theorem E4 {d : Nat} {h : j_H} {a0 : Nat} {a1 : Nat} {x2 : Int} {a3 : Nat} : c_call (d + 1) 4 [jR a0, jR a1, jI x2, jR a3] h = j_fin (c_call d) 4 0 [some (jR a0), some (jR a1), some (jI x2), some (jR a3), none, none, none] [] h := (E_of ml_4 (Nat.le_of_ble_eq_true rfl)).trans rfl
theorem ml_5 : j_ml 5 = 11 := by decide +kernel
theorem E5 {d : Nat} {h : j_H} {a0 : Nat} {a1 : Nat} {x2 : Int} {a3 : Nat} {x4 : Int} : c_call (d + 1) 5 [jR a0, jR a1, jI x2, jR a3, jI x4] h = j_fin (c_call d) 5 0 [some (jR a0), some (jR a1), some (jI x2), some (jR a3), some (jI x4), none, none, none, none, none, none] [] h := (E_of ml_5 (Nat.le_of_ble_eq_true rfl)).trans rfl
theorem ml_8 : j_ml 8 = 2 := by decide +kernel
theorem E8 {d : Nat} {h : j_H} {a0 : Nat} {a1 : Nat} : c_call (d + 1) 8 [jR a0, jR a1] h = j_fin (c_call d) 8 0 [some (jR a0), some (jR a1)] [] h := (E_of ml_8 (Nat.le_of_ble_eq_true rfl)).trans rfl
theorem ml_9 : j_ml 9 = 2 := by decide +kernel
theorem E9 {d : Nat} {h : j_H} {a0 : Nat} {x1 : Int} : c_call (d + 1) 9 [jR a0, jI x1] h = j_fin (c_call d) 9 0 [some (jR a0), some (jI x1)] [] h := (E_of ml_9 (Nat.le_of_ble_eq_true rfl)).trans rfl
theorem ml_10 : j_ml 10 = 4 := by decide +kernel
theorem E10 {d : Nat} {h : j_H} {a0 : Nat} {x1 : Int} {x2 : Int} : c_call (d + 1) 10 [jR a0, jI x1, jI x2] h = j_fin (c_call d) 10 0 [some (jR a0), some (jI x1), some (jI x2), none] [] h := (E_of ml_10 (Nat.le_of_ble_eq_true rfl)).trans rfl
theorem ml_11 : j_ml 11 = 3 := by decide +kernel
theorem E11 {d : Nat} {h : j_H} {a0 : Nat} {x1 : Int} {x2 : Int} : c_call (d + 1) 11 [jR a0, jI x1, jI x2] h = j_fin (c_call d) 11 0 [some (jR a0), some (jI x1), some (jI x2)] [] h := (E_of ml_11 (Nat.le_of_ble_eq_true rfl)).trans rfl
theorem ml_12 : j_ml 12 = 4 := by decide +kernel
theorem E12 {d : Nat} {h : j_H} {a0 : Nat} {x1 : Int} {x2 : Int} {x3 : Int} : c_call (d + 1) 12 [jR a0, jI x1, jI x2, jI x3] h = j_fin (c_call d) 12 0 [some (jR a0), some (jI x1), some (jI x2), some (jI x3)] [] h := (E_of ml_12 (Nat.le_of_ble_eq_true rfl)).trans rfl
theorem ml_13 : j_ml 13 = 4 := by decide +kernel
theorem E13 {d : Nat} {h : j_H} {a0 : Nat} {x1 : Int} {x2 : Int} : c_call (d + 1) 13 [jR a0, jI x1, jI x2] h = j_fin (c_call d) 13 0 [some (jR a0), some (jI x1), some (jI x2), none] [] h := (E_of ml_13 (Nat.le_of_ble_eq_true rfl)).trans rfl
theorem ml_14 : j_ml 14 = 4 := by decide +kernel
theorem E14 {d : Nat} {h : j_H} {a0 : Nat} {x1 : Int} : c_call (d + 1) 14 [jR a0, jI x1] h = j_fin (c_call d) 14 0 [some (jR a0), some (jI x1), none, none] [] h := (E_of ml_14 (Nat.le_of_ble_eq_true rfl)).trans rfl
theorem ml_16 : j_ml 16 = 5 := by decide +kernel
theorem E16 {d : Nat} {h : j_H} {a0 : Nat} {x1 : Int} {x2 : Int} : c_call (d + 1) 16 [jR a0, jI x1, jI x2] h = j_fin (c_call d) 16 0 [some (jR a0), some (jI x1), some (jI x2), none, none] [] h := (E_of ml_16 (Nat.le_of_ble_eq_true rfl)).trans rfl
theorem ml_17 : j_ml 17 = 5 := by decide +kernel
theorem E17 {d : Nat} {h : j_H} {a0 : Nat} {x1 : Int} {x2 : Int} {x3 : Int} : c_call (d + 1) 17 [jR a0, jI x1, jI x2, jI x3] h = j_fin (c_call d) 17 0 [some (jR a0), some (jI x1), some (jI x2), some (jI x3), none] [] h := (E_of ml_17 (Nat.le_of_ble_eq_true rfl)).trans rfl
theorem ml_18 : j_ml 18 = 6 := by decide +kernel
theorem E18 {d : Nat} {h : j_H} {a0 : Nat} {x1 : Int} {x2 : Int} : c_call (d + 1) 18 [jR a0, jI x1, jI x2] h = j_fin (c_call d) 18 0 [some (jR a0), some (jI x1), some (jI x2), none, none, none] [] h := (E_of ml_18 (Nat.le_of_ble_eq_true rfl)).trans rfl
theorem ml_19 : j_ml 19 = 1 := by decide +kernel
theorem E19 {d : Nat} {h : j_H} {x0 : Int} : c_call (d + 1) 19 [jI x0] h = j_fin (c_call d) 19 0 [some (jI x0)] [] h := (E_of ml_19 (Nat.le_of_ble_eq_true rfl)).trans rfl
theorem ml_21 : j_ml 21 = 2 := by decide +kernel
theorem E21 {d : Nat} {h : j_H} {a0 : Nat} {a1 : Nat} : c_call (d + 1) 21 [jR a0, jR a1] h = j_fin (c_call d) 21 0 [some (jR a0), some (jR a1)] [] h := (E_of ml_21 (Nat.le_of_ble_eq_true rfl)).trans rfl
theorem ml_22 : j_ml 22 = 1 := by decide +kernel
theorem E22 {d : Nat} {h : j_H} {a0 : Nat} : c_call (d + 1) 22 [jR a0] h = j_fin (c_call d) 22 0 [some (jR a0)] [] h := (E_of ml_22 (Nat.le_of_ble_eq_true rfl)).trans rfl
theorem ml_23 : j_ml 23 = 3 := by decide +kernel
theorem E23 {d : Nat} {h : j_H} {a0 : Nat} {x1 : Int} : c_call (d + 1) 23 [jR a0, jI x1] h = j_fin (c_call d) 23 0 [some (jR a0), some (jI x1), none] [] h := (E_of ml_23 (Nat.le_of_ble_eq_true rfl)).trans rfl
theorem ml_24 : j_ml 24 = 2 := by decide +kernel
theorem E24 {d : Nat} {h : j_H} {a0 : Nat} {x1 : Int} : c_call (d + 1) 24 [jR a0, jI x1] h = j_fin (c_call d) 24 0 [some (jR a0), some (jI x1)] [] h := (E_of ml_24 (Nat.le_of_ble_eq_true rfl)).trans rfl
theorem ml_25 : j_ml 25 = 5 := by decide +kernel
theorem E25 {d : Nat} {h : j_H} {a0 : Nat} {x1 : Int} {x2 : Int} {x3 : Int} : c_call (d + 1) 25 [jR a0, jI x1, jI x2, jI x3] h = j_fin (c_call d) 25 0 [some (jR a0), some (jI x1), some (jI x2), some (jI x3), none] [] h := (E_of ml_25 (Nat.le_of_ble_eq_true rfl)).trans rfl
theorem ml_27 : j_ml 27 = 4 := by decide +kernel
theorem E27 {d : Nat} {h : j_H} {a0 : Nat} {x1 : Int} {x2 : Int} {x3 : Int} : c_call (d + 1) 27 [jR a0, jI x1, jI x2, jI x3] h = j_fin (c_call d) 27 0 [some (jR a0), some (jI x1), some (jI x2), some (jI x3)] [] h := (E_of ml_27 (Nat.le_of_ble_eq_true rfl)).trans rfl
theorem ml_29 : j_ml 29 = 5 := by decide +kernel
theorem E29 {d : Nat} {h : j_H} {a0 : Nat} {a1 : Nat} {x2 : Int} : c_call (d + 1) 29 [jR a0, jR a1, jI x2] h = j_fin (c_call d) 29 0 [some (jR a0), some (jR a1), some (jI x2), none, none] [] h := (E_of ml_29 (Nat.le_of_ble_eq_true rfl)).trans rfl
theorem ml_30 : j_ml 30 = 3 := by decide +kernel
theorem E30 {d : Nat} {h : j_H} {a0 : Nat} {a1 : Nat} : c_call (d + 1) 30 [jR a0, jR a1] h = j_fin (c_call d) 30 0 [some (jR a0), some (jR a1), none] [] h := (E_of ml_30 (Nat.le_of_ble_eq_true rfl)).trans rfl
theorem ml_32 : j_ml 32 = 2 := by decide +kernel
theorem E32 {d : Nat} {h : j_H} {a0 : Nat} {a1 : Nat} : c_call (d + 1) 32 [jR a0, jR a1] h = j_fin (c_call d) 32 0 [some (jR a0), some (jR a1)] [] h := (E_of ml_32 (Nat.le_of_ble_eq_true rfl)).trans rfl
theorem ml_33 : j_ml 33 = 2 := by decide +kernel
theorem E33 {d : Nat} {h : j_H} {a0 : Nat} {x1 : Int} : c_call (d + 1) 33 [jR a0, jI x1] h = j_fin (c_call d) 33 0 [some (jR a0), some (jI x1)] [] h := (E_of ml_33 (Nat.le_of_ble_eq_true rfl)).trans rfl
theorem ml_34 : j_ml 34 = 3 := by decide +kernel
theorem E34 {d : Nat} {h : j_H} {a0 : Nat} {x1 : Int} {x2 : Int} : c_call (d + 1) 34 [jR a0, jI x1, jI x2] h = j_fin (c_call d) 34 0 [some (jR a0), some (jI x1), some (jI x2)] [] h := (E_of ml_34 (Nat.le_of_ble_eq_true rfl)).trans rfl
theorem ml_35 : j_ml 35 = 4 := by decide +kernel
theorem E35 {d : Nat} {h : j_H} {a0 : Nat} {x1 : Int} {x2 : Int} {x3 : Int} : c_call (d + 1) 35 [jR a0, jI x1, jI x2, jI x3] h = j_fin (c_call d) 35 0 [some (jR a0), some (jI x1), some (jI x2), some (jI x3)] [] h := (E_of ml_35 (Nat.le_of_ble_eq_true rfl)).trans rfl
theorem ml_38 : j_ml 38 = 5 := by decide +kernel
theorem E38 {d : Nat} {h : j_H} {a0 : Nat} {a1 : Nat} : c_call (d + 1) 38 [jR a0, jR a1] h = j_fin (c_call d) 38 0 [some (jR a0), some (jR a1), none, none, none] [] h := (E_of ml_38 (Nat.le_of_ble_eq_true rfl)).trans rfl
theorem ml_39 : j_ml 39 = 6 := by decide +kernel
theorem E39 {d : Nat} {h : j_H} {a0 : Nat} {x1 : Int} {x2 : Int} : c_call (d + 1) 39 [jR a0, jI x1, jL x2] h = j_fin (c_call d) 39 0 [some (jR a0), some (jI x1), some (jL x2), none, none, none] [] h := (E_of ml_39 (Nat.le_of_ble_eq_true rfl)).trans rfl
theorem ml_42 : j_ml 42 = 5 := by decide +kernel
theorem E42 {d : Nat} {h : j_H} {a0 : Nat} {x1 : Int} {x2 : Int} : c_call (d + 1) 42 [jR a0, jI x1, jI x2] h = j_fin (c_call d) 42 0 [some (jR a0), some (jI x1), some (jI x2), none, none] [] h := (E_of ml_42 (Nat.le_of_ble_eq_true rfl)).trans rfl
theorem ml_43 : j_ml 43 = 3 := by decide +kernel
theorem E43 {d : Nat} {h : j_H} {a0 : Nat} {x1 : Int} : c_call (d + 1) 43 [jR a0, jL x1] h = j_fin (c_call d) 43 0 [some (jR a0), some (jL x1), none] [] h := (E_of ml_43 (Nat.le_of_ble_eq_true rfl)).trans rfl
theorem ml_44 : j_ml 44 = 3 := by decide +kernel
theorem E44 {d : Nat} {h : j_H} {a0 : Nat} {x1 : Int} : c_call (d + 1) 44 [jR a0, jL x1] h = j_fin (c_call d) 44 0 [some (jR a0), some (jL x1), none] [] h := (E_of ml_44 (Nat.le_of_ble_eq_true rfl)).trans rfl
theorem ml_45 : j_ml 45 = 4 := by decide +kernel
theorem E45 {d : Nat} {h : j_H} {a0 : Nat} : c_call (d + 1) 45 [jR a0] h = j_fin (c_call d) 45 0 [some (jR a0), none, none, none] [] h := (E_of ml_45 (Nat.le_of_ble_eq_true rfl)).trans rfl
theorem ml_46 : j_ml 46 = 3 := by decide +kernel
theorem E46 {d : Nat} {h : j_H} {a0 : Nat} : c_call (d + 1) 46 [jR a0] h = j_fin (c_call d) 46 0 [some (jR a0), none, none] [] h := (E_of ml_46 (Nat.le_of_ble_eq_true rfl)).trans rfl
theorem ml_47 : j_ml 47 = 4 := by decide +kernel
theorem E47 {d : Nat} {h : j_H} {a0 : Nat} {x1 : Int} : c_call (d + 1) 47 [jR a0, jI x1] h = j_fin (c_call d) 47 0 [some (jR a0), some (jI x1), none, none] [] h := (E_of ml_47 (Nat.le_of_ble_eq_true rfl)).trans rfl
theorem ml_48 : j_ml 48 = 8 := by decide +kernel
theorem E48 {d : Nat} {h : j_H} {a0 : Nat} {x1 : Int} {x2 : Int} {x3 : Int} : c_call (d + 1) 48 [jR a0, jI x1, jI x2, jI x3] h = j_fin (c_call d) 48 0 [some (jR a0), some (jI x1), some (jI x2), some (jI x3), none, none, none, none] [] h := (E_of ml_48 (Nat.le_of_ble_eq_true rfl)).trans rfl
theorem ml_49 : j_ml 49 = 6 := by decide +kernel
theorem E49 {d : Nat} {h : j_H} {a0 : Nat} {x1 : Int} {x2 : Int} : c_call (d + 1) 49 [jR a0, jI x1, jI x2] h = j_fin (c_call d) 49 0 [some (jR a0), some (jI x1), some (jI x2), none, none, none] [] h := (E_of ml_49 (Nat.le_of_ble_eq_true rfl)).trans rfl
theorem ml_50 : j_ml 50 = 11 := by decide +kernel
theorem E50 {d : Nat} {h : j_H} {a0 : Nat} {x1 : Int} {x2 : Int} {x3 : Int} : c_call (d + 1) 50 [jR a0, jI x1, jI x2, jI x3] h = j_fin (c_call d) 50 0 [some (jR a0), some (jI x1), some (jI x2), some (jI x3), none, none, none, none, none, none, none] [] h := (E_of ml_50 (Nat.le_of_ble_eq_true rfl)).trans rfl
theorem ml_51 : j_ml 51 = 11 := by decide +kernel
theorem E51 {d : Nat} {h : j_H} {a0 : Nat} {x1 : Int} {x2 : Int} {x3 : Int} {x4 : Int} {x5 : Int} : c_call (d + 1) 51 [jR a0, jL x1, jL x2, jL x3, jI x4, jI x5] h = j_fin (c_call d) 51 0 [some (jR a0), some (jL x1), none, some (jL x2), none, some (jL x3), none, some (jI x4), some (jI x5), none, none] [] h := (E_of ml_51 (Nat.le_of_ble_eq_true rfl)).trans rfl
theorem ml_52 : j_ml 52 = 3 := by decide +kernel
theorem E52 {d : Nat} {h : j_H} {a0 : Nat} {x1 : Int} : c_call (d + 1) 52 [jR a0, jI x1] h = j_fin (c_call d) 52 0 [some (jR a0), some (jI x1), none] [] h := (E_of ml_52 (Nat.le_of_ble_eq_true rfl)).trans rfl
theorem ml_53 : j_ml 53 = 3 := by decide +kernel
theorem E53 {d : Nat} {h : j_H} {a0 : Nat} {x1 : Int} : c_call (d + 1) 53 [jR a0, jI x1] h = j_fin (c_call d) 53 0 [some (jR a0), some (jI x1), none] [] h := (E_of ml_53 (Nat.le_of_ble_eq_true rfl)).trans rfl
theorem ml_54 : j_ml 54 = 2 := by decide +kernel
theorem E54 {d : Nat} {h : j_H} {a0 : Nat} {x1 : Int} : c_call (d + 1) 54 [jR a0, jI x1] h = j_fin (c_call d) 54 0 [some (jR a0), some (jI x1)] [] h := (E_of ml_54 (Nat.le_of_ble_eq_true rfl)).trans rfl
theorem ml_56 : j_ml 56 = 2 := by decide +kernel
theorem E56 {d : Nat} {h : j_H} {a0 : Nat} : c_call (d + 1) 56 [jR a0] h = j_fin (c_call d) 56 0 [some (jR a0), none] [] h := (E_of ml_56 (Nat.le_of_ble_eq_true rfl)).trans rfl
theorem ml_61 : j_ml 61 = 4 := by decide +kernel
theorem E61 {d : Nat} {h : j_H} {a0 : Nat} {x1 : Int} {x2 : Int} {x3 : Int} : c_call (d + 1) 61 [jR a0, jI x1, jI x2, jI x3] h = j_fin (c_call d) 61 0 [some (jR a0), some (jI x1), some (jI x2), some (jI x3)] [] h := (E_of ml_61 (Nat.le_of_ble_eq_true rfl)).trans rfl
theorem ml_62 : j_ml 62 = 4 := by decide +kernel
theorem E62 {d : Nat} {h : j_H} {a0 : Nat} {x1 : Int} {x2 : Int} : c_call (d + 1) 62 [jR a0, jI x1, jL x2] h = j_fin (c_call d) 62 0 [some (jR a0), some (jI x1), some (jL x2), none] [] h := (E_of ml_62 (Nat.le_of_ble_eq_true rfl)).trans rfl
theorem ml_65 : j_ml 65 = 3 := by decide +kernel
theorem E65 {d : Nat} {h : j_H} {a0 : Nat} {x1 : Int} : c_call (d + 1) 65 [jR a0, jI x1] h = j_fin (c_call d) 65 0 [some (jR a0), some (jI x1), none] [] h := (E_of ml_65 (Nat.le_of_ble_eq_true rfl)).trans rfl
theorem ml_66 : j_ml 66 = 4 := by decide +kernel
theorem E66 {d : Nat} {h : j_H} {a0 : Nat} {a1 : Nat} : c_call (d + 1) 66 [jR a0, jR a1] h = j_fin (c_call d) 66 0 [some (jR a0), some (jR a1), none, none] [] h := (E_of ml_66 (Nat.le_of_ble_eq_true rfl)).trans rfl
theorem ml_67 : j_ml 67 = 1 := by decide +kernel
theorem E67 {d : Nat} {h : j_H} {a0 : Nat} : c_call (d + 1) 67 [jR a0] h = j_fin (c_call d) 67 0 [some (jR a0)] [] h := (E_of ml_67 (Nat.le_of_ble_eq_true rfl)).trans rfl
theorem ml_68 : j_ml 68 = 2 := by decide +kernel
theorem E68 {d : Nat} {h : j_H} {a0 : Nat} {x1 : Int} : c_call (d + 1) 68 [jR a0, jI x1] h = j_fin (c_call d) 68 0 [some (jR a0), some (jI x1)] [] h := (E_of ml_68 (Nat.le_of_ble_eq_true rfl)).trans rfl
theorem ml_69 : j_ml 69 = 1 := by decide +kernel
theorem E69 {d : Nat} {h : j_H} {a0 : Nat} : c_call (d + 1) 69 [jR a0] h = j_fin (c_call d) 69 0 [some (jR a0)] [] h := (E_of ml_69 (Nat.le_of_ble_eq_true rfl)).trans rfl
theorem ml_70 : j_ml 70 = 3 := by decide +kernel
theorem E70 {d : Nat} {h : j_H} {a0 : Nat} : c_call (d + 1) 70 [jR a0] h = j_fin (c_call d) 70 0 [some (jR a0), none, none] [] h := (E_of ml_70 (Nat.le_of_ble_eq_true rfl)).trans rfl
theorem ml_71 : j_ml 71 = 5 := by decide +kernel
theorem E71 {d : Nat} {h : j_H} {a0 : Nat} {x1 : Int} : c_call (d + 1) 71 [jR a0, jI x1] h = j_fin (c_call d) 71 0 [some (jR a0), some (jI x1), none, none, none] [] h := (E_of ml_71 (Nat.le_of_ble_eq_true rfl)).trans rfl
theorem ml_72 : j_ml 72 = 4 := by decide +kernel
theorem E72 {d : Nat} {h : j_H} {a0 : Nat} {x1 : Int} : c_call (d + 1) 72 [jR a0, jI x1] h = j_fin (c_call d) 72 0 [some (jR a0), some (jI x1), none, none] [] h := (E_of ml_72 (Nat.le_of_ble_eq_true rfl)).trans rfl
theorem ml_88 : j_ml 88 = 3 := by decide +kernel
theorem E88 {d : Nat} {h : j_H} {a0 : Nat} {x1 : Int} : c_call (d + 1) 88 [jR a0, jI x1] h = j_fin (c_call d) 88 0 [some (jR a0), some (jI x1), none] [] h := (E_of ml_88 (Nat.le_of_ble_eq_true rfl)).trans rfl
theorem ml_89 : j_ml 89 = 4 := by decide +kernel
theorem E89 {d : Nat} {h : j_H} {a0 : Nat} {x1 : Int} {x2 : Int} : c_call (d + 1) 89 [jR a0, jI x1, jI x2] h = j_fin (c_call d) 89 0 [some (jR a0), some (jI x1), some (jI x2), none] [] h := (E_of ml_89 (Nat.le_of_ble_eq_true rfl)).trans rfl
theorem ml_91 : j_ml 91 = 5 := by decide +kernel
theorem E91 {d : Nat} {h : j_H} {a0 : Nat} {x1 : Int} {x2 : Int} {x3 : Int} : c_call (d + 1) 91 [jR a0, jI x1, jI x2, jI x3] h = j_fin (c_call d) 91 0 [some (jR a0), some (jI x1), some (jI x2), some (jI x3), none] [] h := (E_of ml_91 (Nat.le_of_ble_eq_true rfl)).trans rfl
theorem ml_92 : j_ml 92 = 4 := by decide +kernel
theorem E92 {d : Nat} {h : j_H} {a0 : Nat} {x1 : Int} {x2 : Int} : c_call (d + 1) 92 [jR a0, jI x1, jI x2] h = j_fin (c_call d) 92 0 [some (jR a0), some (jI x1), some (jI x2), none] [] h := (E_of ml_92 (Nat.le_of_ble_eq_true rfl)).trans rfl
theorem ml_93 : j_ml 93 = 1 := by decide +kernel
theorem E93 {d : Nat} {h : j_H} {a0 : Nat} : c_call (d + 1) 93 [jR a0] h = j_fin (c_call d) 93 0 [some (jR a0)] [] h := (E_of ml_93 (Nat.le_of_ble_eq_true rfl)).trans rfl
theorem ml_94 : j_ml 94 = 2 := by decide +kernel
theorem E94 {d : Nat} {h : j_H} {a0 : Nat} {x1 : Int} : c_call (d + 1) 94 [jR a0, jI x1] h = j_fin (c_call d) 94 0 [some (jR a0), some (jI x1)] [] h := (E_of ml_94 (Nat.le_of_ble_eq_true rfl)).trans rfl
theorem ml_95 : j_ml 95 = 2 := by decide +kernel
theorem E95 {d : Nat} {h : j_H} {a0 : Nat} : c_call (d + 1) 95 [jR a0] h = j_fin (c_call d) 95 0 [some (jR a0), none] [] h := (E_of ml_95 (Nat.le_of_ble_eq_true rfl)).trans rfl
theorem ml_96 : j_ml 96 = 3 := by decide +kernel
theorem E96 {d : Nat} {h : j_H} {a0 : Nat} {x1 : Int} {x2 : Int} : c_call (d + 1) 96 [jR a0, jI x1, jI x2] h = j_fin (c_call d) 96 0 [some (jR a0), some (jI x1), some (jI x2)] [] h := (E_of ml_96 (Nat.le_of_ble_eq_true rfl)).trans rfl
theorem ml_97 : j_ml 97 = 2 := by decide +kernel
theorem E97 {d : Nat} {h : j_H} {a0 : Nat} {x1 : Int} : c_call (d + 1) 97 [jR a0, jI x1] h = j_fin (c_call d) 97 0 [some (jR a0), some (jI x1)] [] h := (E_of ml_97 (Nat.le_of_ble_eq_true rfl)).trans rfl
theorem ml_99 : j_ml 99 = 3 := by decide +kernel
theorem E99 {d : Nat} {h : j_H} {a0 : Nat} {x1 : Int} {x2 : Int} : c_call (d + 1) 99 [jR a0, jI x1, jI x2] h = j_fin (c_call d) 99 0 [some (jR a0), some (jI x1), some (jI x2)] [] h := (E_of ml_99 (Nat.le_of_ble_eq_true rfl)).trans rfl
theorem ml_115 : j_ml 115 = 3 := by decide +kernel
theorem E115 {d : Nat} {h : j_H} {a0 : Nat} {x1 : Int} {x2 : Int} : c_call (d + 1) 115 [jR a0, jI x1, jI x2] h = j_fin (c_call d) 115 0 [some (jR a0), some (jI x1), some (jI x2)] [] h := (E_of ml_115 (Nat.le_of_ble_eq_true rfl)).trans rfl
theorem ml_116 : j_ml 116 = 3 := by decide +kernel
theorem E116 {d : Nat} {h : j_H} {a0 : Nat} {x1 : Int} {x2 : Int} : c_call (d + 1) 116 [jR a0, jI x1, jI x2] h = j_fin (c_call d) 116 0 [some (jR a0), some (jI x1), some (jI x2)] [] h := (E_of ml_116 (Nat.le_of_ble_eq_true rfl)).trans rfl
theorem ml_117 : j_ml 117 = 6 := by decide +kernel
theorem E117 {d : Nat} {h : j_H} {a0 : Nat} {x1 : Int} {x2 : Int} : c_call (d + 1) 117 [jR a0, jI x1, jI x2] h = j_fin (c_call d) 117 0 [some (jR a0), some (jI x1), some (jI x2), none, none, none] [] h := (E_of ml_117 (Nat.le_of_ble_eq_true rfl)).trans rfl
theorem ml_119 : j_ml 119 = 4 := by decide +kernel
theorem E119 {d : Nat} {h : j_H} {a0 : Nat} {x1 : Int} : c_call (d + 1) 119 [jR a0, jI x1] h = j_fin (c_call d) 119 0 [some (jR a0), some (jI x1), none, none] [] h := (E_of ml_119 (Nat.le_of_ble_eq_true rfl)).trans rfl
theorem ml_120 : j_ml 120 = 3 := by decide +kernel
theorem E120 {d : Nat} {h : j_H} {a0 : Nat} {x1 : Int} {x2 : Int} : c_call (d + 1) 120 [jR a0, jI x1, jI x2] h = j_fin (c_call d) 120 0 [some (jR a0), some (jI x1), some (jI x2)] [] h := (E_of ml_120 (Nat.le_of_ble_eq_true rfl)).trans rfl
theorem ml_121 : j_ml 121 = 5 := by decide +kernel
theorem E121 {d : Nat} {h : j_H} {a0 : Nat} {x1 : Int} {x2 : Int} : c_call (d + 1) 121 [jR a0, jI x1, jI x2] h = j_fin (c_call d) 121 0 [some (jR a0), some (jI x1), some (jI x2), none, none] [] h := (E_of ml_121 (Nat.le_of_ble_eq_true rfl)).trans rfl
theorem ml_122 : j_ml 122 = 3 := by decide +kernel
theorem E122 {d : Nat} {h : j_H} {a0 : Nat} {x1 : Int} {x2 : Int} : c_call (d + 1) 122 [jR a0, jI x1, jI x2] h = j_fin (c_call d) 122 0 [some (jR a0), some (jI x1), some (jI x2)] [] h := (E_of ml_122 (Nat.le_of_ble_eq_true rfl)).trans rfl
theorem ml_123 : j_ml 123 = 4 := by decide +kernel
theorem E123 {d : Nat} {h : j_H} {a0 : Nat} {x1 : Int} : c_call (d + 1) 123 [jR a0, jI x1] h = j_fin (c_call d) 123 0 [some (jR a0), some (jI x1), none, none] [] h := (E_of ml_123 (Nat.le_of_ble_eq_true rfl)).trans rfl
theorem ml_124 : j_ml 124 = 3 := by decide +kernel
theorem E124 {d : Nat} {h : j_H} {a0 : Nat} : c_call (d + 1) 124 [jR a0] h = j_fin (c_call d) 124 0 [some (jR a0), none, none] [] h := (E_of ml_124 (Nat.le_of_ble_eq_true rfl)).trans rfl
theorem ml_125 : j_ml 125 = 4 := by decide +kernel
theorem E125 {d : Nat} {h : j_H} {a0 : Nat} {x1 : Int} {x2 : Int} {x3 : Int} : c_call (d + 1) 125 [jR a0, jI x1, jI x2, jI x3] h = j_fin (c_call d) 125 0 [some (jR a0), some (jI x1), some (jI x2), some (jI x3)] [] h := (E_of ml_125 (Nat.le_of_ble_eq_true rfl)).trans rfl
theorem ml_126 : j_ml 126 = 2 := by decide +kernel
theorem E126 {d : Nat} {h : j_H} {a0 : Nat} : c_call (d + 1) 126 [jR a0] h = j_fin (c_call d) 126 0 [some (jR a0), none] [] h := (E_of ml_126 (Nat.le_of_ble_eq_true rfl)).trans rfl
theorem ml_128 : j_ml 128 = 1 := by decide +kernel
theorem E128 {d : Nat} {h : j_H} {a0 : Nat} : c_call (d + 1) 128 [jR a0] h = j_fin (c_call d) 128 0 [some (jR a0)] [] h := (E_of ml_128 (Nat.le_of_ble_eq_true rfl)).trans rfl
theorem ml_129 : j_ml 129 = 1 := by decide +kernel
theorem E129 {d : Nat} {h : j_H} {a0 : Nat} : c_call (d + 1) 129 [jR a0] h = j_fin (c_call d) 129 0 [some (jR a0)] [] h := (E_of ml_129 (Nat.le_of_ble_eq_true rfl)).trans rfl
theorem ml_130 : j_ml 130 = 2 := by decide +kernel
theorem E130 {d : Nat} {h : j_H} {a0 : Nat} {x1 : Int} : c_call (d + 1) 130 [jR a0, jI x1] h = j_fin (c_call d) 130 0 [some (jR a0), some (jI x1)] [] h := (E_of ml_130 (Nat.le_of_ble_eq_true rfl)).trans rfl
theorem ml_131 : j_ml 131 = 4 := by decide +kernel
theorem E131 {d : Nat} {h : j_H} {a0 : Nat} {x1 : Int} {x2 : Int} {x3 : Int} : c_call (d + 1) 131 [jR a0, jI x1, jI x2, jI x3] h = j_fin (c_call d) 131 0 [some (jR a0), some (jI x1), some (jI x2), some (jI x3)] [] h := (E_of ml_131 (Nat.le_of_ble_eq_true rfl)).trans rfl
theorem ml_132 : j_ml 132 = 5 := by decide +kernel
theorem E132 {d : Nat} {h : j_H} {a0 : Nat} {x1 : Int} {x2 : Int} {x3 : Int} : c_call (d + 1) 132 [jR a0, jI x1, jI x2, jL x3] h = j_fin (c_call d) 132 0 [some (jR a0), some (jI x1), some (jI x2), some (jL x3), none] [] h := (E_of ml_132 (Nat.le_of_ble_eq_true rfl)).trans rfl
theorem ml_135 : j_ml 135 = 2 := by decide +kernel
theorem E135 {d : Nat} {h : j_H} {a0 : Nat} {x1 : Int} : c_call (d + 1) 135 [jR a0, jI x1] h = j_fin (c_call d) 135 0 [some (jR a0), some (jI x1)] [] h := (E_of ml_135 (Nat.le_of_ble_eq_true rfl)).trans rfl
theorem ml_136 : j_ml 136 = 2 := by decide +kernel
theorem E136 {d : Nat} {h : j_H} {a0 : Nat} {x1 : Int} : c_call (d + 1) 136 [jR a0, jI x1] h = j_fin (c_call d) 136 0 [some (jR a0), some (jI x1)] [] h := (E_of ml_136 (Nat.le_of_ble_eq_true rfl)).trans rfl
theorem ml_138 : j_ml 138 = 2 := by decide +kernel
theorem E138 {d : Nat} {h : j_H} {a0 : Nat} {x1 : Int} : c_call (d + 1) 138 [jR a0, jI x1] h = j_fin (c_call d) 138 0 [some (jR a0), some (jI x1)] [] h := (E_of ml_138 (Nat.le_of_ble_eq_true rfl)).trans rfl
theorem ml_139 : j_ml 139 = 1 := by decide +kernel
theorem E139 {d : Nat} {h : j_H} {x0 : Int} : c_call (d + 1) 139 [jI x0] h = j_fin (c_call d) 139 0 [some (jI x0)] [] h := (E_of ml_139 (Nat.le_of_ble_eq_true rfl)).trans rfl
theorem ml_140 : j_ml 140 = 1 := by decide +kernel
theorem E140 {d : Nat} {h : j_H} {x0 : Int} : c_call (d + 1) 140 [jI x0] h = j_fin (c_call d) 140 0 [some (jI x0)] [] h := (E_of ml_140 (Nat.le_of_ble_eq_true rfl)).trans rfl
theorem ml_141 : j_ml 141 = 1 := by decide +kernel
theorem E141 {d : Nat} {h : j_H} {x0 : Int} : c_call (d + 1) 141 [jI x0] h = j_fin (c_call d) 141 0 [some (jI x0)] [] h := (E_of ml_141 (Nat.le_of_ble_eq_true rfl)).trans rfl
theorem ml_142 : j_ml 142 = 1 := by decide +kernel
theorem E142 {d : Nat} {h : j_H} {x0 : Int} : c_call (d + 1) 142 [jI x0] h = j_fin (c_call d) 142 0 [some (jI x0)] [] h := (E_of ml_142 (Nat.le_of_ble_eq_true rfl)).trans rfl
theorem ml_143 : j_ml 143 = 2 := by decide +kernel
theorem E143 {d : Nat} {h : j_H} {x0 : Int} {x1 : Int} : c_call (d + 1) 143 [jI x0, jI x1] h = j_fin (c_call d) 143 0 [some (jI x0), some (jI x1)] [] h := (E_of ml_143 (Nat.le_of_ble_eq_true rfl)).trans rfl
theorem ml_144 : j_ml 144 = 2 := by decide +kernel
theorem E144 {d : Nat} {h : j_H} {x0 : Int} : c_call (d + 1) 144 [jL x0] h = j_fin (c_call d) 144 0 [some (jL x0), none] [] h := (E_of ml_144 (Nat.le_of_ble_eq_true rfl)).trans rfl
theorem ml_145 : j_ml 145 = 2 := by decide +kernel
theorem E145 {d : Nat} {h : j_H} {a0 : Nat} : c_call (d + 1) 145 [jR a0] h = j_fin (c_call d) 145 0 [some (jR a0), none] [] h := (E_of ml_145 (Nat.le_of_ble_eq_true rfl)).trans rfl
theorem ml_146 : j_ml 146 = 12 := by decide +kernel
theorem E146 {d : Nat} {h : j_H} {x0 : Int} {x1 : Int} {x2 : Int} : c_call (d + 1) 146 [jL x0, jL x1, jI x2] h = j_fin (c_call d) 146 0 [some (jL x0), none, some (jL x1), none, some (jI x2), none, none, none, none, none, none, none] [] h := (E_of ml_146 (Nat.le_of_ble_eq_true rfl)).trans rfl
theorem ml_265 : j_ml 265 = 6 := by decide +kernel
theorem E265 {d : Nat} {h : j_H} {x0 : Int} {x1 : Int} : c_call (d + 1) 265 [jL x0, jL x1] h = j_fin (c_call d) 265 0 [some (jL x0), none, some (jL x1), none, none, none] [] h := (E_of ml_265 (Nat.le_of_ble_eq_true rfl)).trans rfl
theorem ml_266 : j_ml 266 = 6 := by decide +kernel
theorem E266 {d : Nat} {h : j_H} {x0 : Int} {x1 : Int} : c_call (d + 1) 266 [jL x0, jL x1] h = j_fin (c_call d) 266 0 [some (jL x0), none, some (jL x1), none, none, none] [] h := (E_of ml_266 (Nat.le_of_ble_eq_true rfl)).trans rfl
theorem ml_267 : j_ml 267 = 2 := by decide +kernel
theorem E267 {d : Nat} {h : j_H} {x0 : Int} : c_call (d + 1) 267 [jL x0] h = j_fin (c_call d) 267 0 [some (jL x0), none] [] h := (E_of ml_267 (Nat.le_of_ble_eq_true rfl)).trans rfl
theorem ml_269 : j_ml 269 = 5 := by decide +kernel
theorem E269 {d : Nat} {h : j_H} {a0 : Nat} {x1 : Int} : c_call (d + 1) 269 [jR a0, jL x1] h = j_fin (c_call d) 269 0 [some (jR a0), some (jL x1), none, none, none] [] h := (E_of ml_269 (Nat.le_of_ble_eq_true rfl)).trans rfl
theorem ml_270 : j_ml 270 = 4 := by decide +kernel
theorem E270 {d : Nat} {h : j_H} {a0 : Nat} {x1 : Int} : c_call (d + 1) 270 [jR a0, jI x1] h = j_fin (c_call d) 270 0 [some (jR a0), some (jI x1), none, none] [] h := (E_of ml_270 (Nat.le_of_ble_eq_true rfl)).trans rfl
