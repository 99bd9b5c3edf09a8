/-! Numbers of at most two digits: their size, their letters. -/
theorem ml_301 : j_ml 301 = 4 := by decide +kernel
theorem E301 {d : Nat} {h : j_H} {x0 : Int} : c_call (d + 1) 301 [jI x0] h = j_fin (c_call d) 301 0 [some (jI x0), none, none, none] [] h := (E_of ml_301 (Nat.le_of_ble_eq_true rfl)).trans rfl
theorem ml_300 : j_ml 300 = 7 := by decide +kernel
theorem E300 {d : Nat} {h : j_H} {x0 : Int} {x1 : Int} {a2 : Nat} : c_call (d + 1) 300 [jI x0, jI x1, jR a2] h = j_fin (c_call d) 300 0 [some (jI x0), some (jI x1), some (jR a2), none, none, none, none] [] h := (E_of ml_300 (Nat.le_of_ble_eq_true rfl)).trans rfl
theorem R301a {d : Nat} {h : j_H} {x y : Int} (hx : 0 ≤ x ∧ x ≤ 9) (hy : y = -x) : c_call (d + 1) 301 [jI x] h = some (some (jI 1), h) := by
  refine E301.trans ?_
  refine (S_iconst at_301_0).trans ?_
  refine (S_istore_n (l1 := [some (jI x), some (jI 1), none, none]) rfl at_301_1).trans ?_
  refine (S_iload_n rfl at_301_2).trans ?_
  refine (S_if_lt at_301_3).trans ?_
  refine (if_neg (by omega)).trans ?_
  refine (S_iconst at_301_6).trans ?_
  refine (S_istore_n (l1 := [some (jI x), some (jI 0), none, none]) rfl at_301_7).trans ?_
  refine (S_iload_n rfl at_301_8).trans ?_
  refine (S_ineg at_301_9).trans ?_
  rw [show w32 (-x) = y from by rw [w32_id (by omega) (by omega)]; omega]
  refine (S_istore_n (l1 := [some (jI y), some (jI 0), none, none]) rfl at_301_10).trans ?_
  refine (S_bipush at_301_11).trans ?_
  refine (S_istore_n (l1 := [some (jI y), some (jI 0), some (jI (-10)), none]) rfl at_301_13).trans ?_
  refine (S_iconst at_301_14).trans ?_
  refine (S_istore_n (l1 := [some (jI y), some (jI 0), some (jI (-10)), some (jI 1)]) rfl at_301_15).trans ?_
  refine (S_iload_n rfl at_301_16).trans ?_
  refine (S_bipush at_301_17).trans ?_
  refine (S_icmp_ge at_301_19).trans ?_
  refine (if_pos (by decide)).trans ?_
  refine (S_iload_n rfl at_301_22).trans ?_
  refine (S_iload_n rfl at_301_23).trans ?_
  refine (S_icmp_le at_301_24).trans ?_
  refine (if_pos (by omega)).trans ?_
  refine (S_iload_n rfl at_301_27).trans ?_
  refine (S_iload_n rfl at_301_28).trans ?_
  refine (S_iadd at_301_29).trans ?_
  rw [show w32 (1 + 0) = 1 from by decide]
  exact S_ireti rfl at_301_30
theorem R301b {d : Nat} {h : j_H} {x y : Int} (hx : 10 ≤ x ∧ x ≤ 99) (hy : y = -x) : c_call (d + 1) 301 [jI x] h = some (some (jI 2), h) := by
  refine E301.trans ?_
  refine (S_iconst at_301_0).trans ?_
  refine (S_istore_n (l1 := [some (jI x), some (jI 1), none, none]) rfl at_301_1).trans ?_
  refine (S_iload_n rfl at_301_2).trans ?_
  refine (S_if_lt at_301_3).trans ?_
  refine (if_neg (by omega)).trans ?_
  refine (S_iconst at_301_6).trans ?_
  refine (S_istore_n (l1 := [some (jI x), some (jI 0), none, none]) rfl at_301_7).trans ?_
  refine (S_iload_n rfl at_301_8).trans ?_
  refine (S_ineg at_301_9).trans ?_
  rw [show w32 (-x) = y from by rw [w32_id (by omega) (by omega)]; omega]
  refine (S_istore_n (l1 := [some (jI y), some (jI 0), none, none]) rfl at_301_10).trans ?_
  refine (S_bipush at_301_11).trans ?_
  refine (S_istore_n (l1 := [some (jI y), some (jI 0), some (jI (-10)), none]) rfl at_301_13).trans ?_
  refine (S_iconst at_301_14).trans ?_
  refine (S_istore_n (l1 := [some (jI y), some (jI 0), some (jI (-10)), some (jI 1)]) rfl at_301_15).trans ?_
  refine (S_iload_n rfl at_301_16).trans ?_
  refine (S_bipush at_301_17).trans ?_
  refine (S_icmp_ge at_301_19).trans ?_
  refine (if_pos (by decide)).trans ?_
  refine (S_iload_n rfl at_301_22).trans ?_
  refine (S_iload_n rfl at_301_23).trans ?_
  refine (S_icmp_le at_301_24).trans ?_
  refine (if_neg (by omega)).trans ?_
  refine (S_bipush at_301_31).trans ?_
  refine (S_iload_n rfl at_301_33).trans ?_
  refine (S_imul at_301_34).trans ?_
  rw [show w32 (10 * (-10)) = -100 from by decide]
  refine (S_istore_n (l1 := [some (jI y), some (jI 0), some (jI (-100)), some (jI 1)]) rfl at_301_35).trans ?_
  refine (S_iinc (l1 := [some (jI y), some (jI 0), some (jI (-100)), some (jI (w32 (1 + 1)))]) rfl rfl at_301_36).trans ?_
  rw [show w32 (1 + 1) = 2 from by decide]
  refine (S_goto at_301_39).trans ?_
  refine (S_iload_n rfl at_301_16).trans ?_
  refine (S_bipush at_301_17).trans ?_
  refine (S_icmp_ge at_301_19).trans ?_
  refine (if_pos (by decide)).trans ?_
  refine (S_iload_n rfl at_301_22).trans ?_
  refine (S_iload_n rfl at_301_23).trans ?_
  refine (S_icmp_le at_301_24).trans ?_
  refine (if_pos (by omega)).trans ?_
  refine (S_iload_n rfl at_301_27).trans ?_
  refine (S_iload_n rfl at_301_28).trans ?_
  refine (S_iadd at_301_29).trans ?_
  rw [show w32 (2 + 0) = 2 from by decide]
  exact S_ireti rfl at_301_30
theorem R301c {d : Nat} {h : j_H} {x : Int} (hx : -9 ≤ x ∧ x ≤ -1) : c_call (d + 1) 301 [jI x] h = some (some (jI 2), h) := by
  refine E301.trans ?_
  refine (S_iconst at_301_0).trans ?_
  refine (S_istore_n (l1 := [some (jI x), some (jI 1), none, none]) rfl at_301_1).trans ?_
  refine (S_iload_n rfl at_301_2).trans ?_
  refine (S_if_lt at_301_3).trans ?_
  refine (if_pos (by omega)).trans ?_
  refine (S_bipush at_301_11).trans ?_
  refine (S_istore_n (l1 := [some (jI x), some (jI 1), some (jI (-10)), none]) rfl at_301_13).trans ?_
  refine (S_iconst at_301_14).trans ?_
  refine (S_istore_n (l1 := [some (jI x), some (jI 1), some (jI (-10)), some (jI 1)]) rfl at_301_15).trans ?_
  refine (S_iload_n rfl at_301_16).trans ?_
  refine (S_bipush at_301_17).trans ?_
  refine (S_icmp_ge at_301_19).trans ?_
  refine (if_pos (by decide)).trans ?_
  refine (S_iload_n rfl at_301_22).trans ?_
  refine (S_iload_n rfl at_301_23).trans ?_
  refine (S_icmp_le at_301_24).trans ?_
  refine (if_pos (by omega)).trans ?_
  refine (S_iload_n rfl at_301_27).trans ?_
  refine (S_iload_n rfl at_301_28).trans ?_
  refine (S_iadd at_301_29).trans ?_
  rw [show w32 (1 + 1) = 2 from by decide]
  exact S_ireti rfl at_301_30
theorem R301d {d : Nat} {h : j_H} {x : Int} (hx : -99 ≤ x ∧ x ≤ -10) : c_call (d + 1) 301 [jI x] h = some (some (jI 3), h) := by
  refine E301.trans ?_
  refine (S_iconst at_301_0).trans ?_
  refine (S_istore_n (l1 := [some (jI x), some (jI 1), none, none]) rfl at_301_1).trans ?_
  refine (S_iload_n rfl at_301_2).trans ?_
  refine (S_if_lt at_301_3).trans ?_
  refine (if_pos (by omega)).trans ?_
  refine (S_bipush at_301_11).trans ?_
  refine (S_istore_n (l1 := [some (jI x), some (jI 1), some (jI (-10)), none]) rfl at_301_13).trans ?_
  refine (S_iconst at_301_14).trans ?_
  refine (S_istore_n (l1 := [some (jI x), some (jI 1), some (jI (-10)), some (jI 1)]) rfl at_301_15).trans ?_
  refine (S_iload_n rfl at_301_16).trans ?_
  refine (S_bipush at_301_17).trans ?_
  refine (S_icmp_ge at_301_19).trans ?_
  refine (if_pos (by decide)).trans ?_
  refine (S_iload_n rfl at_301_22).trans ?_
  refine (S_iload_n rfl at_301_23).trans ?_
  refine (S_icmp_le at_301_24).trans ?_
  refine (if_neg (by omega)).trans ?_
  refine (S_bipush at_301_31).trans ?_
  refine (S_iload_n rfl at_301_33).trans ?_
  refine (S_imul at_301_34).trans ?_
  rw [show w32 (10 * (-10)) = -100 from by decide]
  refine (S_istore_n (l1 := [some (jI x), some (jI 1), some (jI (-100)), some (jI 1)]) rfl at_301_35).trans ?_
  refine (S_iinc (l1 := [some (jI x), some (jI 1), some (jI (-100)), some (jI (w32 (1 + 1)))]) rfl rfl at_301_36).trans ?_
  rw [show w32 (1 + 1) = 2 from by decide]
  refine (S_goto at_301_39).trans ?_
  refine (S_iload_n rfl at_301_16).trans ?_
  refine (S_bipush at_301_17).trans ?_
  refine (S_icmp_ge at_301_19).trans ?_
  refine (if_pos (by decide)).trans ?_
  refine (S_iload_n rfl at_301_22).trans ?_
  refine (S_iload_n rfl at_301_23).trans ?_
  refine (S_icmp_le at_301_24).trans ?_
  refine (if_pos (by omega)).trans ?_
  refine (S_iload_n rfl at_301_27).trans ?_
  refine (S_iload_n rfl at_301_28).trans ?_
  refine (S_iadd at_301_29).trans ?_
  rw [show w32 (2 + 1) = 3 from by decide]
  exact S_ireti rfl at_301_30
def gca (h : j_H) (b u : Nat) (p1 p2 p3 : Int) : j_H := (h.1, h.2.1, j_up h.2.2 b p1.toNat (w8 (h.2.2 1000020 (u : Int).toNat)))
theorem R300a {d b c u : Nat} {h : j_H} {x y p0 p1 p2 p3 : Int} (hx : x = (u : Int) ∧ u ≤ 9 ∧ u ≤ 99) (hy : y = -x) (hp : p1 = p0 - 1 ∧ p2 = p0 - 2 ∧ p3 = p0 - 3) (h0 : 3 ≤ p0 ∨ (0 ≤ p1 ∧ 0 ≤ p0)) (hc : p0 ≤ (c : Int) ∧ c ≤ 1000) (k3 : h.1[b]? = some (34, c)) (hb2 : ¬ b < 2 ∧ 2 ≤ b) (kO : j_kd h 1000020 = some (34, 100)) (kT : j_kd h 1000021 = some (34, 100)) : c_call (d + 1) 300 [jI x, jI p0, jR b] h = some (some (jI p1), gca h b u p1 p2 p3) := by
  have hb2 := hb2.2
  refine E300.trans ?_
  refine (S_iload_n rfl at_300_0).trans ?_
  refine (S_istore (l1 := [some (jI x), some (jI p0), some (jR b), none, none, some (jI p0), none]) rfl at_300_1).trans ?_
  refine (S_iload_n rfl at_300_3).trans ?_
  refine (S_if_ge at_300_4).trans ?_
  refine (if_neg (by omega)).trans ?_
  refine (S_iconst at_300_11).trans ?_
  refine (S_istore (l1 := [some (jI x), some (jI p0), some (jR b), none, none, some (jI p0), some (jI 0)]) rfl at_300_12).trans ?_
  refine (S_iload rfl at_300_14).trans ?_
  refine (S_if_ne at_300_16).trans ?_
  refine (if_pos (by decide)).trans ?_
  refine (S_iload_n rfl at_300_19).trans ?_
  refine (S_ineg at_300_20).trans ?_
  rw [show w32 (-x) = y from by rw [w32_id (by omega) (by omega)]; omega]
  refine (S_istore_n (l1 := [some (jI y), some (jI p0), some (jR b), none, none, some (jI p0), some (jI 0)]) rfl at_300_21).trans ?_
  refine (S_iload_n rfl at_300_22).trans ?_
  refine (S_bipush at_300_23).trans ?_
  refine (S_icmp_gt at_300_25).trans ?_
  refine (if_pos (by omega)).trans ?_
  refine (S_aload_n rfl at_300_72).trans ?_
  refine (S_iinc (l1 := [some (jI y), some (jI p0), some (jR b), none, none, some (jI (w32 (p0 + (-1)))), some (jI 0)]) rfl rfl at_300_73).trans ?_
  rw [show w32 (p0 + (-1)) = p1 from by rw [w32_id (by omega) (by omega)]; omega]
  refine (S_iload rfl at_300_76).trans ?_
  refine (S_getsD (Or.inl rfl) at_300_78).trans ?_
  refine (S_iload_n rfl at_300_81).trans ?_
  refine (S_ineg at_300_82).trans ?_
  rw [show w32 (-y) = (u : Int) from by rw [w32_id (by omega) (by omega)]; omega]
  refine (S_baload34 (show j_kd h 1000020 = some (34, 100) from kO) at_300_83).trans ?_
  refine (if_pos ⟨by omega, by omega⟩).trans ?_
  refine (S_bastore34 hb2 (show (h).1[b]? = some (34, c) from k3) at_300_84).trans ?_
  refine (if_pos ⟨by omega, by omega⟩).trans ?_
  refine (S_iload_n rfl at_300_85).trans ?_
  refine (S_bipush at_300_86).trans ?_
  refine (S_icmp_ge at_300_88).trans ?_
  refine (if_neg (by omega)).trans ?_
  refine (S_iload rfl at_300_104).trans ?_
  refine (S_if_eq at_300_106).trans ?_
  refine (if_pos (by decide)).trans ?_
  refine (S_iload rfl at_300_118).trans ?_
  exact S_ireti rfl at_300_120
def gcb (h : j_H) (b u : Nat) (p1 p2 p3 : Int) : j_H := (((h.1, h.2.1, j_up h.2.2 b p1.toNat (w8 (h.2.2 1000020 (u : Int).toNat)))).1, ((h.1, h.2.1, j_up h.2.2 b p1.toNat (w8 (h.2.2 1000020 (u : Int).toNat)))).2.1, j_up ((h.1, h.2.1, j_up h.2.2 b p1.toNat (w8 (h.2.2 1000020 (u : Int).toNat)))).2.2 b p2.toNat (w8 (((h.1, h.2.1, j_up h.2.2 b p1.toNat (w8 (h.2.2 1000020 (u : Int).toNat)))).2.2 1000021 (u : Int).toNat)))
theorem R300b {d b c u : Nat} {h : j_H} {x y p0 p1 p2 p3 : Int} (hx : x = (u : Int) ∧ 10 ≤ u ∧ u ≤ 99) (hy : y = -x) (hp : p1 = p0 - 1 ∧ p2 = p0 - 2 ∧ p3 = p0 - 3) (h0 : 3 ≤ p0 ∨ (0 ≤ p2 ∧ 0 ≤ p0)) (hc : p0 ≤ (c : Int) ∧ c ≤ 1000) (k3 : h.1[b]? = some (34, c)) (hb2 : ¬ b < 2 ∧ 2 ≤ b) (kO : j_kd h 1000020 = some (34, 100)) (kT : j_kd h 1000021 = some (34, 100)) : c_call (d + 1) 300 [jI x, jI p0, jR b] h = some (some (jI p2), gcb h b u p1 p2 p3) := by
  have hb2 := hb2.2
  refine E300.trans ?_
  refine (S_iload_n rfl at_300_0).trans ?_
  refine (S_istore (l1 := [some (jI x), some (jI p0), some (jR b), none, none, some (jI p0), none]) rfl at_300_1).trans ?_
  refine (S_iload_n rfl at_300_3).trans ?_
  refine (S_if_ge at_300_4).trans ?_
  refine (if_neg (by omega)).trans ?_
  refine (S_iconst at_300_11).trans ?_
  refine (S_istore (l1 := [some (jI x), some (jI p0), some (jR b), none, none, some (jI p0), some (jI 0)]) rfl at_300_12).trans ?_
  refine (S_iload rfl at_300_14).trans ?_
  refine (S_if_ne at_300_16).trans ?_
  refine (if_pos (by decide)).trans ?_
  refine (S_iload_n rfl at_300_19).trans ?_
  refine (S_ineg at_300_20).trans ?_
  rw [show w32 (-x) = y from by rw [w32_id (by omega) (by omega)]; omega]
  refine (S_istore_n (l1 := [some (jI y), some (jI p0), some (jR b), none, none, some (jI p0), some (jI 0)]) rfl at_300_21).trans ?_
  refine (S_iload_n rfl at_300_22).trans ?_
  refine (S_bipush at_300_23).trans ?_
  refine (S_icmp_gt at_300_25).trans ?_
  refine (if_pos (by omega)).trans ?_
  refine (S_aload_n rfl at_300_72).trans ?_
  refine (S_iinc (l1 := [some (jI y), some (jI p0), some (jR b), none, none, some (jI (w32 (p0 + (-1)))), some (jI 0)]) rfl rfl at_300_73).trans ?_
  rw [show w32 (p0 + (-1)) = p1 from by rw [w32_id (by omega) (by omega)]; omega]
  refine (S_iload rfl at_300_76).trans ?_
  refine (S_getsD (Or.inl rfl) at_300_78).trans ?_
  refine (S_iload_n rfl at_300_81).trans ?_
  refine (S_ineg at_300_82).trans ?_
  rw [show w32 (-y) = (u : Int) from by rw [w32_id (by omega) (by omega)]; omega]
  refine (S_baload34 (show j_kd h 1000020 = some (34, 100) from kO) at_300_83).trans ?_
  refine (if_pos ⟨by omega, by omega⟩).trans ?_
  refine (S_bastore34 hb2 (show (h).1[b]? = some (34, c) from k3) at_300_84).trans ?_
  refine (if_pos ⟨by omega, by omega⟩).trans ?_
  refine (S_iload_n rfl at_300_85).trans ?_
  refine (S_bipush at_300_86).trans ?_
  refine (S_icmp_ge at_300_88).trans ?_
  refine (if_pos (by omega)).trans ?_
  refine (S_aload_n rfl at_300_91).trans ?_
  refine (S_iinc (l1 := [some (jI y), some (jI p0), some (jR b), none, none, some (jI (w32 (p1 + (-1)))), some (jI 0)]) rfl rfl at_300_92).trans ?_
  rw [show w32 (p1 + (-1)) = p2 from by rw [w32_id (by omega) (by omega)]; omega]
  refine (S_iload rfl at_300_95).trans ?_
  refine (S_getsD (Or.inr rfl) at_300_97).trans ?_
  refine (S_iload_n rfl at_300_100).trans ?_
  refine (S_ineg at_300_101).trans ?_
  rw [show w32 (-y) = (u : Int) from by rw [w32_id (by omega) (by omega)]; omega]
  refine (S_baload34 (show j_kd (h.1, h.2.1, j_up h.2.2 b p1.toNat (w8 (h.2.2 1000020 (u : Int).toNat))) 1000021 = some (34, 100) from kT) at_300_102).trans ?_
  refine (if_pos ⟨by omega, by omega⟩).trans ?_
  refine (S_bastore34 hb2 (show ((h.1, h.2.1, j_up h.2.2 b p1.toNat (w8 (h.2.2 1000020 (u : Int).toNat)))).1[b]? = some (34, c) from k3) at_300_103).trans ?_
  refine (if_pos ⟨by omega, by omega⟩).trans ?_
  refine (S_iload rfl at_300_104).trans ?_
  refine (S_if_eq at_300_106).trans ?_
  refine (if_pos (by decide)).trans ?_
  refine (S_iload rfl at_300_118).trans ?_
  exact S_ireti rfl at_300_120
def gcc (h : j_H) (b u : Nat) (p1 p2 p3 : Int) : j_H := (((h.1, h.2.1, j_up h.2.2 b p1.toNat (w8 (h.2.2 1000020 (u : Int).toNat)))).1, ((h.1, h.2.1, j_up h.2.2 b p1.toNat (w8 (h.2.2 1000020 (u : Int).toNat)))).2.1, j_up ((h.1, h.2.1, j_up h.2.2 b p1.toNat (w8 (h.2.2 1000020 (u : Int).toNat)))).2.2 b p2.toNat (w8 45))
theorem R300c {d b c u : Nat} {h : j_H} {x y p0 p1 p2 p3 : Int} (hx : x = -(u : Int) ∧ 0 < u ∧ u ≤ 9 ∧ u ≤ 99) (hp : p1 = p0 - 1 ∧ p2 = p0 - 2 ∧ p3 = p0 - 3) (h0 : 3 ≤ p0 ∨ (0 ≤ p2 ∧ 0 ≤ p0)) (hc : p0 ≤ (c : Int) ∧ c ≤ 1000) (k3 : h.1[b]? = some (34, c)) (hb2 : ¬ b < 2 ∧ 2 ≤ b) (kO : j_kd h 1000020 = some (34, 100)) (kT : j_kd h 1000021 = some (34, 100)) : c_call (d + 1) 300 [jI x, jI p0, jR b] h = some (some (jI p2), gcc h b u p1 p2 p3) := by
  have hb2 := hb2.2
  refine E300.trans ?_
  refine (S_iload_n rfl at_300_0).trans ?_
  refine (S_istore (l1 := [some (jI x), some (jI p0), some (jR b), none, none, some (jI p0), none]) rfl at_300_1).trans ?_
  refine (S_iload_n rfl at_300_3).trans ?_
  refine (S_if_ge at_300_4).trans ?_
  refine (if_pos (by omega)).trans ?_
  refine (S_iconst at_300_7).trans ?_
  refine (S_goto at_300_8).trans ?_
  refine (S_istore (l1 := [some (jI x), some (jI p0), some (jR b), none, none, some (jI p0), some (jI 1)]) rfl at_300_12).trans ?_
  refine (S_iload rfl at_300_14).trans ?_
  refine (S_if_ne at_300_16).trans ?_
  refine (if_neg (by decide)).trans ?_
  refine (S_iload_n rfl at_300_22).trans ?_
  refine (S_bipush at_300_23).trans ?_
  refine (S_icmp_gt at_300_25).trans ?_
  refine (if_pos (by omega)).trans ?_
  refine (S_aload_n rfl at_300_72).trans ?_
  refine (S_iinc (l1 := [some (jI x), some (jI p0), some (jR b), none, none, some (jI (w32 (p0 + (-1)))), some (jI 1)]) rfl rfl at_300_73).trans ?_
  rw [show w32 (p0 + (-1)) = p1 from by rw [w32_id (by omega) (by omega)]; omega]
  refine (S_iload rfl at_300_76).trans ?_
  refine (S_getsD (Or.inl rfl) at_300_78).trans ?_
  refine (S_iload_n rfl at_300_81).trans ?_
  refine (S_ineg at_300_82).trans ?_
  rw [show w32 (-x) = (u : Int) from by rw [w32_id (by omega) (by omega)]; omega]
  refine (S_baload34 (show j_kd h 1000020 = some (34, 100) from kO) at_300_83).trans ?_
  refine (if_pos ⟨by omega, by omega⟩).trans ?_
  refine (S_bastore34 hb2 (show (h).1[b]? = some (34, c) from k3) at_300_84).trans ?_
  refine (if_pos ⟨by omega, by omega⟩).trans ?_
  refine (S_iload_n rfl at_300_85).trans ?_
  refine (S_bipush at_300_86).trans ?_
  refine (S_icmp_ge at_300_88).trans ?_
  refine (if_neg (by omega)).trans ?_
  refine (S_iload rfl at_300_104).trans ?_
  refine (S_if_eq at_300_106).trans ?_
  refine (if_neg (by decide)).trans ?_
  refine (S_aload_n rfl at_300_109).trans ?_
  refine (S_iinc (l1 := [some (jI x), some (jI p0), some (jR b), none, none, some (jI (w32 (p1 + (-1)))), some (jI 1)]) rfl rfl at_300_110).trans ?_
  rw [show w32 (p1 + (-1)) = p2 from by rw [w32_id (by omega) (by omega)]; omega]
  refine (S_iload rfl at_300_113).trans ?_
  refine (S_bipush at_300_115).trans ?_
  refine (S_bastore34 hb2 (show ((h.1, h.2.1, j_up h.2.2 b p1.toNat (w8 (h.2.2 1000020 (u : Int).toNat)))).1[b]? = some (34, c) from k3) at_300_117).trans ?_
  refine (if_pos ⟨by omega, by omega⟩).trans ?_
  refine (S_iload rfl at_300_118).trans ?_
  exact S_ireti rfl at_300_120
def gcd (h : j_H) (b u : Nat) (p1 p2 p3 : Int) : j_H := (((((h.1, h.2.1, j_up h.2.2 b p1.toNat (w8 (h.2.2 1000020 (u : Int).toNat)))).1, ((h.1, h.2.1, j_up h.2.2 b p1.toNat (w8 (h.2.2 1000020 (u : Int).toNat)))).2.1, j_up ((h.1, h.2.1, j_up h.2.2 b p1.toNat (w8 (h.2.2 1000020 (u : Int).toNat)))).2.2 b p2.toNat (w8 (((h.1, h.2.1, j_up h.2.2 b p1.toNat (w8 (h.2.2 1000020 (u : Int).toNat)))).2.2 1000021 (u : Int).toNat)))).1, ((((h.1, h.2.1, j_up h.2.2 b p1.toNat (w8 (h.2.2 1000020 (u : Int).toNat)))).1, ((h.1, h.2.1, j_up h.2.2 b p1.toNat (w8 (h.2.2 1000020 (u : Int).toNat)))).2.1, j_up ((h.1, h.2.1, j_up h.2.2 b p1.toNat (w8 (h.2.2 1000020 (u : Int).toNat)))).2.2 b p2.toNat (w8 (((h.1, h.2.1, j_up h.2.2 b p1.toNat (w8 (h.2.2 1000020 (u : Int).toNat)))).2.2 1000021 (u : Int).toNat)))).2.1, j_up ((((h.1, h.2.1, j_up h.2.2 b p1.toNat (w8 (h.2.2 1000020 (u : Int).toNat)))).1, ((h.1, h.2.1, j_up h.2.2 b p1.toNat (w8 (h.2.2 1000020 (u : Int).toNat)))).2.1, j_up ((h.1, h.2.1, j_up h.2.2 b p1.toNat (w8 (h.2.2 1000020 (u : Int).toNat)))).2.2 b p2.toNat (w8 (((h.1, h.2.1, j_up h.2.2 b p1.toNat (w8 (h.2.2 1000020 (u : Int).toNat)))).2.2 1000021 (u : Int).toNat)))).2.2 b p3.toNat (w8 45))
theorem R300d {d b c u : Nat} {h : j_H} {x y p0 p1 p2 p3 : Int} (hx : x = -(u : Int) ∧ 0 < u ∧ 10 ≤ u ∧ u ≤ 99) (hp : p1 = p0 - 1 ∧ p2 = p0 - 2 ∧ p3 = p0 - 3) (h0 : 3 ≤ p0 ∨ (0 ≤ p3 ∧ 0 ≤ p0)) (hc : p0 ≤ (c : Int) ∧ c ≤ 1000) (k3 : h.1[b]? = some (34, c)) (hb2 : ¬ b < 2 ∧ 2 ≤ b) (kO : j_kd h 1000020 = some (34, 100)) (kT : j_kd h 1000021 = some (34, 100)) : c_call (d + 1) 300 [jI x, jI p0, jR b] h = some (some (jI p3), gcd h b u p1 p2 p3) := by
  have hb2 := hb2.2
  refine E300.trans ?_
  refine (S_iload_n rfl at_300_0).trans ?_
  refine (S_istore (l1 := [some (jI x), some (jI p0), some (jR b), none, none, some (jI p0), none]) rfl at_300_1).trans ?_
  refine (S_iload_n rfl at_300_3).trans ?_
  refine (S_if_ge at_300_4).trans ?_
  refine (if_pos (by omega)).trans ?_
  refine (S_iconst at_300_7).trans ?_
  refine (S_goto at_300_8).trans ?_
  refine (S_istore (l1 := [some (jI x), some (jI p0), some (jR b), none, none, some (jI p0), some (jI 1)]) rfl at_300_12).trans ?_
  refine (S_iload rfl at_300_14).trans ?_
  refine (S_if_ne at_300_16).trans ?_
  refine (if_neg (by decide)).trans ?_
  refine (S_iload_n rfl at_300_22).trans ?_
  refine (S_bipush at_300_23).trans ?_
  refine (S_icmp_gt at_300_25).trans ?_
  refine (if_pos (by omega)).trans ?_
  refine (S_aload_n rfl at_300_72).trans ?_
  refine (S_iinc (l1 := [some (jI x), some (jI p0), some (jR b), none, none, some (jI (w32 (p0 + (-1)))), some (jI 1)]) rfl rfl at_300_73).trans ?_
  rw [show w32 (p0 + (-1)) = p1 from by rw [w32_id (by omega) (by omega)]; omega]
  refine (S_iload rfl at_300_76).trans ?_
  refine (S_getsD (Or.inl rfl) at_300_78).trans ?_
  refine (S_iload_n rfl at_300_81).trans ?_
  refine (S_ineg at_300_82).trans ?_
  rw [show w32 (-x) = (u : Int) from by rw [w32_id (by omega) (by omega)]; omega]
  refine (S_baload34 (show j_kd h 1000020 = some (34, 100) from kO) at_300_83).trans ?_
  refine (if_pos ⟨by omega, by omega⟩).trans ?_
  refine (S_bastore34 hb2 (show (h).1[b]? = some (34, c) from k3) at_300_84).trans ?_
  refine (if_pos ⟨by omega, by omega⟩).trans ?_
  refine (S_iload_n rfl at_300_85).trans ?_
  refine (S_bipush at_300_86).trans ?_
  refine (S_icmp_ge at_300_88).trans ?_
  refine (if_pos (by omega)).trans ?_
  refine (S_aload_n rfl at_300_91).trans ?_
  refine (S_iinc (l1 := [some (jI x), some (jI p0), some (jR b), none, none, some (jI (w32 (p1 + (-1)))), some (jI 1)]) rfl rfl at_300_92).trans ?_
  rw [show w32 (p1 + (-1)) = p2 from by rw [w32_id (by omega) (by omega)]; omega]
  refine (S_iload rfl at_300_95).trans ?_
  refine (S_getsD (Or.inr rfl) at_300_97).trans ?_
  refine (S_iload_n rfl at_300_100).trans ?_
  refine (S_ineg at_300_101).trans ?_
  rw [show w32 (-x) = (u : Int) from by rw [w32_id (by omega) (by omega)]; omega]
  refine (S_baload34 (show j_kd (h.1, h.2.1, j_up h.2.2 b p1.toNat (w8 (h.2.2 1000020 (u : Int).toNat))) 1000021 = some (34, 100) from kT) at_300_102).trans ?_
  refine (if_pos ⟨by omega, by omega⟩).trans ?_
  refine (S_bastore34 hb2 (show ((h.1, h.2.1, j_up h.2.2 b p1.toNat (w8 (h.2.2 1000020 (u : Int).toNat)))).1[b]? = some (34, c) from k3) at_300_103).trans ?_
  refine (if_pos ⟨by omega, by omega⟩).trans ?_
  refine (S_iload rfl at_300_104).trans ?_
  refine (S_if_eq at_300_106).trans ?_
  refine (if_neg (by decide)).trans ?_
  refine (S_aload_n rfl at_300_109).trans ?_
  refine (S_iinc (l1 := [some (jI x), some (jI p0), some (jR b), none, none, some (jI (w32 (p2 + (-1)))), some (jI 1)]) rfl rfl at_300_110).trans ?_
  rw [show w32 (p2 + (-1)) = p3 from by rw [w32_id (by omega) (by omega)]; omega]
  refine (S_iload rfl at_300_113).trans ?_
  refine (S_bipush at_300_115).trans ?_
  refine (S_bastore34 hb2 (show ((((h.1, h.2.1, j_up h.2.2 b p1.toNat (w8 (h.2.2 1000020 (u : Int).toNat)))).1, ((h.1, h.2.1, j_up h.2.2 b p1.toNat (w8 (h.2.2 1000020 (u : Int).toNat)))).2.1, j_up ((h.1, h.2.1, j_up h.2.2 b p1.toNat (w8 (h.2.2 1000020 (u : Int).toNat)))).2.2 b p2.toNat (w8 (((h.1, h.2.1, j_up h.2.2 b p1.toNat (w8 (h.2.2 1000020 (u : Int).toNat)))).2.2 1000021 (u : Int).toNat)))).1[b]? = some (34, c) from k3) at_300_117).trans ?_
  refine (if_pos ⟨by omega, by omega⟩).trans ?_
  refine (S_iload rfl at_300_118).trans ?_
  exact S_ireti rfl at_300_120
