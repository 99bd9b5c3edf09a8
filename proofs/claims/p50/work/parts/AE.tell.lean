/-! Builders: their text. -/
theorem ml_276 : j_ml 276 = 2 := by decide +kernel
theorem E276 {d : Nat} {h : j_H} {a0 : Nat} {a1 : Nat} : c_call (d + 1) 276 [jR a0, jR a1] h = j_fin (c_call d) 276 0 [some (jR a0), some (jR a1)] [] h := (E_of ml_276 (Nat.le_of_ble_eq_true rfl)).trans rfl
theorem ml_277 : j_ml 277 = 5 := by decide +kernel
theorem E277 {d : Nat} {h : j_H} {a0 : Nat} {a1 : Nat} : c_call (d + 1) 277 [jR a0, jR a1] h = j_fin (c_call d) 277 0 [some (jR a0), some (jR a1), none, none, none] [] h := (E_of ml_277 (Nat.le_of_ble_eq_true rfl)).trans rfl
theorem ml_287 : j_ml 287 = 1 := by decide +kernel
theorem E287 {d : Nat} {h : j_H} {a0 : Nat} : c_call (d + 1) 287 [jR a0] h = j_fin (c_call d) 287 0 [some (jR a0)] [] h := (E_of ml_287 (Nat.le_of_ble_eq_true rfl)).trans rfl
theorem ml_288 : j_ml 288 = 1 := by decide +kernel
theorem E288 {d : Nat} {h : j_H} {a0 : Nat} : c_call (d + 1) 288 [jR a0] h = j_fin (c_call d) 288 0 [some (jR a0)] [] h := (E_of ml_288 (Nat.le_of_ble_eq_true rfl)).trans rfl
theorem ml_293 : j_ml 293 = 1 := by decide +kernel
theorem E293 {d : Nat} {h : j_H} {a0 : Nat} : c_call (d + 1) 293 [jR a0] h = j_fin (c_call d) 293 0 [some (jR a0)] [] h := (E_of ml_293 (Nat.le_of_ble_eq_true rfl)).trans rfl
theorem ml_297 : j_ml 297 = 1 := by decide +kernel
theorem E297 {d : Nat} {h : j_H} {a0 : Nat} : c_call (d + 1) 297 [jR a0] h = j_fin (c_call d) 297 0 [some (jR a0)] [] h := (E_of ml_297 (Nat.le_of_ble_eq_true rfl)).trans rfl
theorem ml_302 : j_ml 302 = 2 := by decide +kernel
theorem E302 {d : Nat} {h : j_H} {x0 : Int} {x1 : Int} : c_call (d + 1) 302 [jI x0, jI x1] h = j_fin (c_call d) 302 0 [some (jI x0), some (jI x1)] [] h := (E_of ml_302 (Nat.le_of_ble_eq_true rfl)).trans rfl
theorem ml_303 : j_ml 303 = 5 := by decide +kernel
theorem E303 {d : Nat} {h : j_H} {a0 : Nat} {x1 : Int} {x2 : Int} : c_call (d + 1) 303 [jR a0, jI x1, jI x2] h = j_fin (c_call d) 303 0 [some (jR a0), some (jI x1), some (jI x2), none, none] [] h := (E_of ml_303 (Nat.le_of_ble_eq_true rfl)).trans rfl
theorem ml_304 : j_ml 304 = 3 := by decide +kernel
theorem E304 {d : Nat} {h : j_H} {a0 : Nat} {x1 : Int} {x2 : Int} : c_call (d + 1) 304 [jR a0, jI x1, jI x2] h = j_fin (c_call d) 304 0 [some (jR a0), some (jI x1), some (jI x2)] [] h := (E_of ml_304 (Nat.le_of_ble_eq_true rfl)).trans rfl
theorem R268b {d : Nat} {h : j_H} {x v : Int} (k : v < x) : c_call (d + 1) 268 [jI x, jI v] h = some (some (jI v), h) := by
  refine E268.trans ?_
  refine (S_iload_n rfl at_268_0).trans ?_
  refine (S_iload_n rfl at_268_1).trans ?_
  refine (S_icmp_gt at_268_2).trans ?_
  refine (if_pos k).trans ?_
  refine (S_iload_n rfl at_268_9).trans ?_
  exact S_ireti rfl at_268_10
theorem R302 {d : Nat} {h : j_H} {x v : Int} (k : x ≤ v) : c_call (d + 1) 302 [jI x, jI v] h = some (none, h) := by
  refine E302.trans ?_
  refine (S_iload_n rfl at_302_0).trans ?_
  refine (S_iload_n rfl at_302_1).trans ?_
  refine (S_icmp_ge at_302_2).trans ?_
  refine (if_neg (by omega)).trans ?_
  exact S_ret rfl at_302_37
/-- a row's first k bytes, anew -/
def rB (h : j_H) (b k : Nat) : j_H := ((j_new h 34 k).1, (j_new h 34 k).2.1, j_cpy (j_new h 34 k).2.2 b 0 h.1.length 0 k)
theorem R303 {d b c k : Nat} {h : j_H} (k3 : h.1[b]? = some (34, c)) (hk : k < c ∧ c ≤ 1000) (hl : h.1.length < 900000) (hb : 2 ≤ b) (hq : 2 ≤ h.1.length) (hB : j_byt (j_new h 34 k).2.2 b 0 k = true) : c_call (d + 2) 303 [jR b, jI 0, jI (k : Int)] h = some (some (jR h.1.length), rB h b k) := by
  refine E303.trans ?_
  refine (S_iload_n rfl at_303_0).trans ?_
  refine (S_iload_n rfl at_303_1).trans ?_
  refine (S_invs (by decide) (Nat.le_of_ble_eq_true rfl) (Nat.le_of_ble_eq_true rfl) at_303_2).trans ?_
  show (((c_call (d + 1)) 302 [jI 0, jI (k : Int)] h).bind _) = _
  rw [R302 (x := 0) (v := (k : Int)) (by omega)]
  show j_fin (c_call (d + 1)) 303 5 [some (jR b), some (jI 0), some (jI (k : Int)), none, none] [] h = _
  refine (S_iload_n rfl at_303_5).trans ?_
  refine (S_iload_n rfl at_303_6).trans ?_
  refine (S_isub at_303_7).trans ?_
  rw [show w32 ((k : Int) - 0) = (k : Int) from by rw [w32_id (by omega) (by omega)]; omega]
  refine (S_istore_n (l1 := [some (jR b), some (jI 0), some (jI (k : Int)), some (jI (k : Int)), none]) rfl at_303_8).trans ?_
  refine (S_iload_n rfl at_303_9).trans ?_
  refine (S_newarr ⟨by decide, by omega, by omega, hl⟩ at_303_10).trans ?_
  refine (S_astore (l1 := [some (jR b), some (jI 0), some (jI (k : Int)), some (jI (k : Int)), some (jR (h.1.length))]) rfl at_303_12).trans ?_
  refine (S_aload_n rfl at_303_14).trans ?_
  refine (S_iload_n rfl at_303_15).trans ?_
  refine (S_aload rfl at_303_16).trans ?_
  refine (S_iconst at_303_18).trans ?_
  refine (S_aload_n rfl at_303_19).trans ?_
  refine (S_alen (kd_of (show ((j_new h 34 k)).1[b]? = some (34, c) from kq_old1 k3)) (by decide) at_303_20).trans ?_
  refine (S_iload_n rfl at_303_21).trans ?_
  refine (S_isub at_303_22).trans ?_
  rw [show w32 ((c : Int) - 0) = (c : Int) from by rw [w32_id (by omega) (by omega)]; omega]
  refine (S_iload_n rfl at_303_23).trans ?_
  refine (S_invs (by decide) (Nat.le_of_ble_eq_true rfl) (Nat.le_of_ble_eq_true rfl) at_303_24).trans ?_
  show (((c_call (d + 1)) 268 [jI (c : Int), jI (k : Int)] (j_new h 34 k)).bind _) = _
  rw [R268b (x := (c : Int)) (v := (k : Int)) (by omega)]
  show j_fin (c_call (d + 1)) 303 27 [some (jR b), some (jI 0), some (jI (k : Int)), some (jI (k : Int)), some (jR (h.1.length))] [jI (k : Int), jI 0, jR (h.1.length), jI 0, jR b] (j_new h 34 k) = _
  refine (S_cpyB rfl hB (kd_of (show ((j_new h 34 k)).1[b]? = some (34, c) from kq_old1 k3)) (show ((j_new h 34 k)).1[h.1.length]? = some (34, k) from kq_new h 34 k) ⟨hb, hq⟩ (Nat.le_of_ble_eq_true rfl) at_303_27).trans ?_
  refine (if_pos ⟨by omega, by decide, by decide, by omega, by omega⟩).trans ?_
  refine (S_aload rfl at_303_30).trans ?_
  exact S_aret rfl at_303_32
theorem R304 {d b c k : Nat} {h : j_H} (k3 : h.1[b]? = some (34, c)) (hk : k < c ∧ c ≤ 1000) (hl : h.1.length < 900000) (hb : 2 ≤ b) (hq : 2 ≤ h.1.length) (hB : j_byt (j_new h 34 k).2.2 b 0 k = true) : c_call (d + 3) 304 [jR b, jI 0, jI (k : Int)] h = some (some (jR h.1.length), rB h b k) := by
  refine E304.trans ?_
  refine (S_iload_n rfl at_304_0).trans ?_
  refine (S_if_ne at_304_1).trans ?_
  refine (if_pos (by decide)).trans ?_
  refine (S_iload_n rfl at_304_4).trans ?_
  refine (S_aload_n rfl at_304_5).trans ?_
  refine (S_alen (kd_of k3) (by decide) at_304_6).trans ?_
  refine (S_icmp_eq at_304_7).trans ?_
  refine (if_neg (by omega)).trans ?_
  refine (S_aload_n rfl at_304_10).trans ?_
  refine (S_iload_n rfl at_304_11).trans ?_
  refine (S_iload_n rfl at_304_12).trans ?_
  refine (S_invs (by decide) (Nat.le_of_ble_eq_true rfl) (Nat.le_of_ble_eq_true rfl) at_304_13).trans ?_
  show (((c_call (d + 2)) 303 [jR b, jI 0, jI (k : Int)] h).bind _) = _
  rw [R303 k3 hk hl hb hq hB]
  show j_fin (c_call (d + 2)) 304 16 [some (jR b), some (jI 0), some (jI (k : Int))] [jR (h.1.length)] (rB h b k) = _
  exact S_aret rfl at_304_16
theorem R304c {d b k : Nat} {h : j_H} (k3 : h.1[b]? = some (34, k)) (hl : h.1.length < 900000) (hB : j_byt h.2.2 b 0 k = true) : c_call (d + 1) 304 [jR b, jI 0, jI (k : Int)] h = some (some (jR h.1.length), rB h b k) := by
  refine E304.trans ?_
  refine (S_iload_n rfl at_304_0).trans ?_
  refine (S_if_ne at_304_1).trans ?_
  refine (if_pos (by decide)).trans ?_
  refine (S_iload_n rfl at_304_4).trans ?_
  refine (S_aload_n rfl at_304_5).trans ?_
  refine (S_alen (kd_of k3) (by decide) at_304_6).trans ?_
  refine (S_icmp_eq at_304_7).trans ?_
  refine (if_pos rfl).trans ?_
  refine (S_aload_n rfl at_304_17).trans ?_
  refine (S_cln (b := 0) rfl rfl k3 hB hl (Nat.le_of_ble_eq_true rfl) at_304_18).trans ?_
  refine (S_cast (show (j_cln h b k).1[h.1.length]? = some (34, k) from kq_new h 34 k) at_304_21).trans ?_
  exact S_aret rfl at_304_24
theorem R293 {d a : Nat} {h : j_H} (k1 : h.1[a]? = some (1, 4)) {b : Nat} (kr : j_rf h a 0 = some b) : c_call (d + 1) 293 [jR a] h = some (some (jR b), h) := by
  refine E293.trans ?_
  refine (S_aload_n rfl at_293_0).trans ?_
  refine (S_getR k1 rfl kr at_293_1).trans ?_
  exact S_aret rfl at_293_4
theorem R297 {d a : Nat} {h : j_H} (k1 : h.1[a]? = some (1, 4)) {k : Int} (kc : h.2.2 a 3 = k) : c_call (d + 1) 297 [jR a] h = some (some (jI k), h) := by
  refine E297.trans ?_
  refine (S_aload_n rfl at_297_0).trans ?_
  refine (S_get0 k1 rfl at_297_1).trans ?_
  rw [kc]
  exact S_ireti rfl at_297_4
theorem R287 {d a : Nat} {h : j_H} (k1 : h.1[a]? = some (1, 4)) {k : Int} (kc : h.2.2 a 3 = k) : c_call (d + 2) 287 [jR a] h = some (some (jI k), h) := by
  refine E287.trans ?_
  refine (S_aload_n rfl at_287_0).trans ?_
  refine (S_invp (b := 0) (by decide) kn_297 rfl (kd_of k1) (Nat.le_of_ble_eq_true rfl) at_287_1).trans ?_
  show (((c_call (d + 1)) 297 [jR a] h).bind _) = _
  rw [R297 k1 kc]
  show j_fin (c_call (d + 1)) 287 4 [some (jR a)] [jI k] h = _
  exact S_ireti rfl at_287_4
/-- the heap behind a text told at u -/
def tS (h : j_H) (u b k : Nat) : j_H := (((rB (h.1, h.2.1, j_up h.2.2 u 1 0) b k)).1, j_srf ((rB (h.1, h.2.1, j_up h.2.2 u 1 0) b k)) u 0 (h.1.length), ((rB (h.1, h.2.1, j_up h.2.2 u 1 0) b k)).2.2)
theorem R277 {d u a b k : Nat} {h : j_H} (ku : h.1[u]? = some (0, 4)) (k1 : h.1[a]? = some (1, 4)) (kr : j_rf h a 0 = some b) (k2 : h.2.2 a 1 = 0) (kc : h.2.2 a 3 = k) (e304 : c_call (d + 3) 304 [jR b, jI 0, jI (k : Int)] (h.1, h.2.1, j_up h.2.2 u 1 0) = some (some (jR h.1.length), rB (h.1, h.2.1, j_up h.2.2 u 1 0) b k)) : c_call (d + 4) 277 [jR u, jR a] h = some (none, tS h u b k) := by
  refine E277.trans ?_
  refine (S_aload_n rfl at_277_0).trans ?_
  refine (S_objI rfl rfl (Nat.le_of_ble_eq_true rfl) at_277_1).trans ?_
  refine (S_aload_n rfl at_277_4).trans ?_
  refine (S_invv (b := 0) (by decide) kn_293 rfl (kd_of k1) (Nat.le_of_ble_eq_true rfl) at_277_5).trans ?_
  show (((c_call (d + 3)) 293 [jR a] h).bind _) = _
  rw [R293 (d := d + 2) k1 kr]
  show j_fin (c_call (d + 3)) 277 8 [some (jR u), some (jR a), none, none, none] [jR b] h = _
  refine (S_astore_n (l1 := [some (jR u), some (jR a), none, some (jR b), none]) rfl at_277_8).trans ?_
  refine (S_aload_n rfl at_277_9).trans ?_
  refine (S_invv (b := 0) (by decide) kn_287 rfl (kd_of k1) (Nat.le_of_ble_eq_true rfl) at_277_10).trans ?_
  show (((c_call (d + 3)) 287 [jR a] h).bind _) = _
  rw [R287 (d := d + 1) k1 kc]
  show j_fin (c_call (d + 3)) 277 13 [some (jR u), some (jR a), none, some (jR b), none] [jI (k : Int)] h = _
  refine (S_istore (l1 := [some (jR u), some (jR a), none, some (jR b), some (jI (k : Int))]) rfl at_277_13).trans ?_
  refine (S_aload_n rfl at_277_15).trans ?_
  refine (S_invv (b := 0) (by decide) kn_296 rfl (kd_of k1) (Nat.le_of_ble_eq_true rfl) at_277_16).trans ?_
  show (((c_call (d + 3)) 296 [jR a] h).bind _) = _
  rw [R296 (d := d + 2) k1 k2]
  show j_fin (c_call (d + 3)) 277 19 [some (jR u), some (jR a), none, some (jR b), some (jI (k : Int))] [jI 1] h = _
  refine (S_if_eq at_277_19).trans ?_
  refine (if_neg (by decide)).trans ?_
  refine (S_aload_n rfl at_277_22).trans ?_
  refine (S_iconst at_277_23).trans ?_
  refine (S_put2 (show (h).1[u]? = some (0, 4) from (by first | exact ku | exact kq_old1 (h := (h.1, h.2.1, j_up h.2.2 u 1 0)) ku)) rfl at_277_24).trans ?_
  refine (if_pos (by decide)).trans ?_
  refine (S_aload_n rfl at_277_27).trans ?_
  refine (S_aload_n rfl at_277_28).trans ?_
  refine (S_iconst at_277_29).trans ?_
  refine (S_iload rfl at_277_30).trans ?_
  refine (S_invs (by decide) (Nat.le_of_ble_eq_true rfl) (Nat.le_of_ble_eq_true rfl) at_277_32).trans ?_
  show (((c_call (d + 3)) 304 [jR b, jI 0, jI (k : Int)] (h.1, h.2.1, j_up h.2.2 u 1 0)).bind _) = _
  rw [e304]
  show j_fin (c_call (d + 3)) 277 35 [some (jR u), some (jR a), none, some (jR b), some (jI (k : Int))] [jR (h.1.length), jR u] ((rB (h.1, h.2.1, j_up h.2.2 u 1 0) b k)) = _
  refine (S_putR (show ((rB (h.1, h.2.1, j_up h.2.2 u 1 0) b k)).1[u]? = some (0, 4) from (by first | exact ku | exact kq_old1 (h := (h.1, h.2.1, j_up h.2.2 u 1 0)) ku)) rfl at_277_35).trans ?_
  refine (S_goto at_277_38).trans ?_
  exact S_ret rfl at_277_97
theorem R276 {d u a : Nat} {h h2 : j_H} (e : c_call (d + 4) 277 [jR u, jR a] h = some (none, h2)) : c_call (d + 5) 276 [jR u, jR a] h = some (none, h2) := by
  refine E276.trans ?_
  refine (S_aload_n rfl at_276_0).trans ?_
  refine (S_aload_n rfl at_276_1).trans ?_
  refine (S_goto at_276_2).trans ?_
  refine (S_invi (b := 1) (kd := 0) (by decide) kn_277 rfl (Nat.le_of_ble_eq_true rfl) at_276_3).trans ?_
  show (((c_call (d + 4)) 277 [jR u, jR a] h).bind _) = _
  rw [e]
  show j_fin (c_call (d + 4)) 276 6 [some (jR u), some (jR a)] [] h2 = _
  exact S_ret rfl at_276_6
theorem R288 {d a : Nat} {h h2 : j_H} (hl : h.1.length < 900000) (e : c_call (d + 5) 276 [jR h.1.length, jR a] (j_new h 0 4) = some (none, h2)) : c_call (d + 6) 288 [jR a] h = some (some (jR h.1.length), h2) := by
  refine E288.trans ?_
  refine (S_new ⟨by decide, hl⟩ at_288_0).trans ?_
  refine (S_dup rfl at_288_3).trans ?_
  refine (S_aload_n rfl at_288_4).trans ?_
  refine (S_invi (b := 1) (kd := 0) (by decide) kn_276 rfl (Nat.le_of_ble_eq_true rfl) at_288_5).trans ?_
  show ((c_call (d + 5) 276 [jR h.1.length, jR a] (j_new h 0 4)).bind _) = _
  rw [e]
  exact S_aret rfl at_288_8
