/-! Builders: a text appended. -/
theorem ml_275 : j_ml 275 = 4 := by decide +kernel
theorem E275 {d : Nat} {h : j_H} {a0 : Nat} {a1 : Nat} {x2 : Int} {x3 : Int} : c_call (d + 1) 275 [jR a0, jR a1, jI x2, jI x3] h = j_fin (c_call d) 275 0 [some (jR a0), some (jR a1), some (jI x2), some (jI x3)] [] h := (E_of ml_275 (Nat.le_of_ble_eq_true rfl)).trans rfl
theorem ml_294 : j_ml 294 = 2 := by decide +kernel
theorem E294 {d : Nat} {h : j_H} {a0 : Nat} {a1 : Nat} : c_call (d + 1) 294 [jR a0, jR a1] h = j_fin (c_call d) 294 0 [some (jR a0), some (jR a1)] [] h := (E_of ml_294 (Nat.le_of_ble_eq_true rfl)).trans rfl
theorem ml_299 : j_ml 299 = 3 := by decide +kernel
theorem E299 {d : Nat} {h : j_H} {a0 : Nat} {x1 : Int} {a2 : Nat} : c_call (d + 1) 299 [jR a0, jI x1, jR a2] h = j_fin (c_call d) 299 0 [some (jR a0), some (jI x1), some (jR a2)] [] h := (E_of ml_299 (Nat.le_of_ble_eq_true rfl)).trans rfl
theorem ml_291 : j_ml 291 = 3 := by decide +kernel
theorem E291 {d : Nat} {h : j_H} {a0 : Nat} {a1 : Nat} : c_call (d + 1) 291 [jR a0, jR a1] h = j_fin (c_call d) 291 0 [some (jR a0), some (jR a1), none] [] h := (E_of ml_291 (Nat.le_of_ble_eq_true rfl)).trans rfl
theorem ml_283 : j_ml 283 = 2 := by decide +kernel
theorem E283 {d : Nat} {h : j_H} {a0 : Nat} {a1 : Nat} : c_call (d + 1) 283 [jR a0, jR a1] h = j_fin (c_call d) 283 0 [some (jR a0), some (jR a1)] [] h := (E_of ml_283 (Nat.le_of_ble_eq_true rfl)).trans rfl
theorem kd_x {W : Nat → Prop} {c n : Nat} {h h' : j_H} (x : xF W c n h h') (hl : h'.1.length ≤ 1000000) {a : Nat} {q : Nat × Nat} (k : j_kd h a = some q) : j_kd h' a = some q ∧ (a < h.1.length ∨ 1000000 ≤ a) := by
  obtain ⟨⟨T, t1, -⟩, -⟩ := x
  unfold j_kd at k ⊢
  cases e : h.1[a]? with
  | some q2 =>
    rw [e] at k
    rw [kq_old t1 e]
    exact ⟨k, .inl (List.getElem?_eq_some_iff.mp e).1⟩
  | none =>
    rw [e] at k
    have h2 : 1000000 ≤ a := by
      by_cases g : a < 1000000
      · have k' : j_kc a = some q := k
        unfold j_kc at k'
        rw [if_pos g] at k'
        cases k'
      · omega
    rw [List.getElem?_eq_none (by omega)]
    exact ⟨k, .inr h2⟩
/-- a text stays where it isn't written -/
theorem sT_x {W : Nat → Prop} {c n : Nat} {h h' : j_H} {u v : Nat} {s : List Int} (x : xF W c n h h') (hw : h.2.1.length = h.1.length) (hl : h'.1.length ≤ 1000000) (w : sT h u v s) (hu : ¬ W u) (hv : ¬ W v) : sT h' u v s := by
  obtain ⟨w1, w2, w3, w4, w5, w6, w7⟩ := w
  obtain ⟨y1, y2⟩ := kd_x x hl w1
  obtain ⟨z1, z2⟩ := kd_x x hl w3
  have xl := xF_le x
  obtain ⟨⟨T, t1, -⟩, x2, x3, x4⟩ := x
  refine ⟨y1, ?_, z1, (x4 u 1 y2 hu).trans w4, fun i hi => (x4 v i z2 hv).trans (w5 i hi), w6, w7⟩
  unfold j_rk1 at w2 ⊢
  cases e : h.1[u]? with
  | some q2 =>
    rw [e] at w2
    have l := (List.getElem?_eq_some_iff.mp e).1
    rw [kq_old t1 e]
    show j_rf h' u 0 = some v
    unfold j_rf
    rw [x3 u (by omega) hu]
    exact w2
  | none =>
    rw [e] at w2
    have l := List.getElem?_eq_none_iff.mp e
    rw [List.getElem?_eq_none (by omega)]
    exact w2
theorem sT_byt {h : j_H} {u v : Nat} {s : List Int} (w : sT h u v s) : j_byt h.2.2 v 0 s.length = true := byt_of (fun i hi => by
  rw [Nat.zero_add, w.2.2.2.2.1 i hi, List.getD_eq_getElem?_getD, List.getElem?_eq_getElem hi]
  have := w.2.2.2.2.2.1 _ (List.getElem_mem hi)
  show -128 ≤ s[i] ∧ s[i] ≤ 127
  omega)
theorem R294 {d a u v : Nat} {h : j_H} {x : List Int} (k1 : h.1[a]? = some (1, 4)) (k2 : h.2.2 a 1 = 0) (w : sT h u v x) : c_call (d + 2) 294 [jR a, jR u] h = some (none, h) := by
  refine E294.trans ?_
  refine (S_getsI rfl at_294_0).trans ?_
  refine (S_if_eq at_294_3).trans ?_
  refine (if_neg (by decide)).trans ?_
  refine (S_aload_n rfl at_294_6).trans ?_
  refine (S_get2 k1 rfl at_294_7).trans ?_
  rw [k2]
  refine (S_aload_n rfl at_294_10).trans ?_
  refine (S_invv (b := 0) (by decide) kn_274 rfl w.1 (Nat.le_of_ble_eq_true rfl) at_294_11).trans ?_
  show (((c_call (d + 1)) 274 [jR u] h).bind _) = _
  rw [R274 w.1 w.2.2.2.1]
  show j_fin (c_call (d + 1)) 294 14 [some (jR a), some (jR u)] [jI 0, jI 0] h = _
  refine (S_icmp_eq at_294_14).trans ?_
  refine (if_pos (by decide)).trans ?_
  exact S_ret rfl at_294_21
theorem R275 {d b c u v k : Nat} {h : j_H} {x : List Int} (k3 : h.1[b]? = some (34, c)) (w : sT h u v x) (hv2 : 2 ≤ v) (hb2 : 2 ≤ b) (hk : k + x.length ≤ c) (hc : c ≤ 1000) : c_call (d + 2) 275 [jR u, jR b, jI (k : Int), jI 0] h = some (none, (h.1, h.2.1, j_cpy h.2.2 v 0 b k x.length)) := by
  refine E275.trans ?_
  refine (S_aload_n rfl at_275_0).trans ?_
  refine (S_invv (b := 0) (by decide) kn_274 rfl w.1 (Nat.le_of_ble_eq_true rfl) at_275_1).trans ?_
  show (((c_call (d + 1)) 274 [jR u] h).bind _) = _
  rw [R274 w.1 w.2.2.2.1]
  show j_fin (c_call (d + 1)) 275 4 [some (jR u), some (jR b), some (jI (k : Int)), some (jI 0)] [jI 0] h = _
  refine (S_iload_n rfl at_275_4).trans ?_
  refine (S_icmp_ne at_275_5).trans ?_
  refine (if_pos (by decide)).trans ?_
  refine (S_aload_n rfl at_275_8).trans ?_
  refine (S_getKR w.1 (by decide) rfl w.2.1 at_275_9).trans ?_
  refine (S_iconst at_275_12).trans ?_
  refine (S_aload_n rfl at_275_13).trans ?_
  refine (S_iload_n rfl at_275_14).trans ?_
  refine (S_iload_n rfl at_275_15).trans ?_
  refine (S_ishl at_275_16).trans ?_
  rw [j_shl_0 (k : Int) (by omega)]
  refine (S_aload_n rfl at_275_17).trans ?_
  refine (S_getKR w.1 (by decide) rfl w.2.1 at_275_18).trans ?_
  refine (S_alen w.2.2.1 (by decide) at_275_21).trans ?_
  refine (S_cpyB rfl (sT_byt w) w.2.2.1 k3 ⟨hv2, hb2⟩ (Nat.le_of_ble_eq_true rfl) at_275_22).trans ?_
  refine (if_pos ⟨by omega, by decide, by omega, by omega, by omega⟩).trans ?_
  refine (S_goto at_275_25).trans ?_
  exact S_ret rfl at_275_43
theorem R299 {d a b c u v k : Nat} {h : j_H} {x : List Int} (k1 : h.1[a]? = some (1, 4)) (kr : j_rf h a 0 = some b) (k3 : h.1[b]? = some (34, c)) (k2 : h.2.2 a 1 = 0) (w : sT h u v x) (hv2 : 2 ≤ v) (hb2 : 2 ≤ b) (hk : k + x.length ≤ c) (hc : c ≤ 1000) : c_call (d + 3) 299 [jR a, jI (k : Int), jR u] h = some (none, (h.1, h.2.1, j_cpy h.2.2 v 0 b k x.length)) := by
  refine E299.trans ?_
  refine (S_aload_n rfl at_299_0).trans ?_
  refine (S_aload_n rfl at_299_1).trans ?_
  refine (S_invv (b := 1) (by decide) kn_294 rfl (kd_of k1) (Nat.le_of_ble_eq_true rfl) at_299_2).trans ?_
  show (((c_call (d + 2)) 294 [jR a, jR u] h).bind _) = _
  rw [R294 (d := d) k1 k2 w]
  show j_fin (c_call (d + 2)) 299 5 [some (jR a), some (jI (k : Int)), some (jR u)] [] h = _
  refine (S_aload_n rfl at_299_5).trans ?_
  refine (S_aload_n rfl at_299_6).trans ?_
  refine (S_getR k1 rfl kr at_299_7).trans ?_
  refine (S_iload_n rfl at_299_10).trans ?_
  refine (S_aload_n rfl at_299_11).trans ?_
  refine (S_get2 k1 rfl at_299_12).trans ?_
  rw [k2]
  refine (S_invv (b := 3) (by decide) kn_275 rfl w.1 (Nat.le_of_ble_eq_true rfl) at_299_15).trans ?_
  show (((c_call (d + 2)) 275 [jR u, jR b, jI (k : Int), jI 0] h).bind _) = _
  rw [R275 (d := d) k3 w hv2 hb2 hk hc]
  show j_fin (c_call (d + 2)) 299 18 [some (jR a), some (jI (k : Int)), some (jR u)] [] (h.1, h.2.1, j_cpy h.2.2 v 0 b k x.length) = _
  exact S_ret rfl at_299_18
/-- the heap behind a text appended (room was there) -/
def aB (h1 : j_H) (a b1 v k l : Nat) (n : Int) : j_H := ((h1.1, h1.2.1, j_cpy h1.2.2 v 0 b1 k l).1, (h1.1, h1.2.1, j_cpy h1.2.2 v 0 b1 k l).2.1, j_up (h1.1, h1.2.1, j_cpy h1.2.2 v 0 b1 k l).2.2 a 3 n)
theorem R291 {d a b1 c1 u v k : Nat} {h h1 : j_H} {x : List Int} {n : Int} (k1 : h.1[a]? = some (1, 4)) (kc : h.2.2 a 3 = k) (w : sT h u v x) (hn : w32 ((k : Int) + (x.length : Int)) = n) (e292 : c_call (d + 4) 292 [jR a, jI n] h = some (none, h1)) (j1 : h1.1[a]? = some (1, 4)) (jr : j_rf h1 a 0 = some b1) (j3 : h1.1[b1]? = some (34, c1)) (j2 : h1.2.2 a 1 = 0) (kc1 : h1.2.2 a 3 = k) (w1 : sT h1 u v x) (hv2 : 2 ≤ v) (hb2 : 2 ≤ b1) (hk : k + x.length ≤ c1) (hc : c1 ≤ 1000) (hab : a ≠ b1) : c_call (d + 5) 291 [jR a, jR u] h = some (some (jR a), aB h1 a b1 v k x.length n) := by
  have kc2 : (h1.1, h1.2.1, j_cpy h1.2.2 v 0 b1 k x.length).2.2 a 3 = (k : Int) := by
    show (if a = b1 then _ else h1.2.2 a 3) = _
    rw [if_neg hab]
    exact kc1
  refine E291.trans ?_
  refine (S_aload_n rfl at_291_0).trans ?_
  refine (S_nnull at_291_1).trans ?_
  refine (S_aload_n rfl at_291_9).trans ?_
  refine (S_invv (b := 0) (by decide) kn_279 rfl w.1 (Nat.le_of_ble_eq_true rfl) at_291_10).trans ?_
  show (((c_call (d + 4)) 279 [jR u] h).bind _) = _
  rw [R279 (d := d + 2) w]
  show j_fin (c_call (d + 4)) 291 13 [some (jR a), some (jR u), none] [jI (x.length : Int)] h = _
  refine (S_istore_n (l1 := [some (jR a), some (jR u), some (jI (x.length : Int))]) rfl at_291_13).trans ?_
  refine (S_aload_n rfl at_291_14).trans ?_
  refine (S_aload_n rfl at_291_15).trans ?_
  refine (S_get0 k1 rfl at_291_16).trans ?_
  rw [kc]
  refine (S_iload_n rfl at_291_19).trans ?_
  refine (S_iadd at_291_20).trans ?_
  rw [hn]
  refine (S_invv (b := 1) (by decide) kn_292 rfl (kd_of k1) (Nat.le_of_ble_eq_true rfl) at_291_21).trans ?_
  show (((c_call (d + 4)) 292 [jR a, jI n] h).bind _) = _
  rw [e292]
  show j_fin (c_call (d + 4)) 291 24 [some (jR a), some (jR u), some (jI (x.length : Int))] [] h1 = _
  refine (S_aload_n rfl at_291_24).trans ?_
  refine (S_aload_n rfl at_291_25).trans ?_
  refine (S_get0 (show (h1).1[a]? = some (1, 4) from j1) rfl at_291_26).trans ?_
  rw [kc1]
  refine (S_aload_n rfl at_291_29).trans ?_
  refine (S_invv (b := 2) (by decide) kn_299 rfl (kd_of j1) (Nat.le_of_ble_eq_true rfl) at_291_30).trans ?_
  show (((c_call (d + 4)) 299 [jR a, jI (k : Int), jR u] h1).bind _) = _
  rw [R299 (d := d + 1) j1 jr j3 j2 w1 hv2 hb2 hk hc]
  show j_fin (c_call (d + 4)) 291 33 [some (jR a), some (jR u), some (jI (x.length : Int))] [] (h1.1, h1.2.1, j_cpy h1.2.2 v 0 b1 k x.length) = _
  refine (S_aload_n rfl at_291_33).trans ?_
  refine (S_dup rfl at_291_34).trans ?_
  refine (S_get0 (show ((h1.1, h1.2.1, j_cpy h1.2.2 v 0 b1 k x.length)).1[a]? = some (1, 4) from j1) rfl at_291_35).trans ?_
  rw [kc2]
  refine (S_iload_n rfl at_291_38).trans ?_
  refine (S_iadd at_291_39).trans ?_
  rw [hn]
  refine (S_put0 (show ((h1.1, h1.2.1, j_cpy h1.2.2 v 0 b1 k x.length)).1[a]? = some (1, 4) from j1) rfl at_291_40).trans ?_
  refine (S_aload_n rfl at_291_43).trans ?_
  exact S_aret rfl at_291_44
