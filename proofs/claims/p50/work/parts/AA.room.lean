/-! Builders: room made where it is wanted. -/
theorem R292a {d a b c : Nat} {h : j_H} {n : Int} (k1 : h.1[a]? = some (1, 4)) (kr : j_rf h a 0 = some b) (k3 : h.1[b]? = some (34, c)) (k2 : h.2.2 a 1 = 0) (hc : c ≤ 1000) (hn : 0 ≤ n ∧ n ≤ (c : Int)) : c_call (d + 4) 292 [jR a, jI n] h = some (none, h) := by
  refine E292.trans ?_
  refine (S_aload_n rfl at_292_0).trans ?_
  refine (S_getR k1 rfl kr at_292_1).trans ?_
  refine (S_alen (kd_of k3) (by decide) at_292_4).trans ?_
  refine (S_aload_n rfl at_292_5).trans ?_
  refine (S_get2 k1 rfl at_292_6).trans ?_
  rw [k2]
  refine (S_ishr at_292_9).trans ?_
  rw [j_shr_0 (c : Int) (by omega)]
  refine (S_istore_n (l1 := [some (jR a), some (jI n), some (jI (c : Int))]) rfl at_292_10).trans ?_
  refine (S_iload_n rfl at_292_11).trans ?_
  refine (S_iload_n rfl at_292_12).trans ?_
  refine (S_isub at_292_13).trans ?_
  rw [w32_id (x := n - (c : Int)) (by omega) (by omega)]
  refine (S_if_le at_292_14).trans ?_
  refine (if_neg (by omega)).trans ?_
  exact S_ret rfl at_292_38
/-- the heap behind the making of room -/
def gB (h : j_H) (a b c e : Nat) : j_H := ((((j_new h 34 e).1, (j_new h 34 e).2.1, j_cpy (j_new h 34 e).2.2 b 0 (h.1.length) 0 c)).1, j_srf (((j_new h 34 e).1, (j_new h 34 e).2.1, j_cpy (j_new h 34 e).2.2 b 0 (h.1.length) 0 c)) a 0 (h.1.length), (((j_new h 34 e).1, (j_new h 34 e).2.1, j_cpy (j_new h 34 e).2.2 b 0 (h.1.length) 0 c)).2.2)
theorem byt_of {m : j_M0} {a sp n : Nat} (k : ∀ i : Nat, i < n → -128 ≤ m a (sp + i) ∧ m a (sp + i) ≤ 127) : j_byt m a sp n = true := by
  unfold j_byt
  rw [List.all_eq_true]
  intro i hi
  exact decide_eq_true (k i (List.mem_range.mp hi))
theorem R292b {d a b c : Nat} {h : j_H} {n : Int} (k1 : h.1[a]? = some (1, 4)) (kr : j_rf h a 0 = some b) (k3 : h.1[b]? = some (34, c)) (k2 : h.2.2 a 1 = 0) (hc : c ≤ 1000) {e : Nat} (he : e = 2 * c + 2) (hn : (c : Int) < n ∧ n ≤ 2 * (c : Int) + 1) (hl : h.1.length < 900000) (hb : 2 ≤ b) (hq : 2 ≤ h.1.length) (hB : j_byt (j_new h 34 e).2.2 b 0 c = true) : c_call (d + 4) 292 [jR a, jI n] h = some (none, gB h a b c e) := by
  refine E292.trans ?_
  refine (S_aload_n rfl at_292_0).trans ?_
  refine (S_getR k1 rfl kr at_292_1).trans ?_
  refine (S_alen (kd_of k3) (by decide) at_292_4).trans ?_
  refine (S_aload_n rfl at_292_5).trans ?_
  refine (S_get2 k1 rfl at_292_6).trans ?_
  rw [k2]
  refine (S_ishr at_292_9).trans ?_
  rw [j_shr_0 (c : Int) (by omega)]
  refine (S_istore_n (l1 := [some (jR a), some (jI n), some (jI (c : Int))]) rfl at_292_10).trans ?_
  refine (S_iload_n rfl at_292_11).trans ?_
  refine (S_iload_n rfl at_292_12).trans ?_
  refine (S_isub at_292_13).trans ?_
  rw [w32_id (x := n - (c : Int)) (by omega) (by omega)]
  refine (S_if_le at_292_14).trans ?_
  refine (if_pos (by omega)).trans ?_
  refine (S_aload_n rfl at_292_17).trans ?_
  refine (S_aload_n rfl at_292_18).trans ?_
  refine (S_getR k1 rfl kr at_292_19).trans ?_
  refine (S_aload_n rfl at_292_22).trans ?_
  refine (S_iload_n rfl at_292_23).trans ?_
  refine (S_invv (b := 1) (by decide) kn_298 rfl (kd_of k1) (Nat.le_of_ble_eq_true rfl) at_292_24).trans ?_
  show (((c_call (d + 3)) 298 [jR a, jI n] h).bind _) = _
  rw [R298 k1 kr k3 k2 hn hc (show (e : Int) = _ by omega)]
  show j_fin (c_call (d + 3)) 292 27 [some (jR a), some (jI n), some (jI (c : Int))] [jI (e : Int), jR b, jR a] h = _
  refine (S_aload_n rfl at_292_27).trans ?_
  refine (S_get2 k1 rfl at_292_28).trans ?_
  rw [k2]
  refine (S_ishl at_292_31).trans ?_
  rw [j_shl_0 (e : Int) (by omega)]
  refine (S_invs (by decide) (Nat.le_of_ble_eq_true rfl) (Nat.le_of_ble_eq_true rfl) at_292_32).trans ?_
  show (((c_call (d + 3)) 305 [jR b, jI (e : Int)] h).bind _) = _
  rw [R305 k3 (by omega) hl hb hq hB]
  show j_fin (c_call (d + 3)) 292 35 [some (jR a), some (jI n), some (jI (c : Int))] [jR (h.1.length), jR a] (((j_new h 34 e).1, (j_new h 34 e).2.1, j_cpy (j_new h 34 e).2.2 b 0 (h.1.length) 0 c)) = _
  refine (S_putR (show (((j_new h 34 e).1, (j_new h 34 e).2.1, j_cpy (j_new h 34 e).2.2 b 0 (h.1.length) 0 c)).1[a]? = some (1, 4) from kq_old1 k1) rfl at_292_35).trans ?_
  exact S_ret rfl at_292_38
/-- a builder with more room -/
theorem sB_grow {h : j_H} {a b c e : Nat} {s : List Int} (w : sB h a b c s) (hw : h.2.1.length = h.1.length) (hl : h.1.length < 900000) (he : e = 2 * c + 2) (hc : c ≤ 400) : sB (gB h a b c e) a h.1.length e s ∧ xF (fun z => z = a) 1 e h (gB h a b c e) ∧ (gB h a b c e).1.length = h.1.length + 1 := by
  obtain ⟨⟨k1, k3, kr⟩, ⟨k2, kc⟩, ⟨hs, h16, h1000⟩, hv, hby, h127, ha2, hb2⟩ := w
  have la := (List.getElem?_eq_some_iff.mp k1).1
  have lb := (List.getElem?_eq_some_iff.mp k3).1
  have hrow : 0 < (h.2.1.getD a []).length := by
    unfold j_rf at kr
    by_cases e0 : 0 < (h.2.1.getD a []).length
    · exact e0
    · rw [List.getD_eq_getElem?_getD, List.getElem?_eq_none (by omega)] at kr
      cases kr
  have hab : a ≠ h.1.length := by omega
  have hbb : b ≠ h.1.length := by omega
  have ma : ∀ i, (gB h a b c e).2.2 a i = h.2.2 a i := fun i => by
    show (if a = h.1.length then _ else (if a = h.1.length then 0 else h.2.2 a i)) = _
    rw [if_neg hab, if_neg hab]
  have mn : ∀ i, i < c → (gB h a b c e).2.2 h.1.length i = h.2.2 b i := fun i hi => by
    show (if h.1.length = h.1.length then (if 0 ≤ i ∧ i < 0 + c then (if b = h.1.length then 0 else h.2.2 b (0 + (i - 0))) else _) else _) = _
    rw [if_pos rfl, if_pos ⟨Nat.zero_le _, by omega⟩, if_neg hbb, Nat.sub_zero, Nat.zero_add]
  have mz : ∀ i, c ≤ i → (gB h a b c e).2.2 h.1.length i = 0 := fun i hi => by
    show (if h.1.length = h.1.length then (if 0 ≤ i ∧ i < 0 + c then _ else (if h.1.length = h.1.length then 0 else h.2.2 h.1.length i)) else _) = _
    rw [if_pos rfl, if_neg (by omega), if_pos rfl]
  refine ⟨⟨⟨kq_old1 k1, kq_new h 34 e, ?_⟩, ⟨(ma 1).trans k2, (ma 3).trans kc⟩, ⟨by omega, by omega, by omega⟩, fun i hi => (mn i (by omega)).trans (hv i hi), fun i hi => ?_, h127, ha2, by omega⟩, ⟨⟨[(34, e)], rfl, Nat.le_refl _, by simp⟩, ⟨?_, fun e1 => ?_⟩, fun z hz hn => ?_, fun z i hz hn => ?_⟩, j_new_l h 34 e⟩
  · refine rf_set (h := ((j_new h 34 e).1, (j_new h 34 e).2.1, j_cpy (j_new h 34 e).2.2 b 0 (h.1.length) 0 c)) ?_
    show 0 < ((j_new h 34 e).2.1.getD a []).length
    rw [rw_old (by omega)]
    exact hrow
  · by_cases hi2 : i < c
    · rw [mn i hi2]
      exact hby i hi2
    · rw [mz i (by omega)]
      decide
  · show _ ≤ (List.set _ _ _).length
    rw [List.length_set]
    show _ ≤ (h.2.1 ++ _).length
    rw [List.length_append]
    omega
  · show (List.set _ _ _).length = _
    rw [List.length_set]
    exact j_new_w e1
  · show (j_srf ((j_new h 34 e).1, (j_new h 34 e).2.1, j_cpy (j_new h 34 e).2.2 b 0 (h.1.length) 0 c) a 0 h.1.length).getD z [] = _
    rw [rw_set hn]
    exact rw_old hz
  · show (if z = h.1.length then _ else (if z = h.1.length then 0 else h.2.2 z i)) = _
    rw [if_neg (by omega), if_neg (by omega)]
