/-! Builders: a letter appended. -/
theorem ml_280 : j_ml 280 = 1 := by decide +kernel
theorem E280 {d : Nat} {h : j_H} {x0 : Int} : c_call (d + 1) 280 [jI x0] h = j_fin (c_call d) 280 0 [some (jI x0)] [] h := (E_of ml_280 (Nat.le_of_ble_eq_true rfl)).trans rfl
theorem ml_285 : j_ml 285 = 2 := by decide +kernel
theorem E285 {d : Nat} {h : j_H} {a0 : Nat} {x1 : Int} : c_call (d + 1) 285 [jR a0, jI x1] h = j_fin (c_call d) 285 0 [some (jR a0), some (jI x1)] [] h := (E_of ml_285 (Nat.le_of_ble_eq_true rfl)).trans rfl
theorem ml_289 : j_ml 289 = 2 := by decide +kernel
theorem E289 {d : Nat} {h : j_H} {a0 : Nat} {x1 : Int} : c_call (d + 1) 289 [jR a0, jI x1] h = j_fin (c_call d) 289 0 [some (jR a0), some (jI x1)] [] h := (E_of ml_289 (Nat.le_of_ble_eq_true rfl)).trans rfl
theorem ml_296 : j_ml 296 = 1 := by decide +kernel
theorem E296 {d : Nat} {h : j_H} {a0 : Nat} : c_call (d + 1) 296 [jR a0] h = j_fin (c_call d) 296 0 [some (jR a0)] [] h := (E_of ml_296 (Nat.le_of_ble_eq_true rfl)).trans rfl
theorem R296 {d a : Nat} {h : j_H} (k1 : h.1[a]? = some (1, 4)) (k2 : h.2.2 a 1 = 0) : c_call (d + 1) 296 [jR a] h = some (some (jI 1), h) := by
  refine E296.trans ?_
  refine (S_getsI rfl at_296_0).trans ?_
  refine (S_if_eq at_296_3).trans ?_
  refine (if_neg (by decide)).trans ?_
  refine (S_aload_n rfl at_296_6).trans ?_
  refine (S_get2 k1 rfl at_296_7).trans ?_
  refine (S_if_ne at_296_10).trans ?_
  refine (if_pos k2).trans ?_
  refine (S_iconst at_296_13).trans ?_
  refine (S_goto at_296_14).trans ?_
  refine (S_iretz rfl at_296_18).trans ?_
  exact if_pos (by decide)
theorem R280 {d : Nat} {h : j_H} {x : Int} (hx : 0 ≤ x ∧ x ≤ 127) : c_call (d + 1) 280 [jI x] h = some (some (jI 1), h) := by
  refine E280.trans ?_
  refine (S_iload_n rfl at_280_0).trans ?_
  refine (S_sipush at_280_1).trans ?_
  refine (S_icmp_gt at_280_4).trans ?_
  refine (if_neg (by omega)).trans ?_
  refine (S_iconst at_280_7).trans ?_
  refine (S_goto at_280_8).trans ?_
  refine (S_iretz rfl at_280_12).trans ?_
  exact if_pos (by decide)
/-- the heap behind a letter appended (room was there) -/
def cB (h1 : j_H) (a b1 k : Nat) (x n : Int) : j_H := ((h1.1, h1.2.1, j_up h1.2.2 a 3 n).1, (h1.1, h1.2.1, j_up h1.2.2 a 3 n).2.1, j_up (h1.1, h1.2.1, j_up h1.2.2 a 3 n).2.2 b1 k (w8 x))
theorem R289 {d a b1 c1 k : Nat} {h h1 : j_H} {x n : Int} (hx : 0 ≤ x ∧ x ≤ 127) (k1 : h.1[a]? = some (1, 4)) (kc : h.2.2 a 3 = k) (hn : w32 ((k : Int) + 1) = n) (e292 : c_call (d + 4) 292 [jR a, jI n] h = some (none, h1)) (j1 : h1.1[a]? = some (1, 4)) (jr : j_rf h1 a 0 = some b1) (j3 : h1.1[b1]? = some (34, c1)) (j2 : h1.2.2 a 1 = 0) (kc1 : h1.2.2 a 3 = k) (hb2 : 2 ≤ b1) (hk : k + 1 ≤ c1) : c_call (d + 5) 289 [jR a, jI x] h = some (some (jR a), cB h1 a b1 k x n) := by
  refine E289.trans ?_
  refine (S_aload_n rfl at_289_0).trans ?_
  refine (S_aload_n rfl at_289_1).trans ?_
  refine (S_get0 k1 rfl at_289_2).trans ?_
  rw [kc]
  refine (S_iconst at_289_5).trans ?_
  refine (S_iadd at_289_6).trans ?_
  rw [hn]
  refine (S_invv (b := 1) (by decide) kn_292 rfl (kd_of k1) (Nat.le_of_ble_eq_true rfl) at_289_7).trans ?_
  show (((c_call (d + 4)) 292 [jR a, jI n] h).bind _) = _
  rw [e292]
  show j_fin (c_call (d + 4)) 289 10 [some (jR a), some (jI x)] [] h1 = _
  refine (S_aload_n rfl at_289_10).trans ?_
  refine (S_invv (b := 0) (by decide) kn_296 rfl (kd_of j1) (Nat.le_of_ble_eq_true rfl) at_289_11).trans ?_
  show (((c_call (d + 4)) 296 [jR a] h1).bind _) = _
  rw [R296 (d := d + 3) j1 j2]
  show j_fin (c_call (d + 4)) 289 14 [some (jR a), some (jI x)] [jI 1] h1 = _
  refine (S_if_eq at_289_14).trans ?_
  refine (if_neg (by decide)).trans ?_
  refine (S_iload_n rfl at_289_17).trans ?_
  refine (S_invs (by decide) (Nat.le_of_ble_eq_true rfl) (Nat.le_of_ble_eq_true rfl) at_289_18).trans ?_
  show (((c_call (d + 4)) 280 [jI x] h1).bind _) = _
  rw [R280 (d := d + 3) hx]
  show j_fin (c_call (d + 4)) 289 21 [some (jR a), some (jI x)] [jI 1] h1 = _
  refine (S_if_eq at_289_21).trans ?_
  refine (if_neg (by decide)).trans ?_
  refine (S_aload_n rfl at_289_24).trans ?_
  refine (S_getR (show (h1).1[a]? = some (1, 4) from j1) rfl jr at_289_25).trans ?_
  refine (S_aload_n rfl at_289_28).trans ?_
  refine (S_dup rfl at_289_29).trans ?_
  refine (S_get0 (show (h1).1[a]? = some (1, 4) from j1) rfl at_289_30).trans ?_
  rw [kc1]
  refine (S_dup_x1 rfl rfl at_289_33).trans ?_
  refine (S_iconst at_289_34).trans ?_
  refine (S_iadd at_289_35).trans ?_
  rw [hn]
  refine (S_put0 (show (h1).1[a]? = some (1, 4) from j1) rfl at_289_36).trans ?_
  refine (S_iload_n rfl at_289_39).trans ?_
  refine (S_i2b at_289_40).trans ?_
  rw [w8_id hx.1 hx.2]
  refine (S_bastore34 hb2 (show ((h1.1, h1.2.1, j_up h1.2.2 a 3 n)).1[b1]? = some (34, c1) from j3) at_289_41).trans ?_
  refine (if_pos ⟨by omega, by omega⟩).trans ?_
  refine (S_goto at_289_42).trans ?_
  refine (S_aload_n rfl at_289_75).trans ?_
  exact S_aret rfl at_289_76
theorem R285 {d a : Nat} {h h2 : j_H} {x : Int} (k1 : h.1[a]? = some (1, 4)) (e : c_call (d + 5) 289 [jR a, jI x] h = some (some (jR a), h2)) : c_call (d + 6) 285 [jR a, jI x] h = some (some (jR a), h2) := by
  refine E285.trans ?_
  refine (S_aload_n rfl at_285_0).trans ?_
  refine (S_iload_n rfl at_285_1).trans ?_
  refine (S_invp (b := 1) (by decide) kn_289 rfl (kd_of k1) (Nat.le_of_ble_eq_true rfl) at_285_2).trans ?_
  show (((c_call (d + 5)) 289 [jR a, jI x] h).bind _) = _
  rw [e]
  show j_fin (c_call (d + 5)) 285 5 [some (jR a), some (jI x)] [jR a] h2 = _
  refine (S_pop rfl at_285_5).trans ?_
  refine (S_aload_n rfl at_285_6).trans ?_
  exact S_aret rfl at_285_7
theorem sB_chr {h : j_H} {a b c : Nat} {s : List Int} {x n : Int} (w : sB h a b c s) (hx : 0 ≤ x ∧ x ≤ 127) (hk : s.length + 1 ≤ c) (hn : n = ((s.length + 1 : Nat) : Int)) : sB (cB h a b s.length x n) a b c (s ++ [x]) ∧ xF (fun z => z = a ∨ z = b) 0 0 h (cB h a b s.length x n) := by
  obtain ⟨⟨k1, k3, kr⟩, ⟨k2, kc⟩, ⟨hs, h16, h1000⟩, hv, hby, h127, ha2, hb2⟩ := w
  have hab : a ≠ b := fun e => by rw [e, k3] at k1; cases k1
  have w8x : w8 x = x := w8_id hx.1 hx.2
  have mb : ∀ i, (cB h a b s.length x n).2.2 b i = if i = s.length then x else h.2.2 b i := fun i => by
    show (if b = b then (if i = s.length then w8 x else (if b = a then _ else h.2.2 b i)) else _) = _
    rw [if_pos rfl, w8x]
    by_cases e : i = s.length
    · rw [if_pos e, if_pos e]
    · rw [if_neg e, if_neg e, if_neg (fun e2 => hab e2.symm)]
  refine ⟨⟨⟨k1, k3, kr⟩, ⟨?_, ?_⟩, ⟨by rw [List.length_append]; exact hk, h16, h1000⟩, fun i hi => ?_, fun i hi => ?_, fun y hy => ?_, ha2, hb2⟩, ⟨⟨[], (List.append_nil _).symm, Nat.le_refl _, Nat.le_refl _⟩, ⟨Nat.le_refl _, fun e => e⟩, fun _ _ _ => rfl, fun z i _ hz => ?_⟩⟩
  · show (if a = b then _ else (if a = a then (if 1 = 3 then n else h.2.2 a 1) else _)) = 0
    rw [if_neg hab, if_pos rfl, if_neg (by decide)]
    exact k2
  · show (if a = b then _ else (if a = a then (if 3 = 3 then n else _) else _)) = _
    rw [if_neg hab, if_pos rfl, if_pos rfl, hn, List.length_append]
    rfl
  · rw [List.length_append] at hi
    replace hi : i < s.length + 1 := hi
    rw [mb, getD_app]
    by_cases e : i < s.length
    · rw [if_neg (by omega), if_pos e]
      exact hv i e
    · rw [if_pos (by omega), if_neg e, show i - s.length = 0 by omega]
      rfl
  · rw [mb]
    split
    · omega
    · exact hby i hi
  · rcases List.mem_append.mp hy with e | e
    · exact h127 y e
    · rw [List.mem_singleton.mp e]
      exact hx
  · show (if z = b then _ else (if z = a then _ else h.2.2 z i)) = _
    rw [if_neg (fun e => hz (Or.inr e)), if_neg (fun e => hz (Or.inl e))]
/-- append of a letter -/
theorem A285 {d : Nat} {h : j_H} {a b c : Nat} {s : List Int} {x : Int} (w : sB h a b c s) (hx : 0 ≤ x ∧ x ≤ 127) (hw : h.2.1.length = h.1.length) (hl : h.1.length < 800000) (hc : c ≤ 400) : ∃ (h' : j_H) (b' c' : Nat), c_call (d + 6) 285 [jR a, jI x] h = some (some (jR a), h') ∧ sB h' a b' c' (s ++ [x]) ∧ xF (fun z => z = a ∨ z = b) 1 (2 * c + 2) h h' ∧ (b' = b ∨ h.1.length ≤ b') ∧ (c' = c ∨ (c' = 2 * c + 2 ∧ c < s.length + 1)) ∧ h'.2.1.length = h'.1.length ∧ h'.1.length ≤ h.1.length + 1 := by
  obtain ⟨⟨k1, k3, kr⟩, ⟨k2, kc⟩, ⟨hs, h16, h1000⟩, hv, hby, h127, ha2, hb2⟩ := id w
  have lb := (List.getElem?_eq_some_iff.mp k3).1
  have la := (List.getElem?_eq_some_iff.mp k1).1
  by_cases g : s.length + 1 ≤ c
  · have e292 : c_call (d + 4) 292 [jR a, jI ((s.length + 1 : Nat) : Int)] h = some (none, h) := R292a k1 kr k3 k2 h1000 (by omega)
    have e := R289 (d := d) hx k1 kc (nat1 (by omega)) e292 k1 kr k3 k2 kc hb2 g
    obtain ⟨y1, y2⟩ := sB_chr w hx g rfl
    refine ⟨_, b, c, R285 k1 e, y1, xF_w y2 hw (fun z hz => Or.inl hz) (by omega) (by omega), Or.inl rfl, Or.inl rfl, hw, Nat.le_succ _⟩
  · obtain ⟨z1, z2, z3⟩ := sB_grow w hw (by omega) rfl hc
    obtain ⟨⟨j1, j3, jr⟩, ⟨j2, jc⟩, -⟩ := id z1
    have e292 : c_call (d + 4) 292 [jR a, jI ((s.length + 1 : Nat) : Int)] h = some (none, gB h a b c (2 * c + 2)) := R292b k1 kr k3 k2 h1000 rfl (by omega) (by omega) hb2 (by omega) (byt_of (fun i hi => by
      show -128 ≤ (if b = h.1.length then 0 else h.2.2 b (0 + i)) ∧ (if b = h.1.length then 0 else h.2.2 b (0 + i)) ≤ 127
      rw [if_neg (by omega), Nat.zero_add]
      exact hby i hi))
    have e := R289 (d := d) hx k1 kc (nat1 (by omega)) e292 j1 jr j3 j2 jc (by omega) (by omega)
    obtain ⟨y1, y2⟩ := sB_chr z1 hx (by omega) rfl
    have w1 : (gB h a b c (2 * c + 2)).2.1.length = (gB h a b c (2 * c + 2)).1.length := z2.2.1.2 hw
    have z2' : xF (fun z => z = a ∨ z = h.1.length) 1 (2 * c + 2) h (gB h a b c (2 * c + 2)) := xF_w z2 hw (fun z hz => Or.inl (Or.inl hz)) (Nat.le_refl _) (Nat.le_refl _)
    refine ⟨_, h.1.length, 2 * c + 2, R285 k1 e, y1, xF_w (xF_tr z2' y2) hw (fun z hz => ?_) (Nat.le_refl _) (Nat.le_refl _), Or.inr (Nat.le_refl _), Or.inr ⟨rfl, by omega⟩, w1, ?_⟩
    · rcases hz with hz | hz
      · exact Or.inl (Or.inl hz)
      · exact Or.inr ⟨by omega, by omega⟩
    · show (gB h a b c (2 * c + 2)).1.length ≤ _
      omega
