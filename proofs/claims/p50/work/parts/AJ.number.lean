/-! A number appended (room is there). -/
theorem w8_dg {v : Nat} (h : v ≤ 9) : w8 (48 + (v : Int)) = 48 + (v : Int) := w8_id (by omega) (by omega)
theorem dg_a {x : Int} {u : Nat} (hx : 0 ≤ x ∧ x ≤ 9) (hu : u = x.natAbs) : dgF x = [48 + ((u % 10 : Nat) : Int)] := by
  subst hu
  unfold dgF
  rw [if_neg (by omega), if_neg (by omega)]
  rfl
theorem A284a {d : Nat} {h : j_H} {a b c : Nat} {s : List Int} {x : Int} (w : sB h a b c s) (hx : 0 ≤ x ∧ x ≤ 9) (hk : s.length + 1 ≤ c) (hl : h.1.length ≤ 1000000) (km : kmD h) : ∃ h' : j_H, c_call (d + 6) 284 [jR a, jI x] h = some (some (jR a), h') ∧ sB h' a b c (s ++ dgF x) ∧ xF (fun z => z = a ∨ z = b) 0 0 h h' := by
  obtain ⟨⟨k1, k3, kr⟩, ⟨k2, kc⟩, ⟨hs, h16, h1000⟩, hv, hby, h127, ha2, hb2⟩ := id w
  have hab : a ≠ b := fun e => by rw [e, k3] at k1; cases k1
  have lb := (List.getElem?_eq_some_iff.mp k3).1
  obtain ⟨u, hu⟩ : ∃ u : Nat, u = x.natAbs := ⟨_, rfl⟩
  obtain ⟨kO, kT⟩ := kd_O hl
  have e292 : c_call (d + 4) 292 [jR a, jI ((s.length + 1 : Nat) : Int)] h = some (none, h) := R292a k1 kr k3 k2 h1000 (by omega)
  have e300 := R300a (d := d + 3) (u := u) (x := x) (p0 := ((s.length + 1 : Nat) : Int)) (p1 := ((s.length + 1 : Nat) : Int) - 1) (p2 := ((s.length + 1 : Nat) : Int) - 2) (p3 := ((s.length + 1 : Nat) : Int) - 3) (h := h) (by omega) rfl ⟨rfl, rfl, rfl⟩ (by omega) (by omega) k3 ⟨by omega, hb2⟩ kO kT
  have e := R290 (d := d) k1 kc (R301a (d := d + 3) hx rfl) (by rw [w32_id (by omega) (by omega)]; omega) e292 k1 kr k2 e300 k1
  have hd := km u (by omega)
  have g1 := w8_dg (show u % 10 ≤ 9 by omega)
  have g2 := w8_dg (show u / 10 ≤ 9 by omega)
  have dg := dg_a hx hu
  refine ⟨_, R284 k1 e, ?_⟩
  rw [dg]
  refine sB_put w (by rw [← dg]; rw [dg]; exact hk) (by rw [← dg]; exact dgF_r (by omega)) rfl rfl (fun z i => ?_)
  have hz : w8 45 = 45 := by decide
  have t1 : (((s.length + 1 : Nat) : Int) - 1).toNat = s.length + 0 := by omega
  show (j_up (gca h b u _ _ _).2.2 a 3 _) z i = _
  simp only [gca, j_up, Int.toNat_natCast, hd.1, hd.2, g1, g2, hz, t1]
  have hl9 : ∀ i : Nat, i < 1 → (i = 0 ∨ i = 1 ∨ i = 2) := by omega
  simp only [List.length_cons, List.length_nil]
  by_cases r : s.length ≤ i ∧ i < s.length + 1
  · obtain ⟨j, rfl⟩ : ∃ j, i = s.length + j := ⟨i - s.length, by omega⟩
    rw [Nat.add_sub_cancel_left]
    rcases hl9 j (by omega) with rfl | rfl | rfl <;> grind
  · grind
theorem dg_b {x : Int} {u : Nat} (hx : 10 ≤ x ∧ x ≤ 99) (hu : u = x.natAbs) : dgF x = [48 + ((u / 10 : Nat) : Int), 48 + ((u % 10 : Nat) : Int)] := by
  subst hu
  unfold dgF
  rw [if_neg (by omega), if_pos (by omega)]
  rfl
theorem A284b {d : Nat} {h : j_H} {a b c : Nat} {s : List Int} {x : Int} (w : sB h a b c s) (hx : 10 ≤ x ∧ x ≤ 99) (hk : s.length + 2 ≤ c) (hl : h.1.length ≤ 1000000) (km : kmD h) : ∃ h' : j_H, c_call (d + 6) 284 [jR a, jI x] h = some (some (jR a), h') ∧ sB h' a b c (s ++ dgF x) ∧ xF (fun z => z = a ∨ z = b) 0 0 h h' := by
  obtain ⟨⟨k1, k3, kr⟩, ⟨k2, kc⟩, ⟨hs, h16, h1000⟩, hv, hby, h127, ha2, hb2⟩ := id w
  have hab : a ≠ b := fun e => by rw [e, k3] at k1; cases k1
  have lb := (List.getElem?_eq_some_iff.mp k3).1
  obtain ⟨u, hu⟩ : ∃ u : Nat, u = x.natAbs := ⟨_, rfl⟩
  obtain ⟨kO, kT⟩ := kd_O hl
  have e292 : c_call (d + 4) 292 [jR a, jI ((s.length + 2 : Nat) : Int)] h = some (none, h) := R292a k1 kr k3 k2 h1000 (by omega)
  have e300 := R300b (d := d + 3) (u := u) (x := x) (p0 := ((s.length + 2 : Nat) : Int)) (p1 := ((s.length + 2 : Nat) : Int) - 1) (p2 := ((s.length + 2 : Nat) : Int) - 2) (p3 := ((s.length + 2 : Nat) : Int) - 3) (h := h) (by omega) rfl ⟨rfl, rfl, rfl⟩ (by omega) (by omega) k3 ⟨by omega, hb2⟩ kO kT
  have e := R290 (d := d) k1 kc (R301b (d := d + 3) hx rfl) (by rw [w32_id (by omega) (by omega)]; omega) e292 k1 kr k2 e300 k1
  have hd := km u (by omega)
  have g1 := w8_dg (show u % 10 ≤ 9 by omega)
  have g2 := w8_dg (show u / 10 ≤ 9 by omega)
  have dg := dg_b hx hu
  refine ⟨_, R284 k1 e, ?_⟩
  rw [dg]
  refine sB_put w (by rw [← dg]; rw [dg]; exact hk) (by rw [← dg]; exact dgF_r (by omega)) rfl rfl (fun z i => ?_)
  have hz : w8 45 = 45 := by decide
  have t1 : (((s.length + 2 : Nat) : Int) - 1).toNat = s.length + 1 := by omega
  have t2 : (((s.length + 2 : Nat) : Int) - 2).toNat = s.length + 0 := by omega
  show (j_up (gcb h b u _ _ _).2.2 a 3 _) z i = _
  simp only [gcb, j_up, Int.toNat_natCast, hd.1, hd.2, g1, g2, hz, t1, t2]
  have hl9 : ∀ i : Nat, i < 2 → (i = 0 ∨ i = 1 ∨ i = 2) := by omega
  simp only [List.length_cons, List.length_nil]
  by_cases r : s.length ≤ i ∧ i < s.length + 2
  · obtain ⟨j, rfl⟩ : ∃ j, i = s.length + j := ⟨i - s.length, by omega⟩
    rw [Nat.add_sub_cancel_left]
    rcases hl9 j (by omega) with rfl | rfl | rfl <;> grind
  · grind
theorem dg_c {x : Int} {u : Nat} (hx : -9 ≤ x ∧ x ≤ -1) (hu : u = x.natAbs) : dgF x = [45, 48 + ((u % 10 : Nat) : Int)] := by
  subst hu
  unfold dgF
  rw [if_pos (by omega), if_neg (by omega)]
  rfl
theorem A284c {d : Nat} {h : j_H} {a b c : Nat} {s : List Int} {x : Int} (w : sB h a b c s) (hx : -9 ≤ x ∧ x ≤ -1) (hk : s.length + 2 ≤ c) (hl : h.1.length ≤ 1000000) (km : kmD h) : ∃ h' : j_H, c_call (d + 6) 284 [jR a, jI x] h = some (some (jR a), h') ∧ sB h' a b c (s ++ dgF x) ∧ xF (fun z => z = a ∨ z = b) 0 0 h h' := by
  obtain ⟨⟨k1, k3, kr⟩, ⟨k2, kc⟩, ⟨hs, h16, h1000⟩, hv, hby, h127, ha2, hb2⟩ := id w
  have hab : a ≠ b := fun e => by rw [e, k3] at k1; cases k1
  have lb := (List.getElem?_eq_some_iff.mp k3).1
  obtain ⟨u, hu⟩ : ∃ u : Nat, u = x.natAbs := ⟨_, rfl⟩
  obtain ⟨kO, kT⟩ := kd_O hl
  have e292 : c_call (d + 4) 292 [jR a, jI ((s.length + 2 : Nat) : Int)] h = some (none, h) := R292a k1 kr k3 k2 h1000 (by omega)
  have e300 := R300c (d := d + 3) (u := u) (x := x) (p0 := ((s.length + 2 : Nat) : Int)) (p1 := ((s.length + 2 : Nat) : Int) - 1) (p2 := ((s.length + 2 : Nat) : Int) - 2) (p3 := ((s.length + 2 : Nat) : Int) - 3) (y := 0) (h := h) (by omega) ⟨rfl, rfl, rfl⟩ (by omega) (by omega) k3 ⟨by omega, hb2⟩ kO kT
  have e := R290 (d := d) k1 kc (R301c (d := d + 3) hx) (by rw [w32_id (by omega) (by omega)]; omega) e292 k1 kr k2 e300 k1
  have hd := km u (by omega)
  have g1 := w8_dg (show u % 10 ≤ 9 by omega)
  have g2 := w8_dg (show u / 10 ≤ 9 by omega)
  have dg := dg_c hx hu
  refine ⟨_, R284 k1 e, ?_⟩
  rw [dg]
  refine sB_put w (by rw [← dg]; rw [dg]; exact hk) (by rw [← dg]; exact dgF_r (by omega)) rfl rfl (fun z i => ?_)
  have hz : w8 45 = 45 := by decide
  have t1 : (((s.length + 2 : Nat) : Int) - 1).toNat = s.length + 1 := by omega
  have t2 : (((s.length + 2 : Nat) : Int) - 2).toNat = s.length + 0 := by omega
  show (j_up (gcc h b u _ _ _).2.2 a 3 _) z i = _
  simp only [gcc, j_up, Int.toNat_natCast, hd.1, hd.2, g1, g2, hz, t1, t2]
  have hl9 : ∀ i : Nat, i < 2 → (i = 0 ∨ i = 1 ∨ i = 2) := by omega
  simp only [List.length_cons, List.length_nil]
  by_cases r : s.length ≤ i ∧ i < s.length + 2
  · obtain ⟨j, rfl⟩ : ∃ j, i = s.length + j := ⟨i - s.length, by omega⟩
    rw [Nat.add_sub_cancel_left]
    rcases hl9 j (by omega) with rfl | rfl | rfl <;> grind
  · grind
theorem dg_d {x : Int} {u : Nat} (hx : -99 ≤ x ∧ x ≤ -10) (hu : u = x.natAbs) : dgF x = [45, 48 + ((u / 10 : Nat) : Int), 48 + ((u % 10 : Nat) : Int)] := by
  subst hu
  unfold dgF
  rw [if_pos (by omega), if_pos (by omega)]
  rfl
theorem A284d {d : Nat} {h : j_H} {a b c : Nat} {s : List Int} {x : Int} (w : sB h a b c s) (hx : -99 ≤ x ∧ x ≤ -10) (hk : s.length + 3 ≤ c) (hl : h.1.length ≤ 1000000) (km : kmD h) : ∃ h' : j_H, c_call (d + 6) 284 [jR a, jI x] h = some (some (jR a), h') ∧ sB h' a b c (s ++ dgF x) ∧ xF (fun z => z = a ∨ z = b) 0 0 h h' := by
  obtain ⟨⟨k1, k3, kr⟩, ⟨k2, kc⟩, ⟨hs, h16, h1000⟩, hv, hby, h127, ha2, hb2⟩ := id w
  have hab : a ≠ b := fun e => by rw [e, k3] at k1; cases k1
  have lb := (List.getElem?_eq_some_iff.mp k3).1
  obtain ⟨u, hu⟩ : ∃ u : Nat, u = x.natAbs := ⟨_, rfl⟩
  obtain ⟨kO, kT⟩ := kd_O hl
  have e292 : c_call (d + 4) 292 [jR a, jI ((s.length + 3 : Nat) : Int)] h = some (none, h) := R292a k1 kr k3 k2 h1000 (by omega)
  have e300 := R300d (d := d + 3) (u := u) (x := x) (p0 := ((s.length + 3 : Nat) : Int)) (p1 := ((s.length + 3 : Nat) : Int) - 1) (p2 := ((s.length + 3 : Nat) : Int) - 2) (p3 := ((s.length + 3 : Nat) : Int) - 3) (y := 0) (h := h) (by omega) ⟨rfl, rfl, rfl⟩ (by omega) (by omega) k3 ⟨by omega, hb2⟩ kO kT
  have e := R290 (d := d) k1 kc (R301d (d := d + 3) hx) (by rw [w32_id (by omega) (by omega)]; omega) e292 k1 kr k2 e300 k1
  have hd := km u (by omega)
  have g1 := w8_dg (show u % 10 ≤ 9 by omega)
  have g2 := w8_dg (show u / 10 ≤ 9 by omega)
  have dg := dg_d hx hu
  refine ⟨_, R284 k1 e, ?_⟩
  rw [dg]
  refine sB_put w (by rw [← dg]; rw [dg]; exact hk) (by rw [← dg]; exact dgF_r (by omega)) rfl rfl (fun z i => ?_)
  have hz : w8 45 = 45 := by decide
  have t1 : (((s.length + 3 : Nat) : Int) - 1).toNat = s.length + 2 := by omega
  have t2 : (((s.length + 3 : Nat) : Int) - 2).toNat = s.length + 1 := by omega
  have t3 : (((s.length + 3 : Nat) : Int) - 3).toNat = s.length + 0 := by omega
  show (j_up (gcd h b u _ _ _).2.2 a 3 _) z i = _
  simp only [gcd, j_up, Int.toNat_natCast, hd.1, hd.2, g1, g2, hz, t1, t2, t3]
  have hl9 : ∀ i : Nat, i < 3 → (i = 0 ∨ i = 1 ∨ i = 2) := by omega
  simp only [List.length_cons, List.length_nil]
  by_cases r : s.length ≤ i ∧ i < s.length + 3
  · obtain ⟨j, rfl⟩ : ∃ j, i = s.length + j := ⟨i - s.length, by omega⟩
    rw [Nat.add_sub_cancel_left]
    rcases hl9 j (by omega) with rfl | rfl | rfl <;> grind
  · grind
