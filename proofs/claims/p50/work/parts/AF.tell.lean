/-! toString: what then holds. -/
theorem A288 {d : Nat} {h : j_H} {a b c : Nat} {s : List Int} (w : sB h a b c s) (hw : h.2.1.length = h.1.length) (hl : h.1.length < 800000) : ∃ h' : j_H, c_call (d + 6) 288 [jR a] h = some (some (jR h.1.length), h') ∧ sT h' h.1.length (h.1.length + 1) s ∧ xF (fun _ => False) 2 (4 + s.length) h h' ∧ h'.2.1.length = h'.1.length ∧ h'.1.length = h.1.length + 2 := by
  obtain ⟨⟨k1, k3, kr⟩, ⟨k2, kc⟩, ⟨hs, h16, h1000⟩, hv, hby, h127, ha2, hb2⟩ := id w
  have la := (List.getElem?_eq_some_iff.mp k1).1
  have lb := (List.getElem?_eq_some_iff.mp k3).1
  have l1 := j_new_l h 0 4
  have w1 := j_new_w (k := 0) (n := 4) hw
  obtain ⟨H1, hH1⟩ : ∃ H1 : j_H, H1 = ((j_new h 0 4).1, (j_new h 0 4).2.1, j_up (j_new h 0 4).2.2 h.1.length 1 0) := ⟨_, rfl⟩
  have e1 : H1.1 = (j_new h 0 4).1 := by rw [hH1]
  have e2 : H1.2.1 = (j_new h 0 4).2.1 := by rw [hH1]
  have em : ∀ z i, z ≠ h.1.length → H1.2.2 z i = h.2.2 z i := fun z i hz => by
    rw [hH1]
    show (if z = h.1.length then _ else (if z = h.1.length then 0 else h.2.2 z i)) = _
    rw [if_neg hz, if_neg hz]
  have em1 : H1.2.2 h.1.length 1 = 0 := by
    rw [hH1]
    show (if h.1.length = h.1.length then (if 1 = 1 then (0 : Int) else _) else _) = 0
    rw [if_pos rfl, if_pos rfl]
  have eb : H1.1[b]? = some (34, c) := by rw [e1]; exact kq_old1 k3
  have L1 : H1.1.length = h.1.length + 1 := by rw [e1]; exact l1
  have hB : ∀ i : Nat, i < c → -128 ≤ H1.2.2 b (0 + i) ∧ H1.2.2 b (0 + i) ≤ 127 := fun i hi => by
    rw [Nat.zero_add, em b i (by omega)]
    exact hby i hi
  have e304 : c_call (d + 3) 304 [jR b, jI 0, jI (s.length : Int)] H1 = some (some (jR H1.1.length), rB H1 b s.length) := by
    by_cases g : s.length = c
    · rw [← g] at eb
      exact R304c (d := d + 2) eb (by omega) (byt_of (fun i hi => hB i (by omega)))
    · exact R304 (d := d) eb (by omega) (by omega) hb2 (by omega) (byt_of (fun i hi => by
        show -128 ≤ (if b = H1.1.length then 0 else H1.2.2 b (0 + i)) ∧ (if b = H1.1.length then 0 else H1.2.2 b (0 + i)) ≤ 127
        rw [if_neg (by omega)]
        exact hB i (by omega)))
  have kra : j_rf (j_new h 0 4) a 0 = some b := by
    unfold j_rf
    rw [rw_old (by omega)]
    exact kr
  have m2 : ∀ i, (j_new h 0 4).2.2 a i = h.2.2 a i := fun i => by
    show (if a = h.1.length then 0 else h.2.2 a i) = _
    rw [if_neg (by omega)]
  have r277 := R277 (d := d) (h := j_new h 0 4) (u := h.1.length) (kq_new h 0 4) (kq_old1 k1) kra ((m2 1).trans k2) ((m2 3).trans kc) (by rw [← hH1, ← e1]; exact e304)
  obtain ⟨h', hh⟩ : ∃ h' : j_H, h' = tS (j_new h 0 4) h.1.length b s.length := ⟨_, rfl⟩
  rw [← hh] at r277
  have f1 : h'.1 = (j_new H1 34 s.length).1 := by rw [hh, hH1]; rfl
  have f2 : h'.2.1 = j_srf (rB H1 b s.length) h.1.length 0 H1.1.length := by rw [hh, hH1]; rfl
  have f3 : h'.2.2 = (rB H1 b s.length).2.2 := by rw [hh, hH1]; rfl
  have fm : ∀ z i, z ≠ h.1.length + 1 → h'.2.2 z i = H1.2.2 z i := fun z i hz => by
    rw [f3]
    show (if z = H1.1.length then _ else (if z = H1.1.length then 0 else H1.2.2 z i)) = _
    rw [if_neg (by omega), if_neg (by omega)]
  have wf1 : H1.2.1.length = H1.1.length := by rw [e1, e2]; exact w1
  have ku : h'.1[h.1.length]? = some (0, 4) := by
    rw [f1]
    exact kq_old1 (by rw [e1]; exact kq_new h 0 4)
  have kv : h'.1[h.1.length + 1]? = some (34, s.length) := by
    rw [f1, ← L1]
    exact kq_new H1 34 s.length
  have hrow : ((rB H1 b s.length).2.1.getD h.1.length []) = List.replicate 4 none := by
    show (j_new H1 34 s.length).2.1.getD h.1.length [] = _
    rw [rw_old (by omega), e2, rw_new hw]
    rfl
  have hrf : j_rf h' h.1.length 0 = some (h.1.length + 1) := by
    have r := rf_set (h := rB H1 b s.length) (a := h.1.length) (k := 0) (q := H1.1.length) (K := h'.1) (m := h'.2.2) (by rw [hrow]; decide)
    rw [← f2, L1] at r
    exact r
  have hwf : h'.2.1.length = h'.1.length := by
    rw [f1, f2]
    unfold j_srf
    rw [List.length_set]
    exact j_new_w wf1
  have hlen : h'.1.length = h.1.length + 2 := by
    rw [f1, j_new_l, L1]
  refine ⟨h', R288 (by omega) (R276 r277), ⟨kd_of ku, ?_, kd_of kv, (fm _ _ (by omega)).trans em1, fun i hi => ?_, h127, by omega⟩, ⟨⟨[(0, 4), (34, s.length)], ?_, Nat.le_refl _, by simp⟩, ⟨by omega, fun _ => hwf⟩, fun z hz _ => ?_, fun z i hz _ => ?_⟩, hwf, hlen⟩
  · unfold j_rk1
    rw [ku]
    exact hrf
  · rw [f3, ← L1]
    show (if H1.1.length = H1.1.length then (if 0 ≤ i ∧ i < 0 + s.length then (if b = H1.1.length then 0 else H1.2.2 b (0 + (i - 0))) else _) else _) = _
    rw [if_pos rfl, if_pos ⟨Nat.zero_le _, by omega⟩, if_neg (by omega), Nat.sub_zero, Nat.zero_add, em b i (by omega)]
    exact hv i hi
  · rw [f1]
    show H1.1 ++ [(34, s.length)] = _
    rw [e1]
    show (h.1 ++ [(0, 4)]) ++ [(34, s.length)] = _
    rw [List.append_assoc]
    rfl
  · rw [f2, rw_set (by omega)]
    show (j_new H1 34 s.length).2.1.getD z [] = _
    rw [rw_old (by omega), e2, rw_old hz]
  · exact (fm z i (by omega)).trans (em z i (by omega))
