/-! The constants stand in memory when the law begins. -/
theorem b_f_D : ∀ j : Nat, j < 100 → b_hm 1000020 j = 48 + ((j % 10 : Nat) : Int) ∧ b_hm 1000021 j = 48 + ((j / 10 : Nat) : Int) := by decide +kernel
/-- the bytes of text i -/
def txF (i : Nat) : List Int := match j_tx[i]? with
  | some t => t.2.2.map Int.ofNat
  | none => []
theorem b_f_T : ∀ i : Nat, i < 10 → b_hm (1000000 + 2 * i) 1 = 0 ∧ ∀ j : Nat, j < (txF i).length → b_hm (1000001 + 2 * i) j = (txF i).getD j 0 := by decide +kernel
theorem tx_f : ∀ i : Nat, i < 10 → j_kc (1000000 + 2 * i) = some (0, 4) ∧ j_kc (1000001 + 2 * i) = some (34, (txF i).length) ∧ (∀ x ∈ txF i, 0 ≤ x ∧ x ≤ 127) ∧ (txF i).length ≤ 1000 := by decide +kernel
theorem b_all {B : j_B} {xs : Nat → Int32} {a i : Nat} (ha : a ≠ 0) : (hH B (b_m xs)).2.2 a i = b_hm a i := b_ne ha
theorem kmD_of {h : j_H} {f : Nat → Nat → Int} (e : ∀ a i : Nat, a ≠ 0 → h.2.2 a i = f a i) (k : ∀ j : Nat, j < 100 → f 1000020 j = 48 + ((j % 10 : Nat) : Int) ∧ f 1000021 j = 48 + ((j / 10 : Nat) : Int)) : kmD h := by
  intro j hj
  rw [e _ j (by omega), e _ j (by omega)]
  exact k j hj
theorem b_kmD (B : j_B) (xs : Nat → Int32) : kmD (hH B (b_m xs)) := kmD_of (f := b_hm) (fun _ _ ha => b_all ha) b_f_D
/-- text i stands -/
def kmT (h : j_H) : Prop := ∀ i : Nat, i < 10 → sT h (1000000 + 2 * i) (1000001 + 2 * i) (txF i)
theorem b_kmT {B : j_B} (hB : B.2.1.length ≤ 900000) (xs : Nat → Int32) : kmT (hH B (b_m xs)) := fun i hi => by
  obtain ⟨c1, c2, c3, c4⟩ := tx_f i hi
  obtain ⟨d1, d2⟩ := b_f_T i hi
  have hl : (hH B (b_m xs)).1.length ≤ 1000000 := by
    show (j_KL B.1 ++ B.2.1).length ≤ _
    rw [List.length_append, show (j_KL B.1).length = 114 from rfl]
    omega
  refine ⟨?_, ?_, ?_, (b_ne (by omega)).trans d1, fun j hj => (b_ne (by omega)).trans (d2 j hj), c3, c4⟩
  · unfold j_kd
    rw [List.getElem?_eq_none (by omega)]
    exact c1
  · unfold j_rk1
    rw [List.getElem?_eq_none (by omega)]
    show (if 1000000 ≤ 1000000 + 2 * i ∧ 0 = 0 then some (1000000 + 2 * i + 1) else none) = _
    rw [if_pos ⟨by omega, rfl⟩, show 1000000 + 2 * i + 1 = 1000001 + 2 * i by omega]
  · unfold j_kd
    rw [List.getElem?_eq_none (by omega)]
    exact c2
