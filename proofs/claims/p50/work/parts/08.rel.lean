/-! What a state of the abstract machine says of the machine. -/
/-- where a cell lies -/
abbrev j_P : Type := Nat → Option Nat
def s_val (ρ : j_P) (v : j_V) (w : Value) : Prop := match v with
  | .inl x => ∃ n : Int32, w = .int n ∧ n.toInt = x
  | .inr (.inl x) => ∃ n : Int64, w = .long n ∧ n.toInt = x
  | .inr (.inr a) => ∃ q : Nat, w = .ref q ∧ ρ a = some q
def s_st (ρ : j_P) : List j_V → List Value → Prop
  | [], [] => True
  | v :: r, w :: q => s_val ρ v w ∧ s_st ρ r q
  | _, _ => False
def s_lo (ρ : j_P) : j_L → List (Option Value) → Prop
  | [], [] => True
  | none :: r, none :: q => s_lo ρ r q
  | some v :: r, some w :: q => s_val ρ v w ∧ s_lo ρ r q
  | _, _ => False
def s_as : Nat → List (Option Value) → List (Nat × Value)
  | _, [] => []
  | k, none :: r => s_as (k + 1) r
  | k, some w :: r => (k, w) :: s_as (k + 1) r
theorem s_as_mem {q : Nat × Value} : ∀ {rl : List (Option Value)} {k : Nat}, q ∈ s_as k rl ↔ k ≤ q.1 ∧ rl[q.1 - k]? = some (some q.2)
  | [], k => by simp [s_as]
  | none :: r, k => by
    rw [s_as, s_as_mem]
    constructor
    · rintro ⟨h1, h2⟩
      refine ⟨by omega, ?_⟩
      rw [show q.1 - k = (q.1 - (k + 1)) + 1 by omega]
      exact h2
    · rintro ⟨h1, h2⟩
      by_cases e : q.1 = k
      · rw [e, Nat.sub_self] at h2
        cases h2
      · rw [show q.1 - k = (q.1 - (k + 1)) + 1 by omega] at h2
        exact ⟨by omega, h2⟩
  | some w :: r, k => by
    rw [s_as, List.mem_cons, s_as_mem]
    constructor
    · rintro (rfl | ⟨h1, h2⟩)
      · exact ⟨Nat.le_refl _, by rw [Nat.sub_self]; rfl⟩
      · refine ⟨by omega, ?_⟩
        rw [show q.1 - k = (q.1 - (k + 1)) + 1 by omega]
        exact h2
    · rintro ⟨h1, h2⟩
      by_cases e : q.1 = k
      · rw [e, Nat.sub_self] at h2
        have h3 : w = q.2 := by simpa using h2
        exact Or.inl (by rw [h3, ← e])
      · rw [show q.1 - k = (q.1 - (k + 1)) + 1 by omega] at h2
        exact Or.inr ⟨by omega, h2⟩
theorem s_as_mem0 {q : Nat × Value} {rl : List (Option Value)} : q ∈ s_as 0 rl ↔ rl[q.1]? = some (some q.2) := by
  rw [s_as_mem]
  simp
theorem s_lo_len {ρ : j_P} : ∀ {ls : j_L} {rl : List (Option Value)}, s_lo ρ ls rl → ls.length = rl.length
  | [], [], _ => rfl
  | none :: r, none :: q, h => by simp [s_lo_len (ls := r) (rl := q) h]
  | some v :: r, some w :: q, h => by simp [s_lo_len (ls := r) (rl := q) h.2]
theorem s_lo_get {ρ : j_P} {v : j_V} : ∀ {ls : j_L} {rl : List (Option Value)} {k : Nat}, s_lo ρ ls rl → ls[k]? = some (some v) → ∃ w, rl[k]? = some (some w) ∧ s_val ρ v w
  | [], [], k, _, e => by simp at e
  | none :: r, none :: q, 0, h, e => by simp at e
  | none :: r, none :: q, k + 1, h, e => by
    obtain ⟨w, h1, h2⟩ := s_lo_get (ls := r) (rl := q) (k := k) h (by simpa using e)
    exact ⟨w, by simpa using h1, h2⟩
  | some v' :: r, some w :: q, 0, h, e => by
    have e : v' = v := by simpa using e
    exact ⟨w, rfl, e ▸ h.1⟩
  | some v' :: r, some w :: q, k + 1, h, e => by
    obtain ⟨w, h1, h2⟩ := s_lo_get (ls := r) (rl := q) (k := k) h.2 (by simpa using e)
    exact ⟨w, by simpa using h1, h2⟩
theorem s_lo_getR {ρ : j_P} {w : Value} : ∀ {ls : j_L} {rl : List (Option Value)} {k : Nat}, s_lo ρ ls rl → rl[k]? = some (some w) → ∃ v, ls[k]? = some (some v) ∧ s_val ρ v w
  | [], [], k, _, e => by simp at e
  | none :: r, none :: q, 0, h, e => by simp at e
  | none :: r, none :: q, k + 1, h, e => by
    obtain ⟨v, h1, h2⟩ := s_lo_getR (ls := r) (rl := q) (k := k) h (by simpa using e)
    exact ⟨v, by simpa using h1, h2⟩
  | some v :: r, some w' :: q, 0, h, e => by
    have e : w' = w := by simpa using e
    exact ⟨v, rfl, e ▸ h.1⟩
  | some v :: r, some w' :: q, k + 1, h, e => by
    obtain ⟨v, h1, h2⟩ := s_lo_getR (ls := r) (rl := q) (k := k) h.2 (by simpa using e)
    exact ⟨v, by simpa using h1, h2⟩
theorem s_lo_set {ρ : j_P} {v : j_V} {w : Value} (hv : s_val ρ v w) : ∀ {ls : j_L} {rl : List (Option Value)} {k : Nat}, s_lo ρ ls rl → s_lo ρ (ls.set k (some v)) (rl.set k (some w))
  | [], [], k, h => h
  | none :: r, none :: q, 0, h => ⟨hv, h⟩
  | none :: r, none :: q, k + 1, h => s_lo_set (ls := r) (rl := q) (k := k) hv h
  | some v' :: r, some w' :: q, 0, h => ⟨hv, h.2⟩
  | some v' :: r, some w' :: q, k + 1, h => ⟨h.1, s_lo_set (ls := r) (rl := q) (k := k) hv h.2⟩
theorem s_lo_set0 {ρ : j_P} : ∀ {ls : j_L} {rl : List (Option Value)} {k : Nat}, s_lo ρ ls rl → s_lo ρ (ls.set k none) (rl.set k none)
  | [], [], k, h => h
  | none :: r, none :: q, 0, h => h
  | none :: r, none :: q, k + 1, h => s_lo_set0 (ls := r) (rl := q) (k := k) h
  | some v' :: r, some w' :: q, 0, h => h.2
  | some v' :: r, some w' :: q, k + 1, h => ⟨h.1, s_lo_set0 (ls := r) (rl := q) (k := k) h.2⟩
theorem s_val_cat {ρ : j_P} {v : j_V} {w : Value} (h : s_val ρ v w) : w.category = j_cat v := by
  match v, h with
  | .inl x, ⟨n, e, _⟩ => rw [e]; rfl
  | .inr (.inl x), ⟨n, e, _⟩ => rw [e]; rfl
  | .inr (.inr a), ⟨n, e, _⟩ => rw [e]; rfl
theorem j_cat_isL {v : j_V} : j_isL v = true ↔ j_cat v = 2 := by
  match v with
  | .inl x => simp [j_isL, j_cat]
  | .inr (.inl x) => simp [j_isL, j_cat]
  | .inr (.inr a) => simp [j_isL, j_cat]
theorem s_st_cat {ρ : j_P} : ∀ {st : List j_V} {q : List Value}, s_st ρ st q → (q.map fun v => v.category).sum = (st.map j_cat).sum
  | [], [], _ => rfl
  | v :: r, w :: q, h => by simp [s_val_cat h.1, s_st_cat (st := r) (q := q) h.2]
theorem s_st_len {ρ : j_P} : ∀ {st : List j_V} {q : List Value}, s_st ρ st q → st.length = q.length
  | [], [], _ => rfl
  | v :: r, w :: q, h => by simp [s_st_len (st := r) (q := q) h.2]
theorem s_st_app {ρ : j_P} : ∀ {a b : List j_V} {q r : List Value}, s_st ρ a q → s_st ρ b r → s_st ρ (a ++ b) (q ++ r)
  | [], b, [], r, _, h => h
  | v :: a, b, w :: q, r, h, h2 => ⟨h.1, s_st_app (a := a) (q := q) h.2 h2⟩
theorem s_st_rev {ρ : j_P} : ∀ {a : List j_V} {q : List Value}, s_st ρ a q → s_st ρ a.reverse q.reverse
  | [], [], h => h
  | v :: a, w :: q, h => by
    rw [List.reverse_cons, List.reverse_cons]
    exact s_st_app (s_st_rev (a := a) (q := q) h.2) ⟨h.1, trivial⟩
theorem s_st_take {ρ : j_P} : ∀ {n : Nat} {a : List j_V} {q : List Value}, s_st ρ a q → s_st ρ (a.take n) (q.take n) ∧ s_st ρ (a.drop n) (q.drop n)
  | 0, a, q, h => by simpa [s_st] using h
  | n + 1, [], [], h => by simp [s_st]
  | n + 1, v :: a, w :: q, h => ⟨⟨h.1, (s_st_take (n := n) (a := a) (q := q) h.2).1⟩, (s_st_take (n := n) (a := a) (q := q) h.2).2⟩
theorem s_val_mono {ρ ρ' : j_P} {v : j_V} {w : Value} (hρ : ∀ (a q : Nat), ρ a = some q → ρ' a = some q) (h : s_val ρ v w) : s_val ρ' v w := by
  match v, h with
  | .inl x, h => exact h
  | .inr (.inl x), h => exact h
  | .inr (.inr a), ⟨q, e1, e2⟩ => exact ⟨q, e1, hρ _ _ e2⟩
theorem s_st_mono {ρ ρ' : j_P} (hρ : ∀ (a q : Nat), ρ a = some q → ρ' a = some q) : ∀ {st : List j_V} {q : List Value}, s_st ρ st q → s_st ρ' st q
  | [], [], h => h
  | v :: r, w :: q, h => ⟨s_val_mono hρ h.1, s_st_mono hρ (st := r) (q := q) h.2⟩
theorem s_lo_mono {ρ ρ' : j_P} (hρ : ∀ (a q : Nat), ρ a = some q → ρ' a = some q) : ∀ {ls : j_L} {q : List (Option Value)}, s_lo ρ ls q → s_lo ρ' ls q
  | [], [], h => h
  | none :: r, none :: q, h => s_lo_mono hρ (ls := r) (q := q) h
  | some v :: r, some w :: q, h => ⟨s_val_mono hρ h.1, s_lo_mono hρ (ls := r) (q := q) h.2⟩
/-- behind a store of one place -/
theorem s_lv1 {ρ : j_P} {ls : j_L} {rl : List (Option Value)} {A : Array Slot} {nL k : Nat} {w : Value} (hl : s_lo ρ ls rl) (hp : j_pre ls k = true) (hk : k < rl.length) (h : lv_has A nL ((k, w) :: (s_as 0 rl).filter (fun q => !(q.1 == k) && !(q.1 + 1 == k && q.2.category == 2)))) : lv_has A nL (s_as 0 (rl.set k (some w))) := by
  refine ⟨h.1, h.2.1, fun q hq => h.2.2 q ?_⟩
  rw [s_as_mem0, List.getElem?_set] at hq
  rw [List.mem_cons]
  by_cases e : k = q.1
  · rw [if_pos e] at hq
    left
    simp [hk] at hq
    exact Prod.ext e.symm hq.symm
  · rw [if_neg e] at hq
    right
    rw [List.mem_filter, s_as_mem0]
    refine ⟨hq, ?_⟩
    have e1 : (q.1 == k) = false := by simpa using fun h => e h.symm
    rw [e1]
    by_cases e2 : q.1 + 1 = k
    · obtain ⟨v, hv, hvw⟩ := s_lo_getR hl hq
      subst e2
      unfold j_pre at hp
      simp only [hv] at hp
      have h3 : ¬ j_cat v = 2 := fun h4 => by rw [j_cat_isL.mpr h4] at hp; cases hp
      have h5 : (q.2.category == 2) = false := by rw [s_val_cat hvw]; simpa using h3
      simp [h5]
    · have h5 : (q.1 + 1 == k) = false := by simpa using e2
      simp [h5]
/-- behind a store of two places -/
theorem s_lv2 {ρ : j_P} {ls : j_L} {rl : List (Option Value)} {A : Array Slot} {nL k : Nat} {w : Value} (hl : s_lo ρ ls rl) (hp : j_pre ls k = true) (hk : k + 1 < rl.length) (h : lv_has A nL ((k, w) :: (s_as 0 rl).filter (fun q => !(q.1 == k) && (!(q.1 == k + 1) && !(q.1 + 1 == k && q.2.category == 2))))) : lv_has A nL (s_as 0 ((rl.set k (some w)).set (k + 1) none)) := by
  refine ⟨h.1, h.2.1, fun q hq => h.2.2 q ?_⟩
  rw [s_as_mem0, List.getElem?_set] at hq
  by_cases e0 : k + 1 = q.1
  · rw [if_pos e0] at hq
    simp [hk] at hq
  rw [if_neg e0, List.getElem?_set] at hq
  rw [List.mem_cons]
  by_cases e : k = q.1
  · rw [if_pos e] at hq
    left
    simp [show k < rl.length by omega] at hq
    exact Prod.ext e.symm hq.symm
  · rw [if_neg e] at hq
    right
    rw [List.mem_filter, s_as_mem0]
    refine ⟨hq, ?_⟩
    have e1 : (q.1 == k) = false := by simpa using fun h => e h.symm
    have e3 : (q.1 == k + 1) = false := by simpa using fun h => e0 h.symm
    rw [e1, e3]
    by_cases e2 : q.1 + 1 = k
    · obtain ⟨v, hv, hvw⟩ := s_lo_getR hl hq
      subst e2
      unfold j_pre at hp
      simp only [hv] at hp
      have h3 : ¬ j_cat v = 2 := fun h4 => by rw [j_cat_isL.mpr h4] at hp; cases hp
      have h5 : (q.2.category == 2) = false := by rw [s_val_cat hvw]; simpa using h3
      simp [h5]
    · have h5 : (q.1 + 1 == k) = false := by simpa using e2
      simp [h5]
/-- cells -/
def s_ref (ρ : j_P) (o : Option Nat) (v : Value) : Prop := match o with
  | none => True
  | some a => ∃ q : Nat, v = .ref q ∧ ρ a = some q
def s_fld (ρ : j_P) (h : j_H) (k ci j : Nat) (v : Value) : Prop := match j_ty ci j with
  | 0 => ∃ n : Int32, v = .int n ∧ n.toInt = h.2.2 k j
  | 1 => ∃ n : Int64, v = .long n ∧ n.toInt = h.2.2 k j
  | 2 => ∃ n : Int32, v = .int n ∧ n.toInt = h.2.2 k j
  | _ => s_ref ρ (j_rf h k j) v
def s_cell (tys : List (ClassId × FieldType)) (ρ : j_P) (h : j_H) (k : Nat) (e : va_E) : Prop := match e with
  | .inr (ci, fs) => ∃ q : vw_C, vwCl[ci]? = some q ∧ h.1[k]? = some (ci, q.2.2) ∧ fs.length = q.2.2 ∧ ∀ (j : Nat) (v : Value), fs[j]? = some v → s_fld ρ h k ci j v
  | .inl (cA, n, .inl f) => ∃ t : Nat, h.1[k]? = some (t, n) ∧ ((t = 32 ∧ (cA, FieldType.int) ∈ tys) ∨ (t = 34 ∧ (cA, FieldType.byte) ∈ tys) ∨ (t = 35 ∧ (cA, FieldType.boolean) ∈ tys)) ∧ ∀ i, i < n → (f i).toInt = h.2.2 k i
  | .inl (cA, n, .inr (.inl f)) => h.1[k]? = some (33, n) ∧ (cA, FieldType.long) ∈ tys ∧ ∀ i, i < n → (f i).toInt = h.2.2 k i
  | .inl (cA, n, .inr (.inr (.inr (.inr f)))) => h.1[k]? = some (36, n) ∧ (cA, FieldType.array .long) ∈ tys ∧ ∀ i, i < n → s_ref ρ (j_rf h k i) (va_rf (f i))
  | _ => False
/-- what stands ahead of the start: tt (a - 999999) -/
def s_kρ (tt : Nat → Nat) (a : Nat) : Option Nat := if 1000000 ≤ a ∧ a < 1000022 then some (tt (a - 999999)) else none
def s_ρ (b : Nat) (tt : Nat → Nat) (ws : va_W) : j_P := fun a => match (b :: tt 0 :: ws.map (fun q => q.1))[a]? with
  | some q => some q
  | none => s_kρ tt a
/-- what is there -/
def s_kb (a i : Nat) : Int := if a = 1000020 then 48 + ((i % 10 : Nat) : Int) else if a = 1000021 then 48 + ((i / 10 : Nat) : Int) else if a % 2 = 0 then 0 else match j_tx[(a - 1000000) / 2]? with
  | some t => ((t.2.2.getD i 0 : Nat) : Int)
  | none => 0
def s_km (m : j_M0) : Prop := ∀ a i : Nat, 1000000 ≤ a → a < 1000022 → m a i = s_kb a i
theorem s_ρ_in {b : Nat} {tt : Nat → Nat} {ws : va_W} {a : Nat} (h : a < ws.length + 2) : s_ρ b tt ws a = (b :: tt 0 :: ws.map (fun q => q.1))[a]? := by
  unfold s_ρ
  rw [List.getElem?_eq_getElem (by simp; omega)]
theorem s_ρ_out {b : Nat} {tt : Nat → Nat} {ws : va_W} {a : Nat} (h : ws.length + 2 ≤ a) : s_ρ b tt ws a = s_kρ tt a := by
  unfold s_ρ
  rw [List.getElem?_eq_none (by simp; omega)]
def s_sl (h : j_H) : Nat := (h.1.map (fun q => q.2)).sum
def s_tn (i : Nat) : Int32 := [1, 10, 100, 1000, 10000, 100000].getD i 0
def s_w (b : Nat) (tt : Nat → Nat) (L : Nat) (xs : Nat → Int32) (tys : List (ClassId × FieldType)) (h : j_H) (ws : va_W) : Prop :=
  h.1.length = ws.length + 2 ∧ h.2.1.length = ws.length + 2 ∧ (h.1[0]? = some (32, L) ∧ ∀ i, i < L → (xs i).toInt = h.2.2 0 i) ∧ (h.1[1]? = some (32, 6) ∧ ∀ i, i < 6 → (s_tn i).toInt = h.2.2 1 i) ∧ (∀ (k : Nat) (q : Nat × va_E), ws[k]? = some q → s_cell tys (s_ρ b tt ws) h (k + 2) q.2) ∧ (∀ q ∈ h.1, q.2 ≤ 100000) ∧ h.1.length ≤ 1000000 ∧ s_km h.2.2
theorem s_ref_mono {ρ ρ' : j_P} (hρ : ∀ (a q : Nat), ρ a = some q → ρ' a = some q) {o : Option Nat} {v : Value} (h : s_ref ρ o v) : s_ref ρ' o v := by
  cases o with
  | none => trivial
  | some a => obtain ⟨q, h1, h2⟩ := h; exact ⟨q, h1, hρ _ _ h2⟩
theorem s_fld_mono {ρ ρ' : j_P} {h g : j_H} {k ci j : Nat} {v : Value} (hρ : ∀ (a q : Nat), ρ a = some q → ρ' a = some q) (h2 : g.2.2 k j = h.2.2 k j) (h3 : j_rf g k j = j_rf h k j) (H : s_fld ρ h k ci j v) : s_fld ρ' g k ci j v := by
  unfold s_fld at H ⊢
  split at H
  · rw [h2]; exact H
  · rw [h2]; exact H
  · rw [h2]; exact H
  · rw [h3]; exact s_ref_mono hρ H
theorem s_cell_mono {tys tys' : List (ClassId × FieldType)} {ρ ρ' : j_P} {h g : j_H} {k : Nat} {e : va_E} (ht : ∀ q, q ∈ tys → q ∈ tys') (hρ : ∀ (a q : Nat), ρ a = some q → ρ' a = some q) (h1 : g.1[k]? = h.1[k]?) (h2 : ∀ i, g.2.2 k i = h.2.2 k i) (h3 : ∀ i, j_rf g k i = j_rf h k i) (H : s_cell tys ρ h k e) : s_cell tys' ρ' g k e := by
  match e, H with
  | .inr (ci, fs), ⟨q, a1, a2, a3, a4⟩ => exact ⟨q, a1, by rw [h1]; exact a2, a3, fun j v hj => s_fld_mono hρ (h2 j) (h3 j) (a4 j v hj)⟩
  | .inl (cA, n, .inl f), ⟨t, a1, a2, a3⟩ => exact ⟨t, by rw [h1]; exact a1, a2.imp (fun x => ⟨x.1, ht _ x.2⟩) (fun x => x.imp (fun x => ⟨x.1, ht _ x.2⟩) (fun x => ⟨x.1, ht _ x.2⟩)), fun i hi => by rw [h2]; exact a3 i hi⟩
  | .inl (cA, n, .inr (.inl f)), ⟨a1, a2, a3⟩ => exact ⟨by rw [h1]; exact a1, ht _ a2, fun i hi => by rw [h2]; exact a3 i hi⟩
  | .inl (cA, n, .inr (.inr (.inr (.inr f)))), ⟨a1, a2, a3⟩ => exact ⟨by rw [h1]; exact a1, ht _ a2, fun i hi => by rw [h3]; exact s_ref_mono hρ (a3 i hi)⟩
theorem s_ρ_set {b : Nat} {tt : Nat → Nat} {ws : va_W} {k a : Nat} {e e' : va_E} (h : ws[k]? = some (a, e)) : s_ρ b tt (ws.set k (a, e')) = s_ρ b tt ws := by
  have e0 : (ws.set k (a, e')).map (fun q => q.1) = ws.map (fun q => q.1) := by
    rw [List.map_set]
    apply List.ext_getElem?
    intro i
    rw [List.getElem?_set]
    split
    · rename_i e1
      subst e1
      simp [h]
      exact (List.getElem?_eq_some_iff.mp h).1
    · rfl
  unfold s_ρ
  rw [e0]
theorem s_w_upd {b : Nat} {tt : Nat → Nat} {L : Nat} {xs : Nat → Int32} {tys : List (ClassId × FieldType)} {h g : j_H} {ws : va_W} {k a : Nat} {e e' : va_E} (H : s_w b tt L xs tys h ws) (hk : ws[k]? = some (a, e)) (h1 : g.1 = h.1) (h0 : g.2.1.length = h.2.1.length) (h2 : ∀ j, j ≠ k + 2 → (∀ i, g.2.2 j i = h.2.2 j i) ∧ ∀ i, j_rf g j i = j_rf h j i) (hc : s_cell tys (s_ρ b tt ws) g (k + 2) e') : s_w b tt L xs tys g (ws.set k (a, e')) := by
  obtain ⟨a1, a2, a3, a4, a5, a6, a7, a8⟩ := H
  have hkl : k < ws.length := (List.getElem?_eq_some_iff.mp hk).1
  refine ⟨by rw [h1, List.length_set]; exact a1, by rw [h0, List.length_set]; exact a2, ⟨by rw [h1]; exact a3.1, fun i hi => by rw [(h2 0 (by omega)).1 i]; exact a3.2 i hi⟩, ⟨by rw [h1]; exact a4.1, fun i hi => by rw [(h2 1 (by omega)).1 i]; exact a4.2 i hi⟩, fun j q hq => ?_, by rw [h1]; exact a6, by rw [h1]; exact a7, fun x i g1 g2 => ((h2 x (by omega)).1 i).trans (a8 x i g1 g2)⟩
  rw [s_ρ_set hk]
  rw [List.getElem?_set] at hq
  by_cases ej : k = j
  · subst ej
    rw [if_pos rfl, if_pos (List.getElem?_eq_some_iff.mp hk).1] at hq
    cases hq
    exact hc
  · rw [if_neg ej] at hq
    exact s_cell_mono (fun _ h => h) (fun _ _ h => h) (by rw [h1]) (h2 (j + 2) (by omega)).1 (h2 (j + 2) (by omega)).2 (a5 j q hq)
theorem s_ρ_app {b : Nat} {tt : Nat → Nat} {ws ns : va_W} (hb : ws.length + ns.length + 2 ≤ 1000000) (a q : Nat) (h : s_ρ b tt ws a = some q) : s_ρ b tt (ws ++ ns) a = some q := by
  rcases Nat.lt_or_ge a (ws.length + 2) with g | g
  · rw [s_ρ_in g] at h
    rw [s_ρ_in (by rw [List.length_append]; omega)]
    have h1 : (b :: tt 0 :: (ws ++ ns).map (fun q => q.1)) = (b :: tt 0 :: ws.map (fun q => q.1)) ++ ns.map (fun q => q.1) := by simp
    rw [h1, List.getElem?_append_left (List.getElem?_eq_some_iff.mp h).1]
    exact h
  · rw [s_ρ_out g] at h
    have g2 : 1000000 ≤ a := by
      unfold s_kρ at h
      split at h
      · omega
      · cases h
    rw [s_ρ_out (by rw [List.length_append]; omega)]
    exact h
theorem s_w_app {b : Nat} {tt : Nat → Nat} {L : Nat} {xs : Nat → Int32} {tys tys' : List (ClassId × FieldType)} {h g : j_H} {ws ns : va_W} (H : s_w b tt L xs tys h ws) (ht : ∀ q, q ∈ tys → q ∈ tys') (h1 : ∃ t, g.1 = h.1 ++ t ∧ t.length = ns.length ∧ ∀ q ∈ t, q.2 ≤ 100000) (h0 : ∃ t, g.2.1 = h.2.1 ++ t ∧ t.length = ns.length) (h2 : ∀ j, j < h.1.length → ∀ i, g.2.2 j i = h.2.2 j i) (hc : ∀ (k : Nat) (q : Nat × va_E), ns[k]? = some q → s_cell tys' (s_ρ b tt (ws ++ ns)) g (h.1.length + k) q.2) (hl : g.1.length ≤ 1000000) (hkm : s_km g.2.2) : s_w b tt L xs tys' g (ws ++ ns) := by
  obtain ⟨a1, a2, a3, a4, a5, a6, a7, a8⟩ := H
  obtain ⟨t, e1, e2, e5⟩ := h1
  obtain ⟨t', e3, e4⟩ := h0
  have k1 : ∀ j, j < h.1.length → g.1[j]? = h.1[j]? := fun j hj => by rw [e1, List.getElem?_append_left hj]
  refine ⟨by rw [e1]; simp; omega, by rw [e3]; simp; omega, ⟨by rw [k1 _ (by omega)]; exact a3.1, fun i hi => by rw [h2 0 (by omega)]; exact a3.2 i hi⟩, ⟨by rw [k1 _ (by omega)]; exact a4.1, fun i hi => by rw [h2 1 (by omega)]; exact a4.2 i hi⟩, fun j q hq => ?_, fun q hq => by rw [e1, List.mem_append] at hq; exact hq.elim (a6 q) (e5 q), hl, hkm⟩
  by_cases ej : j < ws.length
  · rw [List.getElem?_append_left ej] at hq
    refine s_cell_mono ht (s_ρ_app (by rw [e1, List.length_append] at hl; omega)) (k1 _ (by omega)) (h2 _ (by omega)) (fun i => ?_) (a5 j q hq)
    unfold j_rf
    rw [e3, List.getD_eq_getElem?_getD, List.getD_eq_getElem?_getD, List.getElem?_append_left (by omega)]
    simp [List.getD_eq_getElem?_getD]
  · rw [List.getElem?_append_right (by omega)] at hq
    have h3 := hc (j - ws.length) q hq
    rw [show h.1.length + (j - ws.length) = j + 2 by omega] at h3
    exact h3
/-- the cell behind an address -/
theorem s_w_cell {b : Nat} {tt : Nat → Nat} {L : Nat} {xs : Nat → Int32} {tys : List (ClassId × FieldType)} {h : j_H} {ws : va_W} {A q : Nat} (H : s_w b tt L xs tys h ws) (hl : A < h.1.length) (hA : 2 ≤ A) (hq : s_ρ b tt ws A = some q) : ∃ (k : Nat) (e : va_E), A = k + 2 ∧ ws[k]? = some (q, e) ∧ s_cell tys (s_ρ b tt ws) h A e := by
  obtain ⟨k, rfl⟩ : ∃ k, A = k + 2 := ⟨A - 2, by omega⟩
  have h1 : (ws.map (fun q => q.1))[k]? = some q := by
    rw [s_ρ_in (by have := H.1; omega)] at hq
    exact hq
  rw [List.getElem?_map] at h1
  cases hw : ws[k]? with
  | none => rw [hw] at h1; cases h1
  | some x =>
    rw [hw] at h1
    cases h1
    exact ⟨k, x.2, rfl, by rw [hw], H.2.2.2.2.1 k x hw⟩
/-- of what stands ahead of the start -/
theorem s_w_k {b : Nat} {tt : Nat → Nat} {L : Nat} {xs : Nat → Int32} {tys : List (ClassId × FieldType)} {h : j_H} {ws : va_W} {a q : Nat} (H : s_w b tt L xs tys h ws) (hl : h.1[a]? = none) (hq : s_ρ b tt ws a = some q) : (1000000 ≤ a ∧ a < 1000022) ∧ q = tt (a - 999999) ∧ ∀ i, h.2.2 a i = s_kb a i := by
  have h1 : ws.length + 2 ≤ a := by rw [← H.1]; exact List.getElem?_eq_none_iff.mp hl
  rw [s_ρ_out h1] at hq
  unfold s_kρ at hq
  split at hq
  · rename_i g
    cases hq
    exact ⟨g, rfl, fun i => H.2.2.2.2.2.2.2 a i g.1 g.2⟩
  · cases hq
theorem s_w_two {b : Nat} {tt : Nat → Nat} {L : Nat} {xs : Nat → Int32} {tys : List (ClassId × FieldType)} {h : j_H} {ws : va_W} {A c n : Nat} (H : s_w b tt L xs tys h ws) (hA : h.1[A]? = some (c, n)) (hc : c ≠ 32) : 2 ≤ A := by
  rcases Nat.lt_or_ge A 2 with h1 | h1
  · have h2 : A = 0 ∨ A = 1 := by omega
    rcases h2 with rfl | rfl
    · rw [H.2.2.1.1] at hA; cases hA; exact absurd rfl hc
    · rw [H.2.2.2.1.1] at hA; cases hA; exact absurd rfl hc
  · exact h1
theorem vwCl_lt {ci : Nat} {q : vw_C} (h : vwCl[ci]? = some q) : ci < 13 := (List.getElem?_eq_some_iff.mp h).1
theorem s_w_obj {b : Nat} {tt : Nat → Nat} {L : Nat} {xs : Nat → Int32} {tys : List (ClassId × FieldType)} {h : j_H} {ws : va_W} {A c n q : Nat} (H : s_w b tt L xs tys h ws) (hA : h.1[A]? = some (c, n)) (hc : c < 32) (hq : s_ρ b tt ws A = some q) : ∃ (k : Nat) (fs : List Value) (r : vw_C), A = k + 2 ∧ ws[k]? = some (q, .inr (c, fs)) ∧ vwCl[c]? = some r ∧ fs.length = r.2.2 ∧ ∀ (j : Nat) (v : Value), fs[j]? = some v → s_fld (s_ρ b tt ws) h A c j v := by
  obtain ⟨k, e, h1, h2, h3⟩ := s_w_cell H (List.getElem?_eq_some_iff.mp hA).1 (s_w_two H hA (by omega)) hq
  match e, h3 with
  | .inr (ci, fs), ⟨r, a1, a2, a3, a4⟩ =>
    rw [hA] at a2
    cases a2
    exact ⟨k, fs, r, h1, h2, a1, a3, a4⟩
  | .inl (cA, n, .inl f), ⟨t, a1, a2, a3⟩ =>
    rw [hA] at a1
    cases a1
    omega
  | .inl (cA, n, .inr (.inl f)), ⟨a1, a2, a3⟩ =>
    rw [hA] at a1
    cases a1
    omega
  | .inl (cA, n, .inr (.inr (.inr (.inr f)))), ⟨a1, a2, a3⟩ =>
    rw [hA] at a1
    cases a1
    omega
theorem s_w_int {b : Nat} {tt : Nat → Nat} {L : Nat} {xs : Nat → Int32} {tys : List (ClassId × FieldType)} {h : j_H} {ws : va_W} {A c n q : Nat} (H : s_w b tt L xs tys h ws) (hA : h.1[A]? = some (c, n)) (h2A : 2 ≤ A) (hc : c = 32 ∨ c = 34 ∨ c = 35) (hq : s_ρ b tt ws A = some q) : ∃ (k : Nat) (cA : ClassId) (f : Nat → Int32), A = k + 2 ∧ ws[k]? = some (q, .inl (cA, n, .inl f)) ∧ ((c = 32 ∧ (cA, FieldType.int) ∈ tys) ∨ (c = 34 ∧ (cA, FieldType.byte) ∈ tys) ∨ (c = 35 ∧ (cA, FieldType.boolean) ∈ tys)) ∧ ∀ i, i < n → (f i).toInt = h.2.2 A i := by
  obtain ⟨k, e, h1, h2, h3⟩ := s_w_cell H (List.getElem?_eq_some_iff.mp hA).1 h2A hq
  match e, h3 with
  | .inr (ci, fs), ⟨r, a1, a2, a3, a4⟩ =>
    rw [hA] at a2
    cases a2
    have := vwCl_lt a1
    omega
  | .inl (cA, n', .inl f), ⟨t, a1, a2, a3⟩ =>
    rw [hA] at a1
    cases a1
    exact ⟨k, cA, f, h1, h2, a2, a3⟩
  | .inl (cA, n, .inr (.inl f)), ⟨a1, a2, a3⟩ =>
    rw [hA] at a1
    cases a1
    omega
  | .inl (cA, n, .inr (.inr (.inr (.inr f)))), ⟨a1, a2, a3⟩ =>
    rw [hA] at a1
    cases a1
    omega
theorem s_w_long {b : Nat} {tt : Nat → Nat} {L : Nat} {xs : Nat → Int32} {tys : List (ClassId × FieldType)} {h : j_H} {ws : va_W} {A n q : Nat} (H : s_w b tt L xs tys h ws) (hA : h.1[A]? = some (33, n)) (hq : s_ρ b tt ws A = some q) : ∃ (k : Nat) (cA : ClassId) (f : Nat → Int64), A = k + 2 ∧ ws[k]? = some (q, .inl (cA, n, .inr (.inl f))) ∧ (cA, FieldType.long) ∈ tys ∧ ∀ i, i < n → (f i).toInt = h.2.2 A i := by
  obtain ⟨k, e, h1, h2, h3⟩ := s_w_cell H (List.getElem?_eq_some_iff.mp hA).1 (s_w_two H hA (by omega)) hq
  match e, h3 with
  | .inr (ci, fs), ⟨r, a1, a2, a3, a4⟩ =>
    rw [hA] at a2
    cases a2
    have := vwCl_lt a1
    omega
  | .inl (cA, n', .inl f), ⟨t, a1, a2, a3⟩ =>
    rw [hA] at a1
    cases a1
    omega
  | .inl (cA, n', .inr (.inl f)), ⟨a1, a2, a3⟩ =>
    rw [hA] at a1
    cases a1
    exact ⟨k, cA, f, h1, h2, a2, a3⟩
  | .inl (cA, n, .inr (.inr (.inr (.inr f)))), ⟨a1, a2, a3⟩ =>
    rw [hA] at a1
    cases a1
theorem s_w_refs {b : Nat} {tt : Nat → Nat} {L : Nat} {xs : Nat → Int32} {tys : List (ClassId × FieldType)} {h : j_H} {ws : va_W} {A n q : Nat} (H : s_w b tt L xs tys h ws) (hA : h.1[A]? = some (36, n)) (hq : s_ρ b tt ws A = some q) : ∃ (k : Nat) (cA : ClassId) (f : Nat → Option Nat), A = k + 2 ∧ ws[k]? = some (q, .inl (cA, n, .inr (.inr (.inr (.inr f))))) ∧ (cA, FieldType.array .long) ∈ tys ∧ ∀ i, i < n → s_ref (s_ρ b tt ws) (j_rf h A i) (va_rf (f i)) := by
  obtain ⟨k, e, h1, h2, h3⟩ := s_w_cell H (List.getElem?_eq_some_iff.mp hA).1 (s_w_two H hA (by omega)) hq
  match e, h3 with
  | .inr (ci, fs), ⟨r, a1, a2, a3, a4⟩ =>
    rw [hA] at a2
    cases a2
    have := vwCl_lt a1
    omega
  | .inl (cA, n', .inl f), ⟨t, a1, a2, a3⟩ =>
    rw [hA] at a1
    cases a1
    omega
  | .inl (cA, n', .inr (.inl f)), ⟨a1, a2, a3⟩ =>
    rw [hA] at a1
    cases a1
  | .inl (cA, n', .inr (.inr (.inr (.inr f)))), ⟨a1, a2, a3⟩ =>
    rw [hA] at a1
    cases a1
    exact ⟨k, cA, f, h1, h2, a2, a3⟩
