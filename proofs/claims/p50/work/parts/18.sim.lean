/-! A run doesn't care by which numbers cells are told, nor for what it can't reach (kind 31). One way: what goes through, goes through there too. -/
def q_Pi (p : Nat → Nat) (K0 G0 : List (Nat × Nat)) : Prop := (∀ a b, p a = p b → a = b) ∧ (p 0 = 0) ∧ (p 1 = 1) ∧ (∀ a, K0.length ≤ a → p a = a) ∧ (G0.length = K0.length) ∧ (2 ≤ K0.length ∧ K0.length ≤ 1000000) ∧ (∀ a, a < K0.length → K0[a]? = some (31, 0) ∨ G0[p a]? = K0[a]?)
theorem q_Pi.inj {p : Nat → Nat} {K0 G0 : List (Nat × Nat)} (O : q_Pi p K0 G0) : ∀ a b, p a = p b → a = b := O.1
theorem q_Pi.z0 {p : Nat → Nat} {K0 G0 : List (Nat × Nat)} (O : q_Pi p K0 G0) : p 0 = 0 := O.2.1
theorem q_Pi.z1 {p : Nat → Nat} {K0 G0 : List (Nat × Nat)} (O : q_Pi p K0 G0) : p 1 = 1 := O.2.2.1
theorem q_Pi.ge {p : Nat → Nat} {K0 G0 : List (Nat × Nat)} (O : q_Pi p K0 G0) : ∀ a, K0.length ≤ a → p a = a := O.2.2.2.1
theorem q_Pi.len {p : Nat → Nat} {K0 G0 : List (Nat × Nat)} (O : q_Pi p K0 G0) : G0.length = K0.length := O.2.2.2.2.1
theorem q_Pi.big {p : Nat → Nat} {K0 G0 : List (Nat × Nat)} (O : q_Pi p K0 G0) : 2 ≤ K0.length ∧ K0.length ≤ 1000000 := O.2.2.2.2.2.1
theorem q_Pi.kin {p : Nat → Nat} {K0 G0 : List (Nat × Nat)} (O : q_Pi p K0 G0) : ∀ a, a < K0.length → K0[a]? = some (31, 0) ∨ G0[p a]? = K0[a]? := O.2.2.2.2.2.2
section Q0
variable {p : Nat → Nat} {K0 G0 : List (Nat × Nat)}
theorem q_eq (O : q_Pi p K0 G0) (a b : Nat) : (p a = p b) ↔ (a = b) := ⟨O.inj a b, fun h => by rw [h]⟩
theorem q_lt (O : q_Pi p K0 G0) {a n : Nat} (h : K0.length ≤ n) : (p a < n) ↔ (a < n) := by
  by_cases e : K0.length ≤ a
  · rw [O.ge a e]
  · constructor
    · intro _; omega
    · intro _
      refine Classical.byContradiction (fun h1 => ?_)
      have h2 := O.ge (p a) (by omega)
      have h3 := O.inj _ _ h2
      omega
theorem q_lt2 (O : q_Pi p K0 G0) (a : Nat) : (p a < 2) ↔ (a < 2) := by
  have h0 := O.z0
  have h1 := O.z1
  constructor
  · intro h
    have h2 : p a = p 0 ∨ p a = p 1 := by omega
    rcases h2 with h2 | h2
    · have := O.inj _ _ h2; omega
    · have := O.inj _ _ h2; omega
  · intro h
    have h2 : a = 0 ∨ a = 1 := by omega
    rcases h2 with rfl | rfl <;> omega
theorem q_le2 (O : q_Pi p K0 G0) (a : Nat) : (2 ≤ p a) ↔ (2 ≤ a) := by have := q_lt2 O a; omega
end Q0
def q_v (p : Nat → Nat) : j_V → j_V
  | .inr (.inr a) => jR (p a)
  | .inr (.inl x) => jL x
  | .inl x => jI x
abbrev q_f (p : Nat → Nat) : Option j_V → Option j_V := Option.map (q_v p)
def q_H (p : Nat → Nat) (K0 G0 : List (Nat × Nat)) (h g : j_H) : Prop := (∃ T, h.1 = K0 ++ T ∧ g.1 = G0 ++ T) ∧ (h.2.1.length = h.1.length ∧ g.2.1.length = h.1.length) ∧ (∀ a, g.2.1.getD (p a) [] = (h.2.1.getD a []).map (Option.map p)) ∧ (∀ a i, h.1[a]? ≠ some (31, 0) → g.2.2 (p a) i = h.2.2 a i)
section Q1
variable {p : Nat → Nat} {K0 G0 : List (Nat × Nat)} {h g : j_H}
theorem q_l (O : q_Pi p K0 G0) (w : q_H p K0 G0 h g) : g.1.length = h.1.length ∧ K0.length ≤ h.1.length := by
  obtain ⟨⟨T, h1, h2⟩, -⟩ := w
  rw [h1, h2, List.length_append, List.length_append, O.len]
  omega
theorem q_k (O : q_Pi p K0 G0) (w : q_H p K0 G0 h g) (a : Nat) : h.1[a]? = some (31, 0) ∨ g.1[p a]? = h.1[a]? := by
  obtain ⟨⟨T, h1, h2⟩, -⟩ := w
  rw [h1, h2]
  by_cases e : a < K0.length
  · rw [List.getElem?_append_left e, List.getElem?_append_left (l₁ := G0) (by rw [O.len]; exact (q_lt O (Nat.le_refl _)).mpr e)]
    exact O.kin a e
  · rw [O.ge a (by omega), List.getElem?_append_right (l₁ := K0) (by omega), List.getElem?_append_right (l₁ := G0) (by rw [O.len]; omega), O.len]
    exact .inr rfl
theorem q_k1 (O : q_Pi p K0 G0) (w : q_H p K0 G0 h g) {a : Nat} {q : Nat × Nat} (hq : q.1 ≠ 31) (e : h.1[a]? = some q) : g.1[p a]? = some q ∧ h.1[a]? ≠ some (31, 0) := by
  have h1 : h.1[a]? ≠ some (31, 0) := by
    rw [e]
    intro h2
    cases h2
    exact hq rfl
  rcases q_k O w a with h2 | h2
  · exact absurd h2 h1
  · exact ⟨h2.trans e, h1⟩
theorem q_kn (O : q_Pi p K0 G0) (w : q_H p K0 G0 h g) {a : Nat} : (h.1[a]? = none) ↔ (g.1[p a]? = none) := by
  have hl := q_l O w
  rw [List.getElem?_eq_none_iff, List.getElem?_eq_none_iff, hl.1]
  have := q_lt O (a := a) hl.2
  omega
theorem q_kp (O : q_Pi p K0 G0) (w : q_H p K0 G0 h g) {a : Nat} (e : h.1[a]? = none) : p a = a := O.ge a (by have := (q_l O w).2; have := List.getElem?_eq_none_iff.mp e; omega)
theorem q_kd (O : q_Pi p K0 G0) (w : q_H p K0 G0 h g) {a : Nat} {q : Nat × Nat} (hq : q.1 ≠ 31) (e : j_kd h a = some q) : j_kd g (p a) = some q ∧ h.1[a]? ≠ some (31, 0) := by
  unfold j_kd at e ⊢
  cases e1 : h.1[a]? with
  | none =>
    rw [e1] at e
    rw [(q_kn O w).mp e1, q_kp O w e1]
    exact ⟨e, fun h2 => by cases h2⟩
  | some q2 =>
    rw [e1] at e
    cases e
    obtain ⟨h1, h2⟩ := q_k1 O w hq e1
    rw [h1]
    exact ⟨rfl, e1 ▸ h2⟩
theorem q_any (O : q_Pi p K0 G0) (w : q_H p K0 G0 h g) (e : h.1.any (fun q => q.1 == 33) = true) : g.1.any (fun q => q.1 == 33) = true := by
  obtain ⟨q, h1, h2⟩ := List.any_eq_true.mp e
  obtain ⟨a, ha⟩ := List.mem_iff_getElem?.mp h1
  have h3 : q.1 = 33 := by simpa using h2
  exact List.any_eq_true.mpr ⟨q, List.mem_of_getElem? (q_k1 O w (by omega) ha).1, h2⟩
theorem q_rf (w : q_H p K0 G0 h g) (a k : Nat) : j_rf g (p a) k = (j_rf h a k).map p := by
  unfold j_rf
  rw [w.2.2.1 a]
  generalize h.2.1.getD a [] = l
  rw [List.getD_eq_getElem?_getD, List.getD_eq_getElem?_getD, List.getElem?_map]
  cases l[k]? <;> rfl
theorem q_rk1 (O : q_Pi p K0 G0) (w : q_H p K0 G0 h g) (a k : Nat) : j_rk1 g (p a) k = (j_rk1 h a k).map p := by
  unfold j_rk1
  cases e : h.1[a]? with
  | none =>
    rw [(q_kn O w).mp e, q_kp O w e]
    dsimp only
    by_cases e1 : 1000000 ≤ a ∧ k = 0
    · rw [if_pos e1]
      show _ = some (p (a + 1))
      rw [O.ge (a + 1) (by have := O.big.2; omega)]
    · rw [if_neg e1]
      rfl
  | some q =>
    cases e2 : g.1[p a]? with
    | none => rw [(q_kn O w).mpr e2] at e; cases e
    | some q2 => exact q_rf w a k
theorem q_up (O : q_Pi p K0 G0) (w : q_H p K0 G0 h g) (a i : Nat) (x : Int) : q_H p K0 G0 (h.1, h.2.1, j_up h.2.2 a i x) (g.1, g.2.1, j_up g.2.2 (p a) i x) := by
  obtain ⟨w1, w2, w3, w4⟩ := w
  refine ⟨w1, w2, w3, fun b j hb => ?_⟩
  have h4 := w4 b
  show (if p b = p a then (if j = i then x else g.2.2 (p b) j) else g.2.2 (p b) j) = (if b = a then (if j = i then x else h.2.2 b j) else h.2.2 b j)
  simp only [q_eq O, w4 b _ hb]
theorem q_getD_set {α : Type} {l : List α} {a b : Nat} {x d : α} : (l.set a x).getD b d = if b = a ∧ a < l.length then x else l.getD b d := by
  rw [List.getD_eq_getElem?_getD, List.getD_eq_getElem?_getD, List.getElem?_set]
  by_cases e : a = b
  · subst e
    by_cases e2 : a < l.length
    · rw [if_pos rfl, if_pos e2, if_pos ⟨rfl, e2⟩]; rfl
    · rw [if_pos rfl, if_neg e2, if_neg (fun h => e2 h.2), List.getElem?_eq_none (by omega)]
  · rw [if_neg e, if_neg (fun h => e h.1.symm)]
theorem q_srf (O : q_Pi p K0 G0) (w : q_H p K0 G0 h g) (a k b : Nat) : q_H p K0 G0 (h.1, j_srf h a k b, h.2.2) (g.1, j_srf g (p a) k (p b), g.2.2) := by
  have hl := q_l O w
  obtain ⟨w1, w2, w3, w4⟩ := w
  refine ⟨w1, ⟨?_, ?_⟩, fun c => ?_, w4⟩
  · show (List.set _ _ _).length = _
    rw [List.length_set]; exact w2.1
  · show (List.set _ _ _).length = _
    rw [List.length_set]; exact w2.2
  show (g.2.1.set (p a) ((g.2.1.getD (p a) []).set k (some (p b)))).getD (p c) [] = ((h.2.1.set a ((h.2.1.getD a []).set k (some b))).getD c []).map (Option.map p)
  have e1 : (p a < g.2.1.length) ↔ (a < h.2.1.length) := by rw [w2.1, w2.2]; exact q_lt O hl.2
  rw [q_getD_set, q_getD_set]
  simp only [q_eq O, e1]
  by_cases e : c = a ∧ a < h.2.1.length
  · rw [if_pos e, if_pos e, w3 a, List.map_set]
    rfl
  · rw [if_neg e, if_neg e, w3 c]
theorem q_cpy (O : q_Pi p K0 G0) (w : q_H p K0 G0 h g) {a : Nat} (ha : h.1[a]? ≠ some (31, 0)) (sp b dp n : Nat) : q_H p K0 G0 (h.1, h.2.1, j_cpy h.2.2 a sp b dp n) (g.1, g.2.1, j_cpy g.2.2 (p a) sp (p b) dp n) := by
  obtain ⟨w1, w2, w3, w4⟩ := w
  refine ⟨w1, w2, w3, fun c j hc => ?_⟩
  show (if p c = p b then (if dp ≤ j ∧ j < dp + n then g.2.2 (p a) (sp + (j - dp)) else g.2.2 (p c) j) else g.2.2 (p c) j) = (if c = b then (if dp ≤ j ∧ j < dp + n then h.2.2 a (sp + (j - dp)) else h.2.2 c j) else h.2.2 c j)
  simp only [q_eq O, w4 c _ hc, w4 a _ ha]
theorem q_app0 (O : q_Pi p K0 G0) (w : q_H p K0 G0 h g) (c : Nat × Nat) {s s' : List (Option Nat)} (hp : s' = s.map (Option.map p)) {m m' : j_M0} (hm : ∀ a i, (h.1 ++ [c])[a]? ≠ some (31, 0) → m' (p a) i = m a i) : q_H p K0 G0 (h.1 ++ [c], h.2.1 ++ [s], m) (g.1 ++ [c], g.2.1 ++ [s'], m') := by
  have hl := q_l O w
  obtain ⟨⟨T, w1, w1'⟩, w2, w3, w4⟩ := w
  refine ⟨⟨T ++ [c], ?_, ?_⟩, ⟨?_, ?_⟩, fun a => ?_, hm⟩
  · show h.1 ++ [c] = _
    rw [w1, List.append_assoc]
  · show g.1 ++ [c] = _
    rw [w1', List.append_assoc]
  · show (h.2.1 ++ [s]).length = (h.1 ++ [c]).length
    rw [List.length_append, List.length_append, w2.1]; rfl
  · show (g.2.1 ++ [s']).length = (h.1 ++ [c]).length
    rw [List.length_append, List.length_append, w2.2]; rfl
  · show (g.2.1 ++ [s']).getD (p a) [] = ((h.2.1 ++ [s]).getD a []).map (Option.map p)
    by_cases e : a < h.2.1.length
    · have e2 : p a < g.2.1.length := by rw [w2.2]; rw [w2.1] at e; exact (q_lt O hl.2).mpr e
      have h3 := w3 a
      rw [List.getD_eq_getElem?_getD, List.getD_eq_getElem?_getD] at h3 ⊢
      rw [List.getElem?_append_left e, List.getElem?_append_left e2]
      exact h3
    · have e1 : h.1.length ≤ a := by rw [← w2.1]; omega
      rw [O.ge _ (by omega), List.getD_eq_getElem?_getD, List.getD_eq_getElem?_getD, List.getElem?_append_right (by omega), List.getElem?_append_right (by omega), w2.1, w2.2]
      by_cases e3 : a = h.1.length
      · rw [e3, Nat.sub_self]
        exact hp
      · rw [List.getElem?_eq_none (by simp; omega), List.getElem?_eq_none (by simp; omega)]
        rfl
theorem q_len (O : q_Pi p K0 G0) (w : q_H p K0 G0 h g) (a : Nat) : (p a = g.1.length) ↔ (a = h.1.length) := by
  have hl := q_l O w
  rw [hl.1]
  constructor
  · intro e; exact O.inj _ _ (e.trans (O.ge _ hl.2).symm)
  · intro e; rw [e, O.ge _ hl.2]
theorem q_31 (O : q_Pi p K0 G0) (w : q_H p K0 G0 h g) {c : Nat × Nat} {a : Nat} (e : a ≠ h.1.length) (ha : (h.1 ++ [c])[a]? ≠ some (31, 0)) : h.1[a]? ≠ some (31, 0) := by
  intro h1
  have h2 := (List.getElem?_eq_some_iff.mp h1).1
  rw [List.getElem?_append_left h2] at ha
  exact ha h1
theorem q_app (O : q_Pi p K0 G0) (w : q_H p K0 G0 h g) (c : Nat × Nat) {s s' : List (Option Nat)} (hp : s' = s.map (Option.map p)) : q_H p K0 G0 (h.1 ++ [c], h.2.1 ++ [s], j_zero h.2.2 h.1.length) (g.1 ++ [c], g.2.1 ++ [s'], j_zero g.2.2 g.1.length) := by
  refine q_app0 O w c hp (fun a i ha => ?_)
  show (if p a = g.1.length then 0 else g.2.2 (p a) i) = (if a = h.1.length then 0 else h.2.2 a i)
  simp only [q_len O w]
  by_cases e : a = h.1.length
  · rw [if_pos e, if_pos e]
  · rw [if_neg e, if_neg e]
    exact w.2.2.2 a i (q_31 O w e ha)
theorem q_rep (n : Nat) : (List.replicate n (none : Option Nat)) = (List.replicate n none).map (Option.map p) := by rw [List.map_replicate]; rfl
theorem q_new (O : q_Pi p K0 G0) (w : q_H p K0 G0 h g) (c n : Nat) : q_H p K0 G0 (j_new h c n) (j_new g c n) := q_app O w (c, n) (q_rep _)
theorem q_mul (O : q_Pi p K0 G0) {h g : j_H} (w : q_H p K0 G0 h g) (n : Nat) : ∀ k, q_H p K0 G0 (j_mul h n k) (j_mul g n k)
  | 0 => w
  | k + 1 => q_new O (q_mul O w n k) 33 n
theorem q_mna (O : q_Pi p K0 G0) (w : q_H p K0 G0 h g) (k n : Nat) : q_H p K0 G0 (j_mna h k n) (j_mna g k n) := by
  have hl := q_l O w
  refine q_mul O (q_app O w (36, k) ?_) n k
  rw [List.map_map, hl.1]
  refine List.map_congr_left (fun i _ => ?_)
  show some (h.1.length + 1 + i) = some (p (h.1.length + 1 + i))
  rw [O.ge _ (by omega)]
theorem q_cln (O : q_Pi p K0 G0) (w : q_H p K0 G0 h g) {a : Nat} (ha : h.1[a]? ≠ some (31, 0)) (n : Nat) : q_H p K0 G0 (j_cln h a n) (j_cln g (p a) n) := by
  refine q_app0 O w (34, n) (s := []) rfl (fun c j hc => ?_)
  have hz : ∀ (d k : Nat), h.1[d]? ≠ some (31, 0) → j_zero g.2.2 g.1.length (p d) k = j_zero h.2.2 h.1.length d k := by
    intro d k hd
    show (if p d = g.1.length then 0 else g.2.2 (p d) k) = (if d = h.1.length then 0 else h.2.2 d k)
    simp only [q_len O w, w.2.2.2 d k hd]
  show (if p c = g.1.length then (if 0 ≤ j ∧ j < 0 + n then j_zero g.2.2 g.1.length (p a) (0 + (j - 0)) else j_zero g.2.2 g.1.length (p c) j) else j_zero g.2.2 g.1.length (p c) j) = (if c = h.1.length then (if 0 ≤ j ∧ j < 0 + n then j_zero h.2.2 h.1.length a (0 + (j - 0)) else j_zero h.2.2 h.1.length c j) else j_zero h.2.2 h.1.length c j)
  rw [hz a _ ha]
  simp only [q_len O w]
  by_cases e : c = h.1.length
  · have e2 : j_zero g.2.2 g.1.length (p c) j = j_zero h.2.2 h.1.length c j := by
      show (if p c = g.1.length then 0 else g.2.2 (p c) j) = (if c = h.1.length then 0 else h.2.2 c j)
      rw [if_pos ((q_len O w c).mpr e), if_pos e]
    rw [e2]
  · rw [if_neg e, if_neg e, hz c j (q_31 O w e hc)]
theorem q_byt (O : q_Pi p K0 G0) (w : q_H p K0 G0 h g) {a : Nat} (ha : h.1[a]? ≠ some (31, 0)) (sp n : Nat) : j_byt g.2.2 (p a) sp n = j_byt h.2.2 a sp n := by
  unfold j_byt
  congr 1
  funext i
  rw [w.2.2.2 a _ ha]
end Q1
/-! no class by the number 31 -/
def q_31k (r : Nat × j_I) : Bool := match r.2.1 with
  | .getfield _ => r.2.2.1 != 31
  | .putfield _ => r.2.2.1 != 31
  | _ => true
theorem q_31c : j_code.all (fun c => c.all q_31k) = true := by decide +kernel
theorem q_31m : j_meth.all (fun m => j_rcv m.2.2.2.2.1 != 31) = true := by decide +kernel
theorem q_31a {y pc : Nat} {i : j_I} (e : j_at y pc = some i) : q_31k (pc, i) = true := by
  unfold j_at at e
  cases e1 : j_code[y]? with
  | none => rw [e1] at e; cases e
  | some c =>
    rw [e1] at e
    have h1 := List.all_eq_true.mp q_31c c (List.mem_of_getElem? e1)
    exact List.all_eq_true.mp h1 _ (j_lk_mem e)
theorem q_31y {y : Nat} {m : j_M} (e : j_meth[y]? = some m) : j_rcv m.2.2.2.2.1 ≠ 31 := by
  have h1 := List.all_eq_true.mp q_31m m (List.mem_of_getElem? e)
  simpa using h1
/-! answers -/
def q_R (p : Nat → Nat) (K0 G0 : List (Nat × Nat)) : j_R → j_R → Prop
  | none, _ => True
  | some (.inl (a, ls, st, h)), some (.inl (b, lt, su, g)) => b = a ∧ lt = ls.map (q_f p) ∧ su = st.map (q_v p) ∧ q_H p K0 G0 h g
  | some (.inr (.inl (v, h))), some (.inr (.inl (u, g))) => u = q_f p v ∧ q_H p K0 G0 h g
  | some (.inr (.inr (k, as, r))), some (.inr (.inr (j, bs, s))) => j = k ∧ bs = as.map (q_v p) ∧ s = r.map (q_v p)
  | _, _ => False
section Q_R
variable {p : Nat → Nat} {K0 G0 : List (Nat × Nat)} {h g : j_H} {st : List j_V} {ls : j_L}
theorem q_ld (ls : j_L) (k : Nat) : j_ld (ls.map (q_f p)) k = q_f p (j_ld ls k) := by
  unfold j_ld
  rw [List.getElem?_map]
  cases ls[k]? <;> rfl
theorem q_isL (v : j_V) : j_isL (q_v p v) = j_isL v := by rcases v with x | x | x <;> rfl
theorem q_cat (v : j_V) : j_cat (q_v p v) = j_cat v := by rcases v with x | x | x <;> rfl
theorem q_cats (r : List j_V) : (r.map (q_v p)).map j_cat = r.map j_cat := by
  rw [List.map_map]
  exact List.map_congr_left (fun v _ => q_cat v)
theorem q_pre (ls : j_L) (k : Nat) : j_pre (ls.map (q_f p)) k = j_pre ls k := by
  unfold j_pre
  cases k with
  | zero => rfl
  | succ k =>
    simp only [List.getElem?_map]
    rcases ls[k]? with _ | (_ | v)
    · rfl
    · rfl
    · show (!(j_isL (q_v p v))) = _
      rw [q_isL]
theorem q_s1 (ls : j_L) (k : Nat) (v : j_V) : j_s1 (ls.map (q_f p)) k (q_v p v) = (j_s1 ls k v).map (List.map (q_f p)) := by
  unfold j_s1
  rw [q_pre, List.length_map]
  split
  · split
    · rw [Option.map_some, List.map_set]; rfl
    · rfl
  · rfl
theorem q_s2 (ls : j_L) (k : Nat) (v : j_V) : j_s2 (ls.map (q_f p)) k (q_v p v) = (j_s2 ls k v).map (List.map (q_f p)) := by
  unfold j_s2
  rw [q_pre, List.length_map]
  split
  · split
    · rw [Option.map_some, List.map_set, List.map_set]; rfl
    · rfl
  · rfl
theorem q_uI {k k' : Int → List j_V → j_R} (H : ∀ x r, q_R p K0 G0 (k x r) (k' x (r.map (q_v p)))) : q_R p K0 G0 (j_uI st none k) (j_uI (st.map (q_v p)) none k') := by
  rcases st with _ | ⟨x | x | x, r⟩ <;> first | exact True.intro | exact H _ _
theorem q_uL {k k' : Int → List j_V → j_R} (H : ∀ x r, q_R p K0 G0 (k x r) (k' x (r.map (q_v p)))) : q_R p K0 G0 (j_uL st none k) (j_uL (st.map (q_v p)) none k') := by
  rcases st with _ | ⟨x | x | x, r⟩ <;> first | exact True.intro | exact H _ _
theorem q_bI {k k' : Int → Int → List j_V → j_R} (H : ∀ x y r, q_R p K0 G0 (k x y r) (k' x y (r.map (q_v p)))) : q_R p K0 G0 (j_bI st none k) (j_bI (st.map (q_v p)) none k') := by
  rcases st with _ | ⟨x | x | x, _ | ⟨y | y | y, r⟩⟩ <;> first | exact True.intro | exact H _ _ _
theorem q_bL {k k' : Int → Int → List j_V → j_R} (H : ∀ x y r, q_R p K0 G0 (k x y r) (k' x y (r.map (q_v p)))) : q_R p K0 G0 (j_bL st none k) (j_bL (st.map (q_v p)) none k') := by
  rcases st with _ | ⟨x | x | x, _ | ⟨y | y | y, r⟩⟩ <;> first | exact True.intro | exact H _ _ _
theorem q_el {k k' : Nat → Int → List j_V → j_R} (H : ∀ a i r, q_R p K0 G0 (k a i r) (k' (p a) i (r.map (q_v p)))) : q_R p K0 G0 (j_el st none k) (j_el (st.map (q_v p)) none k') := by
  rcases st with _ | ⟨x | x | x, _ | ⟨y | y | y, r⟩⟩ <;> first | exact True.intro | exact H _ _ _
theorem q_sI {k k' : Nat → Int → Int → List j_V → j_R} (H : ∀ a i x r, q_R p K0 G0 (k a i x r) (k' (p a) i x (r.map (q_v p)))) : q_R p K0 G0 (j_sI st none k) (j_sI (st.map (q_v p)) none k') := by
  rcases st with _ | ⟨x | x | x, _ | ⟨y | y | y, _ | ⟨z | z | z, r⟩⟩⟩ <;> first | exact True.intro | exact H _ _ _ _
theorem q_sL {k k' : Nat → Int → Int → List j_V → j_R} (H : ∀ a i x r, q_R p K0 G0 (k a i x r) (k' (p a) i x (r.map (q_v p)))) : q_R p K0 G0 (j_sL st none k) (j_sL (st.map (q_v p)) none k') := by
  rcases st with _ | ⟨x | x | x, _ | ⟨y | y | y, _ | ⟨z | z | z, r⟩⟩⟩ <;> first | exact True.intro | exact H _ _ _ _
theorem q_rg (O : q_Pi p K0 G0) (w : q_H p K0 G0 h g) {a kd : Nat} {i : Int} (hk : kd ≠ 31) {k k' : j_R} (H : h.1[a]? ≠ some (31, 0) → q_R p K0 G0 k k') : q_R p K0 G0 (j_rg h a kd i none k) (j_rg g (p a) kd i none k') := by
  unfold j_rg
  cases e : h.1[a]? with
  | none => exact True.intro
  | some q =>
    obtain ⟨c, n⟩ := q
    by_cases e1 : c = kd
    · obtain ⟨e2, e3⟩ := q_k1 O w (q := (c, n)) (by show c ≠ 31; omega) e
      rw [e2]
      dsimp only
      rw [if_pos e1, if_pos e1]
      by_cases e4 : 0 ≤ i ∧ i < n
      · rw [if_pos e4, if_pos e4]
        exact H (e ▸ e3)
      · rw [if_neg e4]
        exact True.intro
    · dsimp only
      rw [if_neg e1]
      exact True.intro
theorem q_ob (O : q_Pi p K0 G0) (w : q_H p K0 G0 h g) {a c : Nat} (hk : c ≠ 31) {k k' : j_R} (H : h.1[a]? ≠ some (31, 0) → q_R p K0 G0 k k') : q_R p K0 G0 (j_ob h a c none k) (j_ob g (p a) c none k') := by
  unfold j_ob
  cases e : h.1[a]? with
  | none => exact True.intro
  | some q =>
    obtain ⟨d, n⟩ := q
    by_cases e1 : d = c
    · obtain ⟨e2, e3⟩ := q_k1 O w (q := (d, n)) (by show d ≠ 31; omega) e
      rw [e2]
      dsimp only
      rw [if_pos e1, if_pos e1]
      exact H (e ▸ e3)
    · dsimp only
      rw [if_neg e1]
      exact True.intro
theorem q_obk (O : q_Pi p K0 G0) (w : q_H p K0 G0 h g) {a c : Nat} (hk : c ≠ 31) {k k' : j_R} (H : h.1[a]? ≠ some (31, 0) → q_R p K0 G0 k k') : q_R p K0 G0 (j_obk h a c none k) (j_obk g (p a) c none k') := by
  unfold j_obk
  cases e : j_kd h a with
  | none => exact True.intro
  | some q =>
    obtain ⟨d, n⟩ := q
    by_cases e1 : d = c
    · obtain ⟨e2, e3⟩ := q_kd O w (q := (d, n)) (by show d ≠ 31; omega) e
      rw [e2]
      dsimp only
      rw [if_pos e1, if_pos e1]
      exact H e3
    · dsimp only
      rw [if_neg e1]
      exact True.intro
theorem q_fk (O : q_Pi p K0 G0) (w : q_H p K0 G0 h g) {a n : Nat} {k k' : j_R} (H : q_R p K0 G0 k k') : q_R p K0 G0 (j_fk h a n none k) (j_fk g (p a) n none k') := by
  unfold j_fk
  cases e : h.1[a]? with
  | none =>
    rw [(q_kn O w).mp e]
    dsimp only
    split
    · exact H
    · exact True.intro
  | some q =>
    cases e2 : g.1[p a]? with
    | none => rw [(q_kn O w).mpr e2] at e; cases e
    | some q2 => exact H
theorem q_obs (O : q_Pi p K0 G0) (w : q_H p K0 G0 h g) {a y : Nat} {k k' : j_R} (H : q_R p K0 G0 k k') : q_R p K0 G0 (j_obs h a y none k) (j_obs g (p a) y none k') := by
  unfold j_obs
  cases e : j_meth[y]? with
  | none => exact True.intro
  | some m =>
    dsimp only
    split
    · exact H
    · exact q_obk O w (q_31y e) (fun _ => H)
theorem q_op {β γ : Type} {o : Option β} {f : β → γ} {k : β → j_R} {k' : γ → j_R} (H : ∀ b, q_R p K0 G0 (k b) (k' (f b))) : q_R p K0 G0 (j_op o none k) (j_op (o.map f) none k') := by
  cases o with
  | none => exact True.intro
  | some b => exact H b
theorem q_get (O : q_Pi p K0 G0) (w : q_H p K0 G0 h g) {a c n : Nat} (ha : h.1[a]? ≠ some (31, 0)) {k k' : j_V → j_R} (H : ∀ v, q_R p K0 G0 (k v) (k' (q_v p v))) : q_R p K0 G0 (j_get h a c n none k) (j_get g (p a) c n none k') := by
  unfold j_get
  rw [w.2.2.2 a n ha, q_rk1 O w]
  split
  · exact H (jI _)
  · exact H (jL _)
  · exact H (jI _)
  · exact q_op (fun b => H (jR b))
theorem q_put (O : q_Pi p K0 G0) (w : q_H p K0 G0 h g) {a c n : Nat} {v : j_V} {k k' : j_H → j_R} (H : ∀ h1 g1, q_H p K0 G0 h1 g1 → q_R p K0 G0 (k h1) (k' g1)) : q_R p K0 G0 (j_put h a c n v none k) (j_put g (p a) c n (q_v p v) none k') := by
  unfold j_put
  split
  · rcases v with x | x | x
    · exact H _ _ (q_up O w a n x)
    · exact True.intro
    · exact True.intro
  · rcases v with x | x | x
    · exact True.intro
    · exact H _ _ (q_up O w a n x)
    · exact True.intro
  · rcases v with x | x | x
    · show q_R p K0 G0 (if x = 0 ∨ x = 1 then _ else none) (if x = 0 ∨ x = 1 then _ else none)
      split
      · exact H _ _ (q_up O w a n x)
      · exact True.intro
    · exact True.intro
    · exact True.intro
  · rcases v with x | x | x
    · exact True.intro
    · exact True.intro
    · exact H _ _ (q_srf O w a n x)
theorem q_if {c : Int → Prop} [DecidablePred c] {t t' f f' : List j_V → j_R} (Ht : ∀ r, q_R p K0 G0 (t r) (t' (r.map (q_v p)))) (Hf : ∀ r, q_R p K0 G0 (f r) (f' (r.map (q_v p)))) : q_R p K0 G0 (j_if st none c t f) (j_if (st.map (q_v p)) none c t' f') := by
  rcases st with _ | ⟨x | x | x, r⟩
  · exact True.intro
  · show q_R p K0 G0 (if c x then t r else f r) (if c x then t' (r.map (q_v p)) else f' (r.map (q_v p)))
    split
    · exact Ht r
    · exact Hf r
  · exact True.intro
  · exact True.intro
theorem q_if2 {c : Int → Int → Prop} [∀ x y, Decidable (c x y)] {t t' f f' : List j_V → j_R} (Ht : ∀ r, q_R p K0 G0 (t r) (t' (r.map (q_v p)))) (Hf : ∀ r, q_R p K0 G0 (f r) (f' (r.map (q_v p)))) : q_R p K0 G0 (j_if2 st none c t f) (j_if2 (st.map (q_v p)) none c t' f') := by
  rcases st with _ | ⟨x | x | x, _ | ⟨y | y | y, r⟩⟩
  all_goals first | exact True.intro | skip
  show q_R p K0 G0 (if c y x then t r else f r) (if c y x then t' (r.map (q_v p)) else f' (r.map (q_v p)))
  split
  · exact Ht r
  · exact Hf r
theorem q_N (w : q_H p K0 G0 h g) {pc : Nat} : q_R p K0 G0 (some (.inl (pc, ls, st, h))) (some (.inl (pc, ls.map (q_f p), st.map (q_v p), g))) := ⟨rfl, rfl, rfl, w⟩
set_option maxHeartbeats 4000000 in
theorem q_step (O : q_Pi p K0 G0) (w : q_H p K0 G0 h g) (y pc : Nat) (ls : j_L) (st : List j_V) : q_R p K0 G0 (j_res y pc ls st h) (j_res y pc (ls.map (q_f p)) (st.map (q_v p)) g) := by
  unfold j_res j_step
  cases hat : j_at y pc with
  | none => exact True.intro
  | some q =>
    have h31 := q_31a hat
    obtain ⟨i, a, b, z⟩ := q
    simp only [j_op]
    cases i
    case aload_n | aload | iload_n | iload | lload_n | lload =>
      dsimp only
      rw [q_ld]
      rcases j_ld ls _ with _ | (x | x | x) <;> first | exact True.intro | exact q_N w
    case iinc k n =>
      dsimp only
      rw [q_ld]
      rcases j_ld ls _ with _ | (x | x | x)
      · exact True.intro
      · show q_R p K0 G0 (j_op (j_s1 ls k (jI (w32 (x + n)))) none _) (j_op (j_s1 (ls.map (q_f p)) k (q_v p (jI (w32 (x + n))))) none _)
        rw [q_s1]
        exact q_op (fun l => q_N w)
      · exact True.intro
      · exact True.intro
    case istore_n k =>
      refine q_uI (fun x r => ?_)
      show q_R p K0 G0 (j_op (j_s1 ls k.val (jI x)) none _) (j_op (j_s1 (ls.map (q_f p)) k.val (q_v p (jI x))) none _)
      rw [q_s1]
      exact q_op (fun l => q_N w)
    case istore k =>
      refine q_uI (fun x r => ?_)
      show q_R p K0 G0 (j_op (j_s1 ls k (jI x)) none _) (j_op (j_s1 (ls.map (q_f p)) k (q_v p (jI x))) none _)
      rw [q_s1]
      exact q_op (fun l => q_N w)
    case lstore_n k =>
      refine q_uL (fun x r => ?_)
      show q_R p K0 G0 (j_op (j_s2 ls k.val (jL x)) none _) (j_op (j_s2 (ls.map (q_f p)) k.val (q_v p (jL x))) none _)
      rw [q_s2]
      exact q_op (fun l => q_N w)
    case lstore k =>
      refine q_uL (fun x r => ?_)
      show q_R p K0 G0 (j_op (j_s2 ls k (jL x)) none _) (j_op (j_s2 (ls.map (q_f p)) k (q_v p (jL x))) none _)
      rw [q_s2]
      exact q_op (fun l => q_N w)
    case astore_n k =>
      rcases st with _ | ⟨x | x | x, r⟩
      · exact True.intro
      · exact True.intro
      · exact True.intro
      · show q_R p K0 G0 (j_op (j_s1 ls k.val (jR x)) none _) (j_op (j_s1 (ls.map (q_f p)) k.val (q_v p (jR x))) none _)
        rw [q_s1]
        exact q_op (fun l => q_N w)
    case astore k =>
      rcases st with _ | ⟨x | x | x, r⟩
      · exact True.intro
      · exact True.intro
      · exact True.intro
      · show q_R p K0 G0 (j_op (j_s1 ls k (jR x)) none _) (j_op (j_s1 (ls.map (q_f p)) k (q_v p (jR x))) none _)
        rw [q_s1]
        exact q_op (fun l => q_N w)
    case iconst | bipush | sipush | lconst | ldc2_w | goto => exact q_N w
    case ldc =>
      dsimp only
      split
      · exact q_N w
      · split
        · have e := q_N (ls := ls) (st := jR (1000000 + 2 * b) :: st) (pc := pc + 2) w
          rw [List.map_cons, show q_v p (jR (1000000 + 2 * b)) = jR (1000000 + 2 * b) from congrArg jR (O.ge _ (by have := O.big.2; omega))] at e
          exact e
        · exact True.intro
    case ldc_w =>
      dsimp only
      split
      · exact q_N w
      · exact True.intro
    case getstatic =>
      dsimp only
      split
      · have e := q_N (ls := ls) (st := jR 1 :: st) (pc := pc + 3) w
        rw [List.map_cons, show q_v p (jR 1) = jR 1 from congrArg jR O.z1] at e
        exact e
      · split
        · exact q_N w
        · split
          · have e := q_N (ls := ls) (st := jR (999924 + a) :: st) (pc := pc + 3) w
            rw [List.map_cons, show q_v p (jR (999924 + a)) = jR (999924 + a) from congrArg jR (O.ge _ (by have := O.big.2; omega))] at e
            exact e
          · exact True.intro
    case iadd | isub | imul | iand | ixor | iushr | ishl | ishr => exact q_bI (fun x y r => q_N w)
    case idiv | irem =>
      refine q_bI (fun x y r => ?_)
      split
      · exact True.intro
      · exact q_N w
    case ineg | i2l | i2b | i2s | i2c => exact q_uI (fun x r => q_N w)
    case ladd | lsub | lmul | land | lor | lxor | lcmp => exact q_bL (fun x y r => q_N w)
    case ldiv | lrem =>
      refine q_bL (fun x y r => ?_)
      split
      · exact True.intro
      · exact q_N w
    case lneg | l2i => exact q_uL (fun x r => q_N w)
    case lshl =>
      rcases st with _ | ⟨x | x | x, _ | ⟨y | y | y, r⟩⟩ <;> first | exact True.intro | exact q_N w
    case pop =>
      rcases st with _ | ⟨v, r⟩
      · exact True.intro
      · show q_R p K0 G0 (if j_cat v = 1 then _ else none) (if j_cat (q_v p v) = 1 then _ else none)
        rw [q_cat]
        split
        · exact q_N w
        · exact True.intro
    case dup_x1 =>
      rcases st with _ | ⟨v, _ | ⟨u, r⟩⟩
      · exact True.intro
      · exact True.intro
      · show q_R p K0 G0 (if j_cat v = 1 ∧ j_cat u = 1 then _ else none) (if j_cat (q_v p v) = 1 ∧ j_cat (q_v p u) = 1 then _ else none)
        rw [q_cat, q_cat]
        split
        · exact q_N w
        · exact True.intro
    case ifnonnull =>
      rcases st with _ | ⟨x | x | x, r⟩ <;> first | exact True.intro | exact q_N w
    case checkcast =>
      rcases st with _ | ⟨x | x | x, r⟩
      · exact True.intro
      · exact True.intro
      · exact True.intro
      · exact q_ob O w (by decide) (fun _ => q_N w)
    case dup =>
      rcases st with _ | ⟨v, r⟩
      · exact True.intro
      · show q_R p K0 G0 (if j_cat v = 1 then _ else none) (if j_cat (q_v p v) = 1 then _ else none)
        rw [q_cat]
        split
        · exact q_N w
        · exact True.intro
    case dup2 =>
      rcases st with _ | ⟨x | x | x, _ | ⟨v, r⟩⟩
      · exact True.intro
      · exact True.intro
      · show q_R p K0 G0 (if j_cat (jI x) = 1 ∧ j_cat v = 1 then _ else none) (if j_cat (q_v p (jI x)) = 1 ∧ j_cat (q_v p v) = 1 then _ else none)
        rw [q_cat, q_cat]
        split
        · exact q_N w
        · exact True.intro
      · exact q_N w
      · exact q_N w
      · exact True.intro
      · show q_R p K0 G0 (if j_cat (jR x) = 1 ∧ j_cat v = 1 then _ else none) (if j_cat (q_v p (jR x)) = 1 ∧ j_cat (q_v p v) = 1 then _ else none)
        rw [q_cat, q_cat]
        split
        · exact q_N w
        · exact True.intro
    case ifCond c off => cases c <;> exact q_if (fun r => q_N w) (fun r => q_N w)
    case if_icmp c off => cases c <;> exact q_if2 (fun r => q_N w) (fun r => q_N w)
    case tableswitch d lo hi offs =>
      refine q_uI (fun x r => ?_)
      split
      · cases offs[(x - lo).toNat]? with
        | none => exact True.intro
        | some o =>
          show q_R p K0 G0 (if 0 ≤ (pc : Int) + o then _ else none) (if 0 ≤ (pc : Int) + o then _ else none)
          split
          · exact q_N w
          · exact True.intro
      · split
        · exact q_N w
        · exact True.intro
    case iaload | laload =>
      refine q_el (fun q i r => q_rg O w (by decide) (fun ha => ?_))
      rw [w.2.2.2 q _ ha]
      exact q_N w
    case baload =>
      refine q_el (fun q i r => ?_)
      cases e : j_kd h q with
      | none => exact True.intro
      | some z1 =>
        obtain ⟨c, n⟩ := z1
        by_cases e1 : (c = 34 ∨ c = 35) ∧ 0 ≤ i ∧ i < n
        · obtain ⟨e2, e3⟩ := q_kd O w (q := (c, n)) (by show c ≠ 31; omega) e
          rw [e2]
          dsimp only
          rw [if_pos e1, if_pos e1, w.2.2.2 q _ e3]
          exact q_N w
        · dsimp only
          rw [if_neg e1]
          exact True.intro
    case aaload =>
      refine q_el (fun q i r => q_rg O w (by decide) (fun ha => ?_))
      show q_R p K0 G0 (j_op (j_rf h q i.toNat) none _) (j_op (j_rf g (p q) i.toNat) none _)
      rw [q_rf w]
      exact q_op (fun b => q_N w)
    case iastore =>
      refine q_sI (fun q i x r => ?_)
      simp only [q_lt2 O]
      split
      · exact True.intro
      · exact q_rg O w (by decide) (fun _ => q_N (q_up O w q i.toNat x))
    case lastore =>
      refine q_sL (fun q i x r => ?_)
      simp only [q_lt2 O]
      split
      · exact True.intro
      · exact q_rg O w (by decide) (fun _ => q_N (q_up O w q i.toNat x))
    case bastore =>
      refine q_sI (fun q i x r => ?_)
      simp only [q_lt2 O]
      split
      · exact True.intro
      · cases e : h.1[q]? with
        | none => exact True.intro
        | some z1 =>
          obtain ⟨c, n⟩ := z1
          by_cases e0 : c = 31
          · dsimp only
            subst e0
            split
            · rw [if_neg (by decide), if_neg (by omega)]
              exact True.intro
            · exact True.intro
          · rw [(q_k1 O w (q := (c, n)) e0 e).1]
            dsimp only
            split
            · split
              · exact q_N (q_up O w q i.toNat _)
              · split
                · exact q_N (q_up O w q i.toNat x)
                · exact True.intro
            · exact True.intro
    case arraylength =>
      rcases st with _ | ⟨x | x | x, r⟩
      · exact True.intro
      · exact True.intro
      · exact True.intro
      · show q_R p K0 G0 (match j_kd h x with | some (c, n) => _ | none => none) (match j_kd g (p x) with | some (c, n) => _ | none => none)
        cases e : j_kd h x with
        | none => exact True.intro
        | some z1 =>
          obtain ⟨c, n⟩ := z1
          by_cases e0 : 32 ≤ c
          · rw [(q_kd O w (q := (c, n)) (by show c ≠ 31; omega) e).1]
            dsimp only
            rw [if_pos e0, if_pos e0]
            exact q_N w
          · dsimp only
            rw [if_neg e0]
            exact True.intro
    case getfield =>
      rcases st with _ | ⟨x | x | x, r⟩
      · exact True.intro
      · exact True.intro
      · exact True.intro
      · exact q_obk O w (by simpa [q_31k] using h31) (fun ha => q_fk O w (q_get O w ha (fun v => q_N w)))
    case putfield =>
      rcases st with _ | ⟨v, _ | ⟨x | x | x, r⟩⟩
      · exact True.intro
      · rcases v with v | v | v <;> exact True.intro
      · rcases v with v | v | v <;> exact True.intro
      · rcases v with v | v | v <;> exact True.intro
      · have e := q_ob O w (a := x) (c := a) (by simpa [q_31k] using h31) (fun _ => q_put O w (a := x) (c := a) (n := b) (v := v) (k := fun h1 => some (.inl (pc + 3, ls, r, h1))) (k' := fun h1 => some (.inl (pc + 3, ls.map (q_f p), r.map (q_v p), h1))) (fun h1 g1 w1 => q_N w1))
        rcases v with v | v | v <;> exact e
    case new =>
      have hl9 := (q_l O w).1
      show q_R p K0 G0 (if a < 13 ∧ h.1.length < 900000 then _ else none) (if a < 13 ∧ g.1.length < 900000 then _ else none)
      by_cases e9 : a < 13 ∧ h.1.length < 900000
      case neg =>
        rw [if_neg e9]
        exact True.intro
      rw [if_pos e9, if_pos ⟨e9.1, by rw [hl9]; exact e9.2⟩]
      have e := q_N (ls := ls) (st := jR h.1.length :: st) (pc := pc + 3) (q_new O w a (j_cz a))
      rw [List.map_cons, show q_v p (jR h.1.length) = jR g.1.length by rw [(q_l O w).1]; exact congrArg jR (O.ge _ (q_l O w).2)] at e
      exact e
    case newarray t =>
      refine q_uI (fun n r => ?_)
      have hl9 := (q_l O w).1
      show q_R p K0 G0 (if j_atc t < 36 ∧ 0 ≤ n ∧ n ≤ 100000 ∧ h.1.length < 900000 then _ else none) (if j_atc t < 36 ∧ 0 ≤ n ∧ n ≤ 100000 ∧ g.1.length < 900000 then _ else none)
      by_cases e9 : j_atc t < 36 ∧ 0 ≤ n ∧ n ≤ 100000 ∧ h.1.length < 900000
      case neg =>
        rw [if_neg e9]
        exact True.intro
      · rw [if_pos e9, if_pos ⟨e9.1, e9.2.1, e9.2.2.1, by rw [hl9]; exact e9.2.2.2⟩]
        have e := q_N (ls := ls) (st := jR h.1.length :: r) (pc := pc + 2) (q_new O w (j_atc t) n.toNat)
        rw [List.map_cons, show q_v p (jR h.1.length) = jR g.1.length by rw [(q_l O w).1]; exact congrArg jR (O.ge _ (q_l O w).2)] at e
        exact e
    case multianewarray =>
      rcases st with _ | ⟨x | x | x, _ | ⟨y | y | y, r⟩⟩
      all_goals first | exact True.intro | skip
      show q_R p K0 G0 (if (0 ≤ x ∧ x ≤ 1000 ∧ 0 ≤ y ∧ y ≤ 1000 ∧ h.1.length < 900000) ∧ h.1.any (fun q => q.1 == 33) = true then _ else none) (if (0 ≤ x ∧ x ≤ 1000 ∧ 0 ≤ y ∧ y ≤ 1000 ∧ g.1.length < 900000) ∧ g.1.any (fun q => q.1 == 33) = true then _ else none)
      have hl9 := (q_l O w).1
      by_cases e9 : (0 ≤ x ∧ x ≤ 1000 ∧ 0 ≤ y ∧ y ≤ 1000 ∧ h.1.length < 900000) ∧ h.1.any (fun q => q.1 == 33) = true
      · rw [if_pos e9, if_pos ⟨⟨e9.1.1, e9.1.2.1, e9.1.2.2.1, e9.1.2.2.2.1, by rw [hl9]; exact e9.1.2.2.2.2⟩, q_any O w e9.2⟩]
        have e := q_N (ls := ls) (st := jR h.1.length :: r) (pc := pc + 4) (q_mna O w y.toNat x.toNat)
        rw [List.map_cons, show q_v p (jR h.1.length) = jR g.1.length by rw [(q_l O w).1]; exact congrArg jR (O.ge _ (q_l O w).2)] at e
        exact e
      · rw [if_neg e9]
        exact True.intro
    case invokevirtual =>
      dsimp only
      rw [← List.map_drop, ← List.map_take, ← List.map_reverse]
      rcases st.drop b with _ | ⟨x | x | x, r⟩
      · exact True.intro
      · exact True.intro
      · exact True.intro
      · show q_R p K0 G0 (if a = 9996 then _ else _) (if a = 9996 then _ else _)
        by_cases e9 : a = 9996
        · rw [if_pos e9, if_pos e9]
          cases e : h.1[x]? with
          | none => exact True.intro
          | some z1 =>
            obtain ⟨c, n⟩ := z1
            dsimp only
            by_cases e1 : (c = 34 ∧ j_byt h.2.2 x 0 n = true) ∧ h.1.length < 900000 ∧ (r.map j_cat).sum ≤ 8
            · obtain ⟨e2, e3⟩ := q_k1 O w (q := (c, n)) (by show c ≠ 31; omega) e
              have e6 : h.1[x]? ≠ some (31, 0) := by rw [e]; intro h7; cases h7; omega
              rw [if_pos e1, e2]
              dsimp only
              have hl9 := (q_l O w).1
              rw [q_cats, q_byt O w e6, if_pos ⟨e1.1, hl9 ▸ e1.2.1, e1.2.2⟩]
              have e5 := q_N (ls := ls) (st := jR h.1.length :: r) (pc := pc + 3) (q_cln O w e6 n)
              rw [List.map_cons, show q_v p (jR h.1.length) = jR g.1.length by rw [(q_l O w).1]; exact congrArg jR (O.ge _ (q_l O w).2)] at e5
              exact e5
            · rw [if_neg e1]
              exact True.intro
        · rw [if_neg e9, if_neg e9]
          cases em : j_meth[a]? with
          | none => exact True.intro
          | some m =>
            refine q_obk O w (q_31y em) (fun _ => ?_)
            rw [q_cats]
            split
            · exact ⟨rfl, rfl, rfl⟩
            · exact True.intro
    case invokespecial =>
      dsimp only
      split
      · exact True.intro
      rw [← List.map_drop, ← List.map_take, ← List.map_reverse]
      rcases st.drop b with _ | ⟨x | x | x, r⟩
      · exact True.intro
      · exact True.intro
      · exact True.intro
      · show q_R p K0 G0 (if (r.map j_cat).sum ≤ 8 then _ else none) (if ((r.map (q_v p)).map j_cat).sum ≤ 8 then _ else none)
        rw [q_cats]
        split
        · split
          · exact q_N w
          · exact q_obs O w ⟨rfl, rfl, rfl⟩
        · exact True.intro
    case invokestatic =>
      dsimp only
      split
      · exact True.intro
      split
      · rcases st with _ | ⟨x1 | x1 | x1, _ | ⟨x2 | x2 | x2, _ | ⟨x3 | x3 | x3, _ | ⟨x4 | x4 | x4, _ | ⟨x5 | x5 | x5, r⟩⟩⟩⟩⟩
        all_goals first | exact True.intro | skip
        show q_R p K0 G0 (match j_kd h x5, h.1[x3]? with | some (c, n0), some (d, n1) => _ | _, _ => none) (match j_kd g (p x5), g.1[p x3]? with | some (c, n0), some (d, n1) => _ | _, _ => none)
        cases e1 : j_kd h x5 with
        | none => exact True.intro
        | some z1 =>
          cases e2 : h.1[x3]? with
          | none => exact True.intro
          | some z2 =>
            obtain ⟨c, n0⟩ := z1
            obtain ⟨d, n1⟩ := z2
            dsimp only
            by_cases e3 : (c = 32 ∨ c = 33 ∨ (c = 34 ∧ j_byt h.2.2 x5 x4.toNat x1.toNat = true)) ∧ c = d ∧ 2 ≤ x5 ∧ 2 ≤ x3 ∧ (r.map j_cat).sum ≤ 8
            · obtain ⟨f1, f2⟩ := q_kd O w (q := (c, n0)) (by show c ≠ 31; omega) e1
              obtain ⟨f3, f4⟩ := q_k1 O w (q := (d, n1)) (by show d ≠ 31; omega) e2
              rw [f1, f3]
              dsimp only
              rw [if_pos e3, q_byt O w f2, q_cats]
              simp only [q_le2 O]
              rw [if_pos e3]
              split
              · exact q_N (q_cpy O w f2 _ _ _ _)
              · exact True.intro
            · rw [if_neg e3]
              exact True.intro
      · rw [← List.map_drop, ← List.map_take, ← List.map_reverse, List.length_map, q_cats]
        split
        · exact ⟨rfl, rfl, rfl⟩
        · exact True.intro
    case ireturn =>
      rcases st with _ | ⟨x | x | x, _ | ⟨y, r⟩⟩
      all_goals first | exact True.intro | skip
      show q_R p K0 G0 (if j_ret y = 1 then _ else _) (if j_ret y = 1 then _ else _)
      repeat' split
      all_goals first | exact True.intro | exact ⟨rfl, w⟩
    case areturn =>
      rcases st with _ | ⟨x | x | x, _ | ⟨y, r⟩⟩
      all_goals first | exact True.intro | skip
      show q_R p K0 G0 (if j_ret y = 6 then _ else none) (if j_ret y = 6 then _ else none)
      split
      · exact ⟨rfl, w⟩
      · exact True.intro
    case lreturn =>
      rcases st with _ | ⟨x | x | x, _ | ⟨y, r⟩⟩
      · exact True.intro
      · exact True.intro
      · exact True.intro
      · show q_R p K0 G0 (if j_ret y = 2 then _ else _) (if j_ret y = 2 then _ else _)
        split
        · exact ⟨rfl, w⟩
        · exact True.intro
      all_goals exact True.intro
    case return_ =>
      rcases st with _ | ⟨x, r⟩
      · show q_R p K0 G0 (if j_ret y = 0 then _ else _) (if j_ret y = 0 then _ else _)
        split
        · exact ⟨rfl, w⟩
        · exact True.intro
      · exact True.intro
    all_goals exact True.intro
def q_Z (p : Nat → Nat) (K0 G0 : List (Nat × Nat)) : Option j_Z → Option j_Z → Prop
  | none, _ => True
  | some z, some u => u.1 = q_f p z.1 ∧ q_H p K0 G0 z.2 u.2
  | _, _ => False
theorem q_Zr {o q : Option j_Z} (w : q_Z p K0 G0 o q) {z : j_Z} (e : o = some z) : ∃ u, q = some u ∧ u.1 = q_f p z.1 ∧ q_H p K0 G0 z.2 u.2 := by
  subst e
  cases q with
  | none => exact w.elim
  | some u => exact ⟨u, rfl, w⟩
theorem q_run (O : q_Pi p K0 G0) {C D : Nat → List j_V → j_H → Option j_Z} (hC : ∀ k as h g, q_H p K0 G0 h g → q_Z p K0 G0 (C k as h) (D k (as.map (q_v p)) g)) (y : Nat) : ∀ (n pc : Nat) (ls : j_L) (st : List j_V) (h g : j_H), q_H p K0 G0 h g → q_Z p K0 G0 (j_run C n y pc ls st h) (j_run D n y pc (ls.map (q_f p)) (st.map (q_v p)) g) := by
  intro n
  induction n with
  | zero => intro pc ls st h g w; exact True.intro
  | succ n ih =>
    intro pc ls st h g w
    unfold j_run
    rw [j_step_by, j_step_by]
    have e := q_step O w y pc ls st
    generalize j_res y pc ls st h = q at e ⊢
    generalize j_res y pc (ls.map (q_f p)) (st.map (q_v p)) g = q' at e ⊢
    match q, q', e with
    | none, _, e => exact True.intro
    | some (.inl (a, l, s, h1)), some (.inl (a', l', s', g1)), e =>
      obtain ⟨rfl, rfl, rfl, e4⟩ := e
      exact ih _ _ _ _ _ e4
    | some (.inr (.inl (v, h1))), some (.inr (.inl (u, g1))), e => exact e
    | some (.inr (.inr (k, as, r))), some (.inr (.inr (k', as', r'))), e =>
      obtain ⟨rfl, rfl, rfl⟩ := e
      simp only [j_by]
      have e2 := hC k' as h g w
      cases hc : C k' as h with
      | none => exact True.intro
      | some z =>
        cases hd : D k' (as.map (q_v p)) g with
        | none => rw [hc, hd] at e2; exact e2.elim
        | some u =>
          rw [hc, hd] at e2
          obtain ⟨e3, e4⟩ := e2
          have e5 := ih (pc + 3) ls (z.1.toList ++ r) z.2 u.2 e4
          have e6 : (z.1.toList ++ r).map (q_v p) = u.1.toList ++ r.map (q_v p) := by
            rw [List.map_append, e3]
            cases z.1 <;> rfl
          rw [e6] at e5
          exact e5
theorem q_fin (O : q_Pi p K0 G0) {C D : Nat → List j_V → j_H → Option j_Z} (hC : ∀ k as h g, q_H p K0 G0 h g → q_Z p K0 G0 (C k as h) (D k (as.map (q_v p)) g)) (y pc : Nat) (ls : j_L) (st : List j_V) (w : q_H p K0 G0 h g) : q_Z p K0 G0 (j_fin C y pc ls st h) (j_fin D y pc (ls.map (q_f p)) (st.map (q_v p)) g) := by
  cases e : j_fin C y pc ls st h with
  | none => exact True.intro
  | some z =>
    obtain ⟨n, hn⟩ := (j_fin_some C).mp e
    obtain ⟨u, h1, h2⟩ := q_Zr (q_run O hC y n pc ls st h g w) hn
    rw [(j_fin_some D).mpr ⟨n, h1⟩]
    exact h2
theorem q_ent : ∀ as : List j_V, j_ent (as.map (q_v p)) = (j_ent as).map (q_f p)
  | [] => rfl
  | v :: r => by
    have ih := q_ent r
    show (if j_isL (q_v p v) = true then some (q_v p v) :: none :: j_ent (r.map (q_v p)) else some (q_v p v) :: j_ent (r.map (q_v p))) = (if j_isL v = true then some v :: none :: j_ent r else some v :: j_ent r).map (q_f p)
    rw [q_isL, ih]
    split <;> rfl
theorem q_loc (k : Nat) (as : List j_V) : j_loc k (as.map (q_v p)) = (j_loc k as).map (q_f p) := by
  unfold j_loc
  rw [q_ent, List.length_map, List.map_append, List.map_replicate]
  rfl
theorem q_call (O : q_Pi p K0 G0) : ∀ (d k : Nat) (as : List j_V) (h g : j_H), q_H p K0 G0 h g → q_Z p K0 G0 (c_call d k as h) (c_call d k (as.map (q_v p)) g) := by
  intro d
  induction d with
  | zero => intro k as h g w; exact True.intro
  | succ d ih =>
    intro k as h g w
    show q_Z p K0 G0 (if (j_ent as).length ≤ j_ml k then j_fin (c_call d) k 0 (j_loc k as) [] h else none) (if (j_ent (as.map (q_v p))).length ≤ j_ml k then j_fin (c_call d) k 0 (j_loc k (as.map (q_v p))) [] g else none)
    rw [q_loc, q_ent, List.length_map]
    split
    · exact q_fin O ih k 0 _ [] w
    · exact True.intro
end Q_R
