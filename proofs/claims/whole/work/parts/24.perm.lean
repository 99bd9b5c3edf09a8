/-! Cells told by other numbers: a run doesn't care. (The class's walk has its own packs, made amid the others; the elder numbers put them last.) -/
def q_p (a : Nat) : Nat := if a < 87 then a else if a < 92 then a + 68 else if a < 160 then a - 5 else a
def q_i (a : Nat) : Nat := if a < 87 then a else if a < 155 then a + 5 else if a < 160 then a - 68 else a
theorem q_ip (a : Nat) : q_i (q_p a) = a := by unfold q_i q_p; (repeat' split) <;> omega
theorem q_pi (a : Nat) : q_p (q_i a) = a := by unfold q_i q_p; (repeat' split) <;> omega
theorem q_inj {a b : Nat} (h : q_p a = q_p b) : a = b := by rw [← q_ip a, h, q_ip]
theorem q_eq (a b : Nat) : (q_p a = q_p b) ↔ (a = b) := ⟨q_inj, fun h => by rw [h]⟩
theorem q_ge {a : Nat} (h : 160 ≤ a) : q_p a = a := by unfold q_p; (repeat' split) <;> omega
theorem q_lt {a n : Nat} (h : 160 ≤ n) : (q_p a < n) ↔ (a < n) := by unfold q_p; (repeat' split) <;> omega
theorem q_lt2 (a : Nat) : (q_p a < 2) ↔ (a < 2) := by unfold q_p; (repeat' split) <;> omega
theorem q_le2 (a : Nat) : (2 ≤ q_p a) ↔ (2 ≤ a) := by unfold q_p; (repeat' split) <;> omega
def q_v : j_V → j_V
  | .inr (.inr a) => jR (q_p a)
  | .inr (.inl x) => jL x
  | .inl x => jI x
abbrev q_f : Option j_V → Option j_V := Option.map q_v
def q_H (L : Nat) (h g : j_H) : Prop := (∃ T, h.1 = j_KR L ++ T ∧ g.1 = j_KL L ++ T) ∧ (h.2.1.length = h.1.length ∧ g.2.1.length = h.1.length) ∧ (∀ a, g.2.1.getD (q_p a) [] = (h.2.1.getD a []).map (Option.map q_p)) ∧ (∀ a i, g.2.2 (q_p a) i = h.2.2 a i)
set_option maxRecDepth 100000 in
theorem q_KRl (L : Nat) : (j_KR L).length = 160 := by unfold j_KR; rfl
set_option maxRecDepth 100000 in
theorem q_KLl (L : Nat) : (j_KL L).length = 160 := by unfold j_KL; rfl
set_option maxRecDepth 100000 in
theorem q_K0 : ∀ a, a < 160 → (j_KL 0)[q_p a]? = (j_KR 0)[a]? := by decide +kernel
theorem q_KRs (L n : Nat) : (j_KR L)[n + 1]? = (j_KR 0)[n + 1]? := by unfold j_KR; rw [List.getElem?_cons_succ, List.getElem?_cons_succ]
theorem q_KLs (L n : Nat) : (j_KL L)[n + 1]? = (j_KL 0)[n + 1]? := by unfold j_KL; rw [List.getElem?_cons_succ, List.getElem?_cons_succ]
theorem q_KK {L a : Nat} (h : a < 160) : (j_KL L)[q_p a]? = (j_KR L)[a]? := by
  by_cases e : a = 0
  · subst e
    rfl
  · obtain ⟨k, rfl⟩ : ∃ k, a = k + 1 := ⟨a - 1, by omega⟩
    obtain ⟨j, hj⟩ : ∃ j, q_p (k + 1) = j + 1 := ⟨q_p (k + 1) - 1, by unfold q_p; (repeat' split) <;> omega⟩
    rw [hj, q_KLs, q_KRs, ← hj]
    exact q_K0 _ h
theorem q_l {L : Nat} {h g : j_H} (w : q_H L h g) : g.1.length = h.1.length ∧ 160 ≤ h.1.length := by
  obtain ⟨⟨T, h1, h2⟩, -⟩ := w
  rw [h1, h2, List.length_append, List.length_append, q_KRl, q_KLl]
  omega
theorem q_k {L : Nat} {h g : j_H} (w : q_H L h g) (a : Nat) : g.1[q_p a]? = h.1[a]? := by
  obtain ⟨⟨T, h1, h2⟩, -⟩ := w
  rw [h1, h2]
  by_cases e : a < 160
  · rw [List.getElem?_append_left (by rw [q_KLl]; exact (q_lt (Nat.le_refl _)).mpr e), List.getElem?_append_left (by rw [q_KRl]; exact e), q_KK e]
  · rw [q_ge (by omega), List.getElem?_append_right (by rw [q_KLl]; omega), List.getElem?_append_right (by rw [q_KRl]; omega), q_KLl, q_KRl]
set_option maxRecDepth 100000 in
theorem q_any {L : Nat} {h g : j_H} (w : q_H L h g) : h.1.any (fun q => q.1 == 33) = true ∧ g.1.any (fun q => q.1 == 33) = true := by
  obtain ⟨⟨T, h1, h2⟩, -⟩ := w
  have a1 : (j_KR L).any (fun q => q.1 == 33) = true := rfl
  have a2 : (j_KL L).any (fun q => q.1 == 33) = true := rfl
  rw [h1, h2, List.any_append, List.any_append, a1, a2]
  exact ⟨rfl, rfl⟩
theorem q_rf {L : Nat} {h g : j_H} (w : q_H L h g) (a k : Nat) : j_rf g (q_p a) k = (j_rf h a k).map q_p := by
  unfold j_rf
  rw [w.2.2.1 a]
  generalize h.2.1.getD a [] = l
  rw [List.getD_eq_getElem?_getD, List.getD_eq_getElem?_getD, List.getElem?_map]
  cases l[k]? <;> rfl
theorem q_up {L : Nat} {h g : j_H} (w : q_H L h g) (a i : Nat) (x : Int) : q_H L (h.1, h.2.1, j_up h.2.2 a i x) (g.1, g.2.1, j_up g.2.2 (q_p a) i x) := by
  obtain ⟨w1, w2, w3, w4⟩ := w
  refine ⟨w1, w2, w3, fun b j => ?_⟩
  show (if q_p b = q_p a then (if j = i then x else g.2.2 (q_p b) j) else g.2.2 (q_p b) j) = (if b = a then (if j = i then x else h.2.2 b j) else h.2.2 b j)
  simp only [q_eq, w4]
theorem q_getD_set {α : Type} {l : List α} {a b : Nat} {x d : α} : (l.set a x).getD b d = if b = a ∧ a < l.length then x else l.getD b d := by
  rw [List.getD_eq_getElem?_getD, List.getD_eq_getElem?_getD, List.getElem?_set]
  by_cases e : a = b
  · subst e
    by_cases e2 : a < l.length
    · rw [if_pos rfl, if_pos e2, if_pos ⟨rfl, e2⟩]; rfl
    · rw [if_pos rfl, if_neg e2, if_neg (fun h => e2 h.2), List.getElem?_eq_none (by omega)]
  · rw [if_neg e, if_neg (fun h => e h.1.symm)]
theorem q_srf {L : Nat} {h g : j_H} (w : q_H L h g) (a k b : Nat) : q_H L (h.1, j_srf h a k b, h.2.2) (g.1, j_srf g (q_p a) k (q_p b), g.2.2) := by
  have hl := q_l w
  obtain ⟨w1, w2, w3, w4⟩ := w
  refine ⟨w1, ⟨?_, ?_⟩, fun c => ?_, w4⟩
  · show (List.set _ _ _).length = _
    rw [List.length_set]; exact w2.1
  · show (List.set _ _ _).length = _
    rw [List.length_set]; exact w2.2
  show (g.2.1.set (q_p a) ((g.2.1.getD (q_p a) []).set k (some (q_p b)))).getD (q_p c) [] = ((h.2.1.set a ((h.2.1.getD a []).set k (some b))).getD c []).map (Option.map q_p)
  have e1 : (q_p a < g.2.1.length) ↔ (a < h.2.1.length) := by rw [w2.1, w2.2]; exact q_lt hl.2
  rw [q_getD_set, q_getD_set]
  simp only [q_eq, e1]
  by_cases e : c = a ∧ a < h.2.1.length
  · rw [if_pos e, if_pos e, w3 a, List.map_set]
    rfl
  · rw [if_neg e, if_neg e, w3 c]
theorem q_cpy {L : Nat} {h g : j_H} (w : q_H L h g) (a sp b dp n : Nat) : q_H L (h.1, h.2.1, j_cpy h.2.2 a sp b dp n) (g.1, g.2.1, j_cpy g.2.2 (q_p a) sp (q_p b) dp n) := by
  obtain ⟨w1, w2, w3, w4⟩ := w
  refine ⟨w1, w2, w3, fun c j => ?_⟩
  show (if q_p c = q_p b then (if dp ≤ j ∧ j < dp + n then g.2.2 (q_p a) (sp + (j - dp)) else g.2.2 (q_p c) j) else g.2.2 (q_p c) j) = (if c = b then (if dp ≤ j ∧ j < dp + n then h.2.2 a (sp + (j - dp)) else h.2.2 c j) else h.2.2 c j)
  simp only [q_eq, w4]
theorem q_app {L : Nat} {h g : j_H} (w : q_H L h g) (c : Nat × Nat) {p p' : List (Option Nat)} (hp : p' = p.map (Option.map q_p)) : q_H L (h.1 ++ [c], h.2.1 ++ [p], j_zero h.2.2 h.1.length) (g.1 ++ [c], g.2.1 ++ [p'], j_zero g.2.2 g.1.length) := by
  have hl := q_l w
  obtain ⟨⟨T, w1, w1'⟩, w2, w3, w4⟩ := w
  refine ⟨⟨T ++ [c], ?_, ?_⟩, ⟨?_, ?_⟩, fun a => ?_, fun a i => ?_⟩
  · show h.1 ++ [c] = _
    rw [w1, List.append_assoc]
  · show g.1 ++ [c] = _
    rw [w1', List.append_assoc]
  · show (h.2.1 ++ [p]).length = (h.1 ++ [c]).length
    rw [List.length_append, List.length_append, w2.1]; rfl
  · show (g.2.1 ++ [p']).length = (h.1 ++ [c]).length
    rw [List.length_append, List.length_append, w2.2]; rfl
  · show (g.2.1 ++ [p']).getD (q_p a) [] = ((h.2.1 ++ [p]).getD a []).map (Option.map q_p)
    by_cases e : a < h.2.1.length
    · have e2 : q_p a < g.2.1.length := by rw [w2.2]; rw [w2.1] at e; exact (q_lt hl.2).mpr e
      have h3 := w3 a
      rw [List.getD_eq_getElem?_getD, List.getD_eq_getElem?_getD] at h3 ⊢
      rw [List.getElem?_append_left e, List.getElem?_append_left e2]
      exact h3
    · have e1 : h.1.length ≤ a := by rw [← w2.1]; omega
      rw [q_ge (by omega), List.getD_eq_getElem?_getD, List.getD_eq_getElem?_getD, List.getElem?_append_right (by omega), List.getElem?_append_right (by omega), w2.1, w2.2]
      by_cases e3 : a = h.1.length
      · rw [e3, Nat.sub_self]
        exact hp
      · rw [List.getElem?_eq_none (by simp; omega), List.getElem?_eq_none (by simp; omega)]
        rfl
  · show (if q_p a = g.1.length then 0 else g.2.2 (q_p a) i) = (if a = h.1.length then 0 else h.2.2 a i)
    have e : (q_p a = g.1.length) ↔ (a = h.1.length) := by
      rw [hl.1]
      constructor
      · intro e; exact q_inj (e.trans (q_ge hl.2).symm)
      · intro e; rw [e, q_ge hl.2]
    simp only [e]
    split
    · rfl
    · exact w4 a i
theorem q_rep (n : Nat) : (List.replicate n (none : Option Nat)) = (List.replicate n none).map (Option.map q_p) := by rw [List.map_replicate]; rfl
theorem q_new {L : Nat} {h g : j_H} (w : q_H L h g) (c n : Nat) : q_H L (j_new h c n) (j_new g c n) := q_app w (c, n) (q_rep _)
theorem q_mul {L : Nat} {h g : j_H} (w : q_H L h g) (n : Nat) : ∀ k, q_H L (j_mul h n k) (j_mul g n k)
  | 0 => w
  | k + 1 => q_new (q_mul w n k) 33 n
theorem q_mna {L : Nat} {h g : j_H} (w : q_H L h g) (k n : Nat) : q_H L (j_mna h k n) (j_mna g k n) := by
  have hl := q_l w
  refine q_mul (q_app w (36, k) ?_) n k
  rw [List.map_map, hl.1]
  refine List.map_congr_left (fun i _ => ?_)
  show some (h.1.length + 1 + i) = some (q_p (h.1.length + 1 + i))
  rw [q_ge (by omega)]
/-! answers -/
def q_R (L : Nat) : j_R → j_R → Prop
  | none, none => True
  | some (.inl (a, ls, st, h)), some (.inl (b, lt, su, g)) => b = a ∧ lt = ls.map q_f ∧ su = st.map q_v ∧ q_H L h g
  | some (.inr (.inl (v, h))), some (.inr (.inl (u, g))) => u = q_f v ∧ q_H L h g
  | some (.inr (.inr (k, as, r))), some (.inr (.inr (j, bs, s))) => j = k ∧ bs = as.map q_v ∧ s = r.map q_v
  | _, _ => False
section QR
variable {L : Nat} {h g : j_H} {st : List j_V} {ls : j_L}
theorem q_ld (ls : j_L) (k : Nat) : j_ld (ls.map q_f) k = q_f (j_ld ls k) := by
  unfold j_ld
  rw [List.getElem?_map]
  cases ls[k]? <;> rfl
theorem q_isL (v : j_V) : j_isL (q_v v) = j_isL v := by rcases v with x | x | x <;> rfl
theorem q_cat (v : j_V) : j_cat (q_v v) = j_cat v := by rcases v with x | x | x <;> rfl
theorem q_cats (r : List j_V) : (r.map q_v).map j_cat = r.map j_cat := by
  rw [List.map_map]
  exact List.map_congr_left (fun v _ => q_cat v)
theorem q_pre (ls : j_L) (k : Nat) : j_pre (ls.map q_f) k = j_pre ls k := by
  unfold j_pre
  cases k with
  | zero => rfl
  | succ k =>
    simp only [List.getElem?_map]
    rcases ls[k]? with _ | (_ | v)
    · rfl
    · rfl
    · show (!(j_isL (q_v v))) = _
      rw [q_isL]
theorem q_s1 (ls : j_L) (k : Nat) (v : j_V) : j_s1 (ls.map q_f) k (q_v v) = (j_s1 ls k v).map (List.map q_f) := by
  unfold j_s1
  rw [q_pre, List.length_map]
  split
  · split
    · rw [Option.map_some, List.map_set]; rfl
    · rfl
  · rfl
theorem q_s2 (ls : j_L) (k : Nat) (v : j_V) : j_s2 (ls.map q_f) k (q_v v) = (j_s2 ls k v).map (List.map q_f) := by
  unfold j_s2
  rw [q_pre, List.length_map]
  split
  · split
    · rw [Option.map_some, List.map_set, List.map_set]; rfl
    · rfl
  · rfl
theorem q_uI {k k' : Int → List j_V → j_R} (H : ∀ x r, q_R L (k x r) (k' x (r.map q_v))) : q_R L (j_uI st none k) (j_uI (st.map q_v) none k') := by
  rcases st with _ | ⟨x | x | x, r⟩ <;> first | exact True.intro | exact H _ _
theorem q_uL {k k' : Int → List j_V → j_R} (H : ∀ x r, q_R L (k x r) (k' x (r.map q_v))) : q_R L (j_uL st none k) (j_uL (st.map q_v) none k') := by
  rcases st with _ | ⟨x | x | x, r⟩ <;> first | exact True.intro | exact H _ _
theorem q_bI {k k' : Int → Int → List j_V → j_R} (H : ∀ x y r, q_R L (k x y r) (k' x y (r.map q_v))) : q_R L (j_bI st none k) (j_bI (st.map q_v) none k') := by
  rcases st with _ | ⟨x | x | x, _ | ⟨y | y | y, r⟩⟩ <;> first | exact True.intro | exact H _ _ _
theorem q_bL {k k' : Int → Int → List j_V → j_R} (H : ∀ x y r, q_R L (k x y r) (k' x y (r.map q_v))) : q_R L (j_bL st none k) (j_bL (st.map q_v) none k') := by
  rcases st with _ | ⟨x | x | x, _ | ⟨y | y | y, r⟩⟩ <;> first | exact True.intro | exact H _ _ _
theorem q_el {k k' : Nat → Int → List j_V → j_R} (H : ∀ a i r, q_R L (k a i r) (k' (q_p a) i (r.map q_v))) : q_R L (j_el st none k) (j_el (st.map q_v) none k') := by
  rcases st with _ | ⟨x | x | x, _ | ⟨y | y | y, r⟩⟩ <;> first | exact True.intro | exact H _ _ _
theorem q_sI {k k' : Nat → Int → Int → List j_V → j_R} (H : ∀ a i x r, q_R L (k a i x r) (k' (q_p a) i x (r.map q_v))) : q_R L (j_sI st none k) (j_sI (st.map q_v) none k') := by
  rcases st with _ | ⟨x | x | x, _ | ⟨y | y | y, _ | ⟨z | z | z, r⟩⟩⟩ <;> first | exact True.intro | exact H _ _ _ _
theorem q_sL {k k' : Nat → Int → Int → List j_V → j_R} (H : ∀ a i x r, q_R L (k a i x r) (k' (q_p a) i x (r.map q_v))) : q_R L (j_sL st none k) (j_sL (st.map q_v) none k') := by
  rcases st with _ | ⟨x | x | x, _ | ⟨y | y | y, _ | ⟨z | z | z, r⟩⟩⟩ <;> first | exact True.intro | exact H _ _ _ _
theorem q_rg (w : q_H L h g) {a kd : Nat} {i : Int} {k k' : j_R} (H : q_R L k k') : q_R L (j_rg h a kd i none k) (j_rg g (q_p a) kd i none k') := by
  unfold j_rg
  rw [q_k w]
  split
  · split
    · split
      · exact H
      · exact True.intro
    · exact True.intro
  · exact True.intro
theorem q_ob (w : q_H L h g) {a c : Nat} {k k' : j_R} (H : q_R L k k') : q_R L (j_ob h a c none k) (j_ob g (q_p a) c none k') := by
  unfold j_ob
  rw [q_k w]
  split
  · split
    · exact H
    · exact True.intro
  · exact True.intro
theorem q_op {β γ : Type} {o : Option β} {f : β → γ} {k : β → j_R} {k' : γ → j_R} (H : ∀ b, q_R L (k b) (k' (f b))) : q_R L (j_op o none k) (j_op (o.map f) none k') := by
  cases o with
  | none => exact True.intro
  | some b => exact H b
theorem q_get (w : q_H L h g) {a c n : Nat} {k k' : j_V → j_R} (H : ∀ v, q_R L (k v) (k' (q_v v))) : q_R L (j_get h a c n none k) (j_get g (q_p a) c n none k') := by
  unfold j_get
  rw [w.2.2.2 a n, q_rf w]
  split
  · exact H (jI _)
  · exact H (jL _)
  · exact H (jI _)
  · exact q_op (fun b => H (jR b))
theorem q_put (w : q_H L h g) {a c n : Nat} {v : j_V} {k k' : j_H → j_R} (H : ∀ h1 g1, q_H L h1 g1 → q_R L (k h1) (k' g1)) : q_R L (j_put h a c n v none k) (j_put g (q_p a) c n (q_v v) none k') := by
  unfold j_put
  split
  · rcases v with x | x | x
    · exact H _ _ (q_up w a n x)
    · exact True.intro
    · exact True.intro
  · rcases v with x | x | x
    · exact True.intro
    · exact H _ _ (q_up w a n x)
    · exact True.intro
  · rcases v with x | x | x
    · show q_R L (if x = 0 ∨ x = 1 then _ else none) (if x = 0 ∨ x = 1 then _ else none)
      split
      · exact H _ _ (q_up w a n x)
      · exact True.intro
    · exact True.intro
    · exact True.intro
  · rcases v with x | x | x
    · exact True.intro
    · exact True.intro
    · exact H _ _ (q_srf w a n x)
theorem q_if {c : Int → Prop} [DecidablePred c] {t t' f f' : List j_V → j_R} (Ht : ∀ r, q_R L (t r) (t' (r.map q_v))) (Hf : ∀ r, q_R L (f r) (f' (r.map q_v))) : q_R L (j_if st none c t f) (j_if (st.map q_v) none c t' f') := by
  rcases st with _ | ⟨x | x | x, r⟩
  · exact True.intro
  · show q_R L (if c x then t r else f r) (if c x then t' (r.map q_v) else f' (r.map q_v))
    split
    · exact Ht r
    · exact Hf r
  · exact True.intro
  · exact True.intro
theorem q_if2 {c : Int → Int → Prop} [∀ x y, Decidable (c x y)] {t t' f f' : List j_V → j_R} (Ht : ∀ r, q_R L (t r) (t' (r.map q_v))) (Hf : ∀ r, q_R L (f r) (f' (r.map q_v))) : q_R L (j_if2 st none c t f) (j_if2 (st.map q_v) none c t' f') := by
  rcases st with _ | ⟨x | x | x, _ | ⟨y | y | y, r⟩⟩
  all_goals first | exact True.intro | skip
  show q_R L (if c y x then t r else f r) (if c y x then t' (r.map q_v) else f' (r.map q_v))
  split
  · exact Ht r
  · exact Hf r
theorem q_N (w : q_H L h g) {pc : Nat} : q_R L (some (.inl (pc, ls, st, h))) (some (.inl (pc, ls.map q_f, st.map q_v, g))) := ⟨rfl, rfl, rfl, w⟩
set_option maxHeartbeats 4000000 in
theorem q_step (w : q_H L h g) (y pc : Nat) (ls : j_L) (st : List j_V) : q_R L (j_res y pc ls st h) (j_res y pc (ls.map q_f) (st.map q_v) g) := by
  unfold j_res j_step
  cases j_at y pc with
  | none => exact True.intro
  | some q =>
    obtain ⟨i, a, b, z⟩ := q
    simp only [j_op]
    cases i
    case aload_n | aload | iload_n | iload | lload_n | lload =>
      dsimp only
      rw [q_ld]
      rcases j_ld ls _ with _ | (x | x | x) <;> first | exact True.intro | exact q_N w
    case iinc k n =>
      dsimp only
      rw [q_ld]
      rcases j_ld ls _ with _ | (x | x | x)
      · exact True.intro
      · show q_R L (j_op (j_s1 ls k (jI (w32 (x + n)))) none _) (j_op (j_s1 (ls.map q_f) k (q_v (jI (w32 (x + n))))) none _)
        rw [q_s1]
        exact q_op (fun l => q_N w)
      · exact True.intro
      · exact True.intro
    case istore_n k =>
      refine q_uI (fun x r => ?_)
      show q_R L (j_op (j_s1 ls k.val (jI x)) none _) (j_op (j_s1 (ls.map q_f) k.val (q_v (jI x))) none _)
      rw [q_s1]
      exact q_op (fun l => q_N w)
    case istore k =>
      refine q_uI (fun x r => ?_)
      show q_R L (j_op (j_s1 ls k (jI x)) none _) (j_op (j_s1 (ls.map q_f) k (q_v (jI x))) none _)
      rw [q_s1]
      exact q_op (fun l => q_N w)
    case lstore_n k =>
      refine q_uL (fun x r => ?_)
      show q_R L (j_op (j_s2 ls k.val (jL x)) none _) (j_op (j_s2 (ls.map q_f) k.val (q_v (jL x))) none _)
      rw [q_s2]
      exact q_op (fun l => q_N w)
    case lstore k =>
      refine q_uL (fun x r => ?_)
      show q_R L (j_op (j_s2 ls k (jL x)) none _) (j_op (j_s2 (ls.map q_f) k (q_v (jL x))) none _)
      rw [q_s2]
      exact q_op (fun l => q_N w)
    case astore_n k =>
      rcases st with _ | ⟨x | x | x, r⟩
      · exact True.intro
      · exact True.intro
      · exact True.intro
      · show q_R L (j_op (j_s1 ls k.val (jR x)) none _) (j_op (j_s1 (ls.map q_f) k.val (q_v (jR x))) none _)
        rw [q_s1]
        exact q_op (fun l => q_N w)
    case iconst | bipush | sipush | lconst | ldc | ldc_w | ldc2_w | goto => exact q_N w
    case getstatic => exact q_N w
    case iadd | isub | imul | iand | ixor | iushr => exact q_bI (fun x y r => q_N w)
    case idiv | irem =>
      refine q_bI (fun x y r => ?_)
      split
      · exact True.intro
      · exact q_N w
    case ineg | i2l | i2b | i2s => exact q_uI (fun x r => q_N w)
    case ladd | lsub | lmul | land | lor | lxor | lcmp => exact q_bL (fun x y r => q_N w)
    case ldiv | lrem =>
      refine q_bL (fun x y r => ?_)
      split
      · exact True.intro
      · exact q_N w
    case lneg | l2i => exact q_uL (fun x r => q_N w)
    case lshl =>
      rcases st with _ | ⟨x | x | x, _ | ⟨y | y | y, r⟩⟩ <;> first | exact True.intro | exact q_N w
    case dup =>
      rcases st with _ | ⟨v, r⟩
      · exact True.intro
      · show q_R L (if j_cat v = 1 then _ else none) (if j_cat (q_v v) = 1 then _ else none)
        rw [q_cat]
        split
        · exact q_N w
        · exact True.intro
    case dup2 =>
      rcases st with _ | ⟨x | x | x, _ | ⟨v, r⟩⟩
      · exact True.intro
      · exact True.intro
      · show q_R L (if j_cat (jI x) = 1 ∧ j_cat v = 1 then _ else none) (if j_cat (q_v (jI x)) = 1 ∧ j_cat (q_v v) = 1 then _ else none)
        rw [q_cat, q_cat]
        split
        · exact q_N w
        · exact True.intro
      · exact q_N w
      · exact q_N w
      · exact True.intro
      · show q_R L (if j_cat (jR x) = 1 ∧ j_cat v = 1 then _ else none) (if j_cat (q_v (jR x)) = 1 ∧ j_cat (q_v v) = 1 then _ else none)
        rw [q_cat, q_cat]
        split
        · exact q_N w
        · exact True.intro
    case ifCond c off => cases c <;> exact q_if (fun r => q_N w) (fun r => q_N w)
    case if_icmp c off => cases c <;> exact q_if2 (fun r => q_N w) (fun r => q_N w)
    case tableswitch d lo hi offs =>
      refine q_uI (fun x r => ?_)
      split
      · cases offs[(x - lo).toNat]? with
        | none => exact True.intro
        | some o =>
          show q_R L (if 0 ≤ (pc : Int) + o then _ else none) (if 0 ≤ (pc : Int) + o then _ else none)
          split
          · exact q_N w
          · exact True.intro
      · split
        · exact q_N w
        · exact True.intro
    case iaload | laload =>
      refine q_el (fun q i r => q_rg w ?_)
      rw [w.2.2.2]
      exact q_N w
    case baload =>
      refine q_el (fun q i r => ?_)
      rw [q_k w, w.2.2.2]
      split
      · split
        · exact q_N w
        · exact True.intro
      · exact True.intro
    case aaload =>
      refine q_el (fun q i r => q_rg w ?_)
      show q_R L (j_op (j_rf h q i.toNat) none _) (j_op (j_rf g (q_p q) i.toNat) none _)
      rw [q_rf w]
      exact q_op (fun b => q_N w)
    case iastore =>
      refine q_sI (fun q i x r => ?_)
      simp only [q_lt2]
      split
      · exact True.intro
      · exact q_rg w (q_N (q_up w q i.toNat x))
    case lastore =>
      refine q_sL (fun q i x r => ?_)
      simp only [q_lt2]
      split
      · exact True.intro
      · exact q_rg w (q_N (q_up w q i.toNat x))
    case bastore =>
      refine q_sI (fun q i x r => ?_)
      simp only [q_lt2, q_k w]
      split
      · exact True.intro
      · split
        · split
          · split
            · exact q_N (q_up w q i.toNat _)
            · split
              · exact q_N (q_up w q i.toNat x)
              · exact True.intro
          · exact True.intro
        · exact True.intro
    case arraylength =>
      rcases st with _ | ⟨x | x | x, r⟩
      · exact True.intro
      · exact True.intro
      · exact True.intro
      · show q_R L (match h.1[x]? with | some (c, n) => _ | none => none) (match g.1[q_p x]? with | some (c, n) => _ | none => none)
        rw [q_k w]
        split
        · split
          · exact q_N w
          · exact True.intro
        · exact True.intro
    case getfield =>
      rcases st with _ | ⟨x | x | x, r⟩
      · exact True.intro
      · exact True.intro
      · exact True.intro
      · exact q_ob w (q_get w (fun v => q_N w))
    case putfield =>
      rcases st with _ | ⟨v, _ | ⟨x | x | x, r⟩⟩
      · exact True.intro
      · rcases v with v | v | v <;> exact True.intro
      · rcases v with v | v | v <;> exact True.intro
      · rcases v with v | v | v <;> exact True.intro
      · have e := q_ob w (a := x) (c := a) (q_put w (a := x) (c := a) (n := b) (v := v) (k := fun h1 => some (.inl (pc + 3, ls, r, h1))) (k' := fun h1 => some (.inl (pc + 3, ls.map q_f, r.map q_v, h1))) (fun h1 g1 w1 => q_N w1))
        rcases v with v | v | v <;> exact e
    case new =>
      have e := q_N (ls := ls) (st := jR h.1.length :: st) (pc := pc + 3) (q_new w a (j_cz a))
      rw [List.map_cons, show q_v (jR h.1.length) = jR g.1.length by rw [(q_l w).1]; exact congrArg jR (q_ge (q_l w).2)] at e
      exact e
    case newarray t =>
      refine q_uI (fun n r => ?_)
      split
      · have e := q_N (ls := ls) (st := jR h.1.length :: r) (pc := pc + 2) (q_new w (j_atc t) n.toNat)
        rw [List.map_cons, show q_v (jR h.1.length) = jR g.1.length by rw [(q_l w).1]; exact congrArg jR (q_ge (q_l w).2)] at e
        exact e
      · exact True.intro
    case multianewarray =>
      rcases st with _ | ⟨x | x | x, _ | ⟨y | y | y, r⟩⟩
      all_goals first | exact True.intro | skip
      show q_R L (if (0 ≤ x ∧ x ≤ 1000 ∧ 0 ≤ y ∧ y ≤ 1000) ∧ h.1.any (fun q => q.1 == 33) = true then _ else none) (if (0 ≤ x ∧ x ≤ 1000 ∧ 0 ≤ y ∧ y ≤ 1000) ∧ g.1.any (fun q => q.1 == 33) = true then _ else none)
      rw [(q_any w).1, (q_any w).2]
      split
      · have e := q_N (ls := ls) (st := jR h.1.length :: r) (pc := pc + 4) (q_mna w y.toNat x.toNat)
        rw [List.map_cons, show q_v (jR h.1.length) = jR g.1.length by rw [(q_l w).1]; exact congrArg jR (q_ge (q_l w).2)] at e
        exact e
      · exact True.intro
    case invokevirtual =>
      dsimp only
      rw [← List.map_drop, ← List.map_take, ← List.map_reverse]
      rcases st.drop b with _ | ⟨x | x | x, r⟩
      · exact True.intro
      · exact True.intro
      · exact True.intro
      · show q_R L (match j_meth[a]? with | some m => _ | none => none) (match j_meth[a]? with | some m => _ | none => none)
        cases j_meth[a]? with
        | none => exact True.intro
        | some m =>
          refine q_ob w ?_
          rw [q_cats]
          split
          · exact ⟨rfl, rfl, rfl⟩
          · exact True.intro
    case invokespecial =>
      dsimp only
      rw [← List.map_drop, ← List.map_take, ← List.map_reverse]
      rcases st.drop b with _ | ⟨x | x | x, r⟩
      · exact True.intro
      · exact True.intro
      · exact True.intro
      · show q_R L (if (r.map j_cat).sum ≤ 8 then _ else none) (if ((r.map q_v).map j_cat).sum ≤ 8 then _ else none)
        rw [q_cats]
        split
        · split
          · exact q_N w
          · exact ⟨rfl, rfl, rfl⟩
        · exact True.intro
    case invokestatic =>
      dsimp only
      split
      · rcases st with _ | ⟨x1 | x1 | x1, _ | ⟨x2 | x2 | x2, _ | ⟨x3 | x3 | x3, _ | ⟨x4 | x4 | x4, _ | ⟨x5 | x5 | x5, r⟩⟩⟩⟩⟩
        all_goals first | exact True.intro | skip
        show q_R L (match h.1[x5]?, h.1[x3]? with | some (c, n0), some (d, n1) => _ | _, _ => none) (match g.1[q_p x5]?, g.1[q_p x3]? with | some (c, n0), some (d, n1) => _ | _, _ => none)
        rw [q_k w, q_k w]
        simp only [q_le2, q_cats]
        split
        · split
          · split
            · exact q_N (q_cpy w _ _ _ _ _)
            · exact True.intro
          · exact True.intro
        · exact True.intro
      · rw [← List.map_drop, ← List.map_take, ← List.map_reverse, List.length_map, q_cats]
        split
        · exact ⟨rfl, rfl, rfl⟩
        · exact True.intro
    case ireturn =>
      rcases st with _ | ⟨x | x | x, _ | ⟨y, r⟩⟩
      · exact True.intro
      · show q_R L (if j_ret y = 1 then _ else _) (if j_ret y = 1 then _ else _)
        split
        · exact ⟨rfl, w⟩
        · split
          · split
            · exact ⟨rfl, w⟩
            · exact True.intro
          · exact True.intro
      all_goals exact True.intro
    case lreturn =>
      rcases st with _ | ⟨x | x | x, _ | ⟨y, r⟩⟩
      · exact True.intro
      · exact True.intro
      · exact True.intro
      · show q_R L (if j_ret y = 2 then _ else _) (if j_ret y = 2 then _ else _)
        split
        · exact ⟨rfl, w⟩
        · exact True.intro
      all_goals exact True.intro
    case return_ =>
      rcases st with _ | ⟨x, r⟩
      · show q_R L (if j_ret y = 0 then _ else _) (if j_ret y = 0 then _ else _)
        split
        · exact ⟨rfl, w⟩
        · exact True.intro
      · exact True.intro
    all_goals exact True.intro
def q_Z (L : Nat) : Option j_Z → Option j_Z → Prop
  | none, none => True
  | some z, some u => u.1 = q_f z.1 ∧ q_H L z.2 u.2
  | _, _ => False
theorem q_Zr {o q : Option j_Z} (w : q_Z L o q) {z : j_Z} (e : o = some z) : ∃ u, q = some u ∧ u.1 = q_f z.1 ∧ q_H L z.2 u.2 := by
  subst e
  cases q with
  | none => exact w.elim
  | some u => exact ⟨u, rfl, w⟩
theorem q_Zl {o q : Option j_Z} (w : q_Z L o q) {u : j_Z} (e : q = some u) : ∃ z, o = some z ∧ u.1 = q_f z.1 ∧ q_H L z.2 u.2 := by
  subst e
  cases o with
  | none => exact w.elim
  | some z => exact ⟨z, rfl, w⟩
theorem q_run {C : Nat → List j_V → j_H → Option j_Z} (hC : ∀ k as h g, q_H L h g → q_Z L (C k as h) (C k (as.map q_v) g)) (y : Nat) : ∀ (n pc : Nat) (ls : j_L) (st : List j_V) (h g : j_H), q_H L h g → q_Z L (j_run C n y pc ls st h) (j_run C n y pc (ls.map q_f) (st.map q_v) g) := by
  intro n
  induction n with
  | zero => intro pc ls st h g w; exact True.intro
  | succ n ih =>
    intro pc ls st h g w
    unfold j_run
    rw [j_step_by, j_step_by]
    have e := q_step w y pc ls st
    generalize j_res y pc ls st h = q at e ⊢
    generalize j_res y pc (ls.map q_f) (st.map q_v) g = q' at e ⊢
    match q, q', e with
    | none, none, e => exact True.intro
    | some (.inl (a, l, s, h1)), some (.inl (a', l', s', g1)), e =>
      obtain ⟨rfl, rfl, rfl, e4⟩ := e
      exact ih _ _ _ _ _ e4
    | some (.inr (.inl (v, h1))), some (.inr (.inl (u, g1))), e => exact e
    | some (.inr (.inr (k, as, r))), some (.inr (.inr (k', as', r'))), e =>
      obtain ⟨rfl, rfl, rfl⟩ := e
      simp only [j_by]
      have e2 := hC k' as h g w
      cases hc : C k' as h with
      | none =>
        cases hd : C k' (as.map q_v) g with
        | none => exact True.intro
        | some u => rw [hc, hd] at e2; exact e2.elim
      | some z =>
        cases hd : C k' (as.map q_v) g with
        | none => rw [hc, hd] at e2; exact e2.elim
        | some u =>
          rw [hc, hd] at e2
          obtain ⟨e3, e4⟩ := e2
          have e5 := ih (pc + 3) ls (z.1.toList ++ r) z.2 u.2 e4
          have e6 : (z.1.toList ++ r).map q_v = u.1.toList ++ r.map q_v := by
            rw [List.map_append, e3]
            cases z.1 <;> rfl
          rw [e6] at e5
          exact e5
theorem q_fin {C : Nat → List j_V → j_H → Option j_Z} (hC : ∀ k as h g, q_H L h g → q_Z L (C k as h) (C k (as.map q_v) g)) (y pc : Nat) (ls : j_L) (st : List j_V) (w : q_H L h g) : q_Z L (j_fin C y pc ls st h) (j_fin C y pc (ls.map q_f) (st.map q_v) g) := by
  cases e : j_fin C y pc ls st h with
  | some z =>
    obtain ⟨n, hn⟩ := (j_fin_some C).mp e
    obtain ⟨u, h1, h2⟩ := q_Zr (q_run hC y n pc ls st h g w) hn
    rw [(j_fin_some C).mpr ⟨n, h1⟩]
    exact h2
  | none =>
    cases e2 : j_fin C y pc (ls.map q_f) (st.map q_v) g with
    | none => exact True.intro
    | some u =>
      obtain ⟨n, hn⟩ := (j_fin_some C).mp e2
      obtain ⟨z, h1, h2⟩ := q_Zl (q_run hC y n pc ls st h g w) hn
      rw [(j_fin_some C).mpr ⟨n, h1⟩] at e
      cases e
theorem q_ent : ∀ as : List j_V, j_ent (as.map q_v) = (j_ent as).map q_f
  | [] => rfl
  | v :: r => by
    have ih := q_ent r
    show (if j_isL (q_v v) = true then some (q_v v) :: none :: j_ent (r.map q_v) else some (q_v v) :: j_ent (r.map q_v)) = (if j_isL v = true then some v :: none :: j_ent r else some v :: j_ent r).map q_f
    rw [q_isL, ih]
    split <;> rfl
theorem q_call : ∀ (d k : Nat) (as : List j_V) (h g : j_H), q_H L h g → q_Z L (c_call d k as h) (c_call d k (as.map q_v) g) := by
  intro d
  induction d with
  | zero => intro k as h g w; exact True.intro
  | succ d ih =>
    intro k as h g w
    show q_Z L (if (j_ent as).length ≤ j_ml k then j_fin (c_call d) k 0 (j_loc k as) [] h else none) (if (j_ent (as.map q_v)).length ≤ j_ml k then j_fin (c_call d) k 0 (j_loc k (as.map q_v)) [] g else none)
    have e : j_loc k (as.map q_v) = (j_loc k as).map q_f := by
      unfold j_loc
      rw [q_ent, List.length_map, List.map_append, List.map_replicate]
      rfl
    rw [e, q_ent, List.length_map]
    split
    · exact q_fin ih k 0 _ [] w
    · exact True.intro
end QR
