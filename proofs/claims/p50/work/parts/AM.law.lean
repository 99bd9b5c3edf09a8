/-! For the law's walk: dead places, bits, arrays, builders, the law's heap. -/
/-- no long stands there -/
def nL (o : Option j_V) : Prop := ∀ x : Int, o ≠ some (jL x)
theorem nL_n : nL none := fun _ h => by cases h
theorem nL_i (x : Int) : nL (some (jI x)) := fun _ h => by cases h
theorem nL_r (x : Nat) : nL (some (jR x)) := fun _ h => by cases h
theorem s1_of {ls l1 : j_L} {j : Nat} {v : j_V} {o : Option j_V} (h1 : ls[j]? = some o) (h : nL o) (hk : j + 1 < ls.length) (e : ls.set (j + 1) (some v) = l1) : j_s1 ls (j + 1) v = some l1 := by
  have hp : j_pre ls (j + 1) = true := by
    unfold j_pre
    dsimp only
    rw [h1]
    match o, h with
    | none, _ => rfl
    | some (.inl x), _ => rfl
    | some (.inr (.inl x)), h => exact absurd rfl (h x)
    | some (.inr (.inr x)), _ => rfl
  unfold j_s1
  rw [if_pos hp, if_pos hk, e]
theorem j_and11 : j_and 1 1 = 1 := by decide
theorem and_r (x k : Int) (hk : 0 ≤ k ∧ k < 2147483648) : 0 ≤ j_and x k ∧ j_and x k ≤ k := by
  obtain ⟨n, rfl⟩ := Int.eq_ofNat_of_zero_le hk.1
  unfold j_and
  have hb : (Int32.ofInt (n : Int)).toBitVec.toNat = n := by
    show (BitVec.ofInt 32 (n : Int)).toNat = n
    rw [BitVec.toNat_ofInt]
    omega
  have h1 : (Int32.ofInt x &&& Int32.ofInt (n : Int)).toBitVec.toNat ≤ n := by
    rw [Int32.toBitVec_and, BitVec.toNat_and, hb]
    exact Nat.and_le_right
  have h2 : (Int32.ofInt x &&& Int32.ofInt (n : Int)).toInt = ((Int32.ofInt x &&& Int32.ofInt (n : Int)).toBitVec.toNat : Int) := by
    show (Int32.ofInt x &&& Int32.ofInt (n : Int)).toBitVec.toInt = _
    exact BitVec.toInt_eq_toNat_of_lt (by omega)
  omega
theorem tmod_r {x k : Int} (hx : 0 ≤ x) (hk : 0 < k) : 0 ≤ Int.tmod x k ∧ Int.tmod x k < k := ⟨Int.tmod_nonneg _ hx, Int.tmod_lt_of_pos _ hk⟩
theorem up_self {m : j_M0} {a k : Nat} {v : Int} : j_up m a k v a k = v := by
  unfold j_up
  rw [if_pos rfl, if_pos rfl]
/-- ints at a -/
def aI (h : j_H) (a n : Nat) (f : Nat → Int) : Prop := h.1[a]? = some (32, n) ∧ ∀ i : Nat, i < n → h.2.2 a i = f i
theorem aI_lt {h : j_H} {a n : Nat} {f : Nat → Int} (w : aI h a n f) : a < h.1.length := (List.getElem?_eq_some_iff.mp w.1).1
theorem aI_x {W : Nat → Prop} {c n k a : Nat} {h h' : j_H} {f : Nat → Int} (x : xF W c n h h') (w : aI h a k f) (hW : ¬ W a) : aI h' a k f := by
  have l := aI_lt w
  obtain ⟨⟨T, t1, -⟩, -, -, x4⟩ := x
  exact ⟨kq_old t1 w.1, fun i hi => (x4 a i (Or.inl l) hW).trans (w.2 i hi)⟩
theorem aI_k {B : j_B} {m m' : j_M0} {a n : Nat} {f : Nat → Int} (w : aI (hH B m) a n f) (k : ∀ z, m' a z = m a z) : aI (hH B m') a n f := ⟨w.1, fun i hi => (k i).trans (w.2 i hi)⟩
theorem aI_up {B : j_B} {m : j_M0} {a n i : Nat} {f : Nat → Int} {v : Int} (w : aI (hH B m) a n f) : aI (hH B (j_up m a i v)) a n (fun j => if j = i then v else f j) := ⟨w.1, fun j hj => by
  show (if a = a then (if j = i then v else m a j) else m a j) = (if j = i then v else f j)
  rw [if_pos rfl]
  by_cases e : j = i
  · rw [if_pos e, if_pos e]
  · rw [if_neg e, if_neg e]
    exact w.2 j hj⟩
theorem aI_f {h : j_H} {a n : Nat} {f g : Nat → Int} (w : aI h a n f) (e : ∀ i, i < n → f i = g i) : aI h a n g := ⟨w.1, fun i hi => (w.2 i hi).trans (e i hi)⟩
theorem hH_l {B : j_B} {m : j_M0} : (hH B m).1.length = 114 + B.2.1.length := by
  show (j_KL B.1 ++ B.2.1).length = _
  rw [List.length_append, show (j_KL B.1).length = 114 from rfl]
theorem hH_w {B : j_B} {m : j_M0} (w : B.2.2.length = B.2.1.length) : (hH B m).2.1.length = (hH B m).1.length := by
  rw [hH_l]
  show (j_PL ++ B.2.2).length = _
  rw [List.length_append, PL_l, w]
theorem hH_wi {B : j_B} {m : j_M0} (w : (hH B m).2.1.length = (hH B m).1.length) : B.2.2.length = B.2.1.length := by
  rw [hH_l] at w
  have e : (hH B m).2.1.length = 114 + B.2.2.length := by
    show (j_PL ++ B.2.2).length = _
    rw [List.length_append, PL_l]
  omega
/-- what the law has made: not too much -/
def lB (B : j_B) (k : Nat) : Prop := B.2.2.length = B.2.1.length ∧ B.2.1.length ≤ k ∧ (B.2.1.map (fun q => q.2)).sum ≤ 400 * k
/-- the law's heap: within k, the constants stand -/
def lJ (k : Nat) (B : j_B) (m : j_M0) : Prop := lB B k ∧ kmD (hH B m) ∧ kmT (hH B m)
theorem sT_m {B : j_B} {m m' : j_M0} {a b : Nat} {s : List Int} (w : sT (hH B m) a b s) (ka : ∀ z, m' a z = m a z) (kb : ∀ z, m' b z = m b z) : sT (hH B m') a b s :=
  ⟨w.1, w.2.1, w.2.2.1, (ka _).trans w.2.2.2.1, fun i hi => (kb _).trans (w.2.2.2.2.1 i hi), w.2.2.2.2.2.1, w.2.2.2.2.2.2⟩
theorem lJ_m {k : Nat} {B : j_B} {m m' : j_M0} (w : lJ k B m) (e : ∀ b z, 1000000 ≤ b → m' b z = m b z) : lJ k B m' := by
  refine ⟨w.1, fun j hj => ?_, fun i hi => sT_m (w.2.2 i hi) (fun z => e _ z (by omega)) (fun z => e _ z (by omega))⟩
  have h1 := w.2.1 j hj
  have e1 : (hH B m').2.2 1000020 j = (hH B m).2.2 1000020 j := e _ _ (by omega)
  have e2 : (hH B m').2.2 1000021 j = (hH B m).2.2 1000021 j := e _ _ (by omega)
  rw [e1, e2]
  exact h1
theorem lJ_k {k : Nat} {B : j_B} {m m' : j_M0} (w : lJ k B m) (e : ∀ b z, 114 ≤ b → m' b z = m b z) : lJ k B m' := lJ_m w (fun b z h => e b z (by omega))
theorem lJ_u {k a i : Nat} {B : j_B} {m : j_M0} {v : Int} (w : lJ k B m) (ha : a < 1000000) : lJ k B (j_up m a i v) := lJ_m w (fun b z h => up_ne (by omega))
theorem lJ_hw {k : Nat} {B : j_B} {m : j_M0} (w : lJ k B m) : (hH B m).2.1.length = (hH B m).1.length := hH_w w.1.1
theorem lJ_hl {k : Nat} {B : j_B} {m : j_M0} (w : lJ k B m) : 114 ≤ (hH B m).1.length ∧ (hH B m).1.length ≤ 114 + k := by
  have h := w.1.2.1
  rw [hH_l]
  omega
/-- new cells behind: the law's heap again -/
theorem lJ_x {k j : Nat} {B : j_B} {m : j_M0} {h' : j_H} (w : lJ k B m) (x : xF (fun _ => False) j (400 * j) (hH B m) h') (hw : h'.2.1.length = h'.1.length) (hk : k + j ≤ 100000) : ∃ (B' : j_B) (m' : j_M0), h' = hH B' m' ∧ B'.1 = B.1 ∧ lJ (k + j) B' m' ∧ ∀ a i : Nat, a < 114 → m' a i = m a i := by
  obtain ⟨B', m', e, b1, ⟨T, t1, t2, t3⟩, e1, e2⟩ := hH_x x (fun _ h => h.elim)
  subst e
  have l1 := lJ_hl w
  have l2 := (xF_le x).2
  refine ⟨B', m', rfl, b1, ⟨⟨hH_wi hw, ?_, ?_⟩, kmD_x x ⟨fun h => h, fun h => h⟩ w.2.1, fun i hi => sT_x x (lJ_hw w) (by omega) (w.2.2 i hi) (fun h => h) (fun h => h)⟩, e1⟩
  · rw [t1, List.length_append]
    have := w.1.2.1
    omega
  · rw [t1, List.map_append, List.sum_append]
    have := w.1.2.2
    omega
/-- a new row of ints -/
theorem arr_new {k n : Nat} {B : j_B} {m : j_M0} (w : lJ k B m) (hn : n ≤ 400) (hk : k ≤ 90000) : ∃ (B' : j_B) (m' : j_M0) (A : Nat), (hH B m).1.length = A ∧ 114 ≤ A ∧ A < 200000 ∧ j_new (hH B m) 32 n = hH B' m' ∧ B'.1 = B.1 ∧ lJ (k + 1) B' m' ∧ (∀ a i : Nat, a < 114 → m' a i = m a i) ∧ xF (fun _ => False) 1 n (hH B m) (hH B' m') ∧ aI (hH B' m') A n (fun _ => 0) := by
  have l := lJ_hl w
  have x : xF (fun _ => False) 1 n (hH B m) (j_new (hH B m) 32 n) := xF_new (by omega)
  obtain ⟨B', m', e, b1, b2, b3⟩ := lJ_x (j := 1) w (xF_w x (lJ_hw w) (fun a h => Or.inl h) (Nat.le_refl 1) (by omega)) (j_new_w (lJ_hw w)) (by omega)
  refine ⟨B', m', _, rfl, l.1, by omega, e, b1, b2, b3, e ▸ x, ?_⟩
  rw [← e]
  refine ⟨kq_new _ _ _, fun i _ => ?_⟩
  show (if (hH B m).1.length = (hH B m).1.length then (0 : Int) else _) = 0
  rw [if_pos rfl]
theorem arr_ok {k : Nat} {B : j_B} {m : j_M0} {n : Int} (w : lJ k B m) (hn : 0 ≤ n ∧ n ≤ 100000) (hk : k ≤ 90000) : j_atc .int < 36 ∧ 0 ≤ n ∧ n ≤ 100000 ∧ (hH B m).1.length < 900000 := by
  have l := lJ_hl w
  exact ⟨by decide, hn.1, hn.2, by omega⟩
/-! builders over a heap h0 -/
theorem sB_x {c n : Nat} {h h' : j_H} {a b e : Nat} {s : List Int} (x : xF (fun _ => False) c n h h') (hw : h.2.1.length = h.1.length) (w : sB h a b e s) : sB h' a b e s := by
  obtain ⟨⟨k1, k3, kr⟩, ⟨k2, kc⟩, k4, hv, hby, h127⟩ := w
  have la := (List.getElem?_eq_some_iff.mp k1).1
  have lb := (List.getElem?_eq_some_iff.mp k3).1
  obtain ⟨⟨T, t1, -⟩, -, x3, x4⟩ := x
  refine ⟨⟨kq_old t1 k1, kq_old t1 k3, ?_⟩, ⟨(x4 a 1 (Or.inl la) (fun h => h)).trans k2, (x4 a 3 (Or.inl la) (fun h => h)).trans kc⟩, k4, fun i hi => (x4 b i (Or.inl lb) (fun h => h)).trans (hv i hi), fun i hi => ?_, h127⟩
  · unfold j_rf at kr ⊢
    rw [x3 a (by omega) (fun h => h)]
    exact kr
  · rw [x4 b i (Or.inl lb) (fun h => h)]
    exact hby i hi
def bS (k : Nat) (h0 h : j_H) (a b c : Nat) (s : List Int) : Prop := sB h a b c s ∧ xF (fun _ => False) k (400 * k) h0 h ∧ h.2.1.length = h.1.length ∧ (h0.1.length ≤ a ∧ h0.1.length ≤ b) ∧ c ≤ 16 + 2 * s.length
theorem bS_k {k : Nat} {h0 h : j_H} {a b c : Nat} {s : List Int} (w : bS k h0 h a b c s) : j_kd h a = some (1, 4) := kd_of w.1.1.1
theorem bS_l {k : Nat} {h0 h : j_H} {a b c : Nat} {s : List Int} (w : bS k h0 h a b c s) : a < h.1.length ∧ b < h.1.length ∧ h0.1.length ≤ h.1.length ∧ h.1.length ≤ h0.1.length + k :=
  ⟨(List.getElem?_eq_some_iff.mp w.1.1.1).1, (List.getElem?_eq_some_iff.mp w.1.1.2.1).1, (xF_le w.2.1).1, (xF_le w.2.1).2⟩
theorem bS_new {h0 : j_H} (hw : h0.2.1.length = h0.1.length) (h2 : 2 ≤ h0.1.length) (hl : h0.1.length < 700000) : bS 2 h0 (nB (j_new h0 1 4) h0.1.length) h0.1.length (h0.1.length + 1) 16 [] := by
  obtain ⟨a1, a2, a3⟩ := sB_new hw h2 (by omega)
  exact ⟨a1, xF_w a2 hw (fun _ h => Or.inl h) (Nat.le_refl 2) (by omega), a2.2.1.2 hw, ⟨Nat.le_refl _, Nat.le_succ _⟩, Nat.le_add_right _ _⟩
theorem bS_ini {h0 : j_H} (hl : h0.1.length < 700000) : c_call 10 286 [jR h0.1.length] (j_new h0 1 4) = some (none, nB (j_new h0 1 4) h0.1.length) := R286 (d := 8) (kq_new _ _ _) (by rw [j_new_l]; omega)
theorem sT_lt {h : j_H} {u v : Nat} {s : List Int} (w : sT h u v s) (hl : h.1.length ≤ 1000000) : (u < h.1.length ∨ 1000000 ≤ u) ∧ (v < h.1.length ∨ 1000000 ≤ v) := ⟨(kd_x (xF_rf (W := fun _ => False)) hl w.1).2, (kd_x (xF_rf (W := fun _ => False)) hl w.2.2.1).2⟩
theorem bS_x {k j : Nat} {h0 h h' : j_H} {a b c : Nat} {s : List Int} (w : bS k h0 h a b c s) (x : xF (fun _ => False) j (400 * j) h h') (hw : h'.2.1.length = h'.1.length) : bS (k + j) h0 h' a b c s := by
  refine ⟨sB_x x w.2.2.1 w.1, ?_, hw, w.2.2.2.1, w.2.2.2.2⟩
  rw [show 400 * (k + j) = 400 * k + 400 * j by omega]
  exact xF_tr w.2.1 x
theorem bS_app {k : Nat} {h0 h : j_H} {a b c u v : Nat} {s x : List Int} (w : bS k h0 h a b c s) (hw0 : h0.2.1.length = h0.1.length) (wt : sT h u v x) (hv : v ≠ b) (hv2 : 2 ≤ v) (hx : x.length ≤ 17) (hs : s.length ≤ 60) (hk : k ≤ 100) (hl : h0.1.length ≤ 700000) : ∃ (h' : j_H) (b' c' : Nat), c_call 10 283 [jR a, jR u] h = some (some (jR a), h') ∧ bS (k + 1) h0 h' a b' c' (s ++ x) := by
  have l := bS_l w
  have h16 := w.1.2.2.1
  have hc := w.2.2.2.2
  obtain ⟨h', b', c', e1, e2, e3, e4, e5, e6, e7⟩ := A283 (d := 4) w.1 wt w.2.2.1 (by omega) hv hv2 (by omega) (by omega)
  refine ⟨h', b', c', e1, e2, ?_, e6, ⟨w.2.2.2.1.1, ?_⟩, ?_⟩
  · rw [show 400 * (k + 1) = 400 * k + 400 by omega]
    refine xF_w (W := fun z => z = a ∨ z = b) (xF_tr (xF_w w.2.1 hw0 (fun _ h => h.elim) (Nat.le_refl _) (Nat.le_refl _)) e3) hw0 (fun z hz => Or.inr ?_) (Nat.le_refl _) (by omega)
    have := w.2.2.2.1
    rcases hz with e | e <;> (rw [e]; omega)
  · have := w.2.2.2.1.2
    omega
  · rw [List.length_append]
    omega
theorem bS_let {k : Nat} {h0 h : j_H} {a b c : Nat} {s : List Int} {x : Int} (w : bS k h0 h a b c s) (hw0 : h0.2.1.length = h0.1.length) (hx : 0 ≤ x ∧ x ≤ 127) (hs : s.length ≤ 60) (hk : k ≤ 100) (hl : h0.1.length ≤ 700000) : ∃ (h' : j_H) (b' c' : Nat), c_call 10 285 [jR a, jI x] h = some (some (jR a), h') ∧ bS (k + 1) h0 h' a b' c' (s ++ [x]) := by
  have l := bS_l w
  have h16 := w.1.2.2.1
  have hc := w.2.2.2.2
  obtain ⟨h', b', c', e1, e2, e3, e4, e5, e6, e7⟩ := A285 (d := 4) w.1 hx w.2.2.1 (by omega) (by omega)
  refine ⟨h', b', c', e1, e2, ?_, e6, ⟨w.2.2.2.1.1, ?_⟩, ?_⟩
  · rw [show 400 * (k + 1) = 400 * k + 400 by omega]
    refine xF_w (W := fun z => z = a ∨ z = b) (xF_tr (xF_w w.2.1 hw0 (fun _ h => h.elim) (Nat.le_refl _) (Nat.le_refl _)) e3) hw0 (fun z hz => Or.inr ?_) (Nat.le_refl _) (by omega)
    have := w.2.2.2.1
    rcases hz with e | e <;> (rw [e]; omega)
  · have := w.2.2.2.1.2
    omega
  · rw [List.length_append]
    show c' ≤ 16 + 2 * (s.length + 1)
    omega
theorem bS_num {k : Nat} {h0 h : j_H} {a b c : Nat} {s : List Int} {x : Int} (w : bS k h0 h a b c s) (hw0 : h0.2.1.length = h0.1.length) (km : kmD h0) (hx : -99 ≤ x ∧ x ≤ 99) (hs : s.length ≤ 13) (hk : k ≤ 100) (hl : h0.1.length ≤ 700000) : ∃ h' : j_H, c_call 10 284 [jR a, jI x] h = some (some (jR a), h') ∧ bS k h0 h' a b c (s ++ dgF x) := by
  have l := bS_l w
  have h16 := w.1.2.2.1
  have km' : kmD h := kmD_x w.2.1 ⟨fun h => h, fun h => h⟩ km
  obtain ⟨h', e1, e2, e3⟩ := A284 (d := 4) w.1 hx (by omega) (by omega) km'
  refine ⟨h', e1, e2, ?_, e3.2.1.2 w.2.2.1, w.2.2.2.1, ?_⟩
  · refine xF_w (W := fun z => z = a ∨ z = b) (xF_tr (xF_w w.2.1 hw0 (fun _ h => h.elim) (Nat.le_refl _) (Nat.le_refl _)) e3) hw0 (fun z hz => Or.inr ?_) (Nat.le_refl _) (Nat.le_refl _)
    have := w.2.2.2.1
    rcases hz with e | e <;> (rw [e]; omega)
  · rw [List.length_append]
    have := w.2.2.2.2
    omega
theorem bS_str {k : Nat} {h0 h : j_H} {a b c : Nat} {s : List Int} (w : bS k h0 h a b c s) (hs : s.length ≤ 60) (hk : k ≤ 100) (hl : h0.1.length ≤ 700000) : ∃ h' : j_H, c_call 10 288 [jR a] h = some (some (jR h.1.length), h') ∧ sT h' h.1.length (h.1.length + 1) s ∧ xF (fun _ => False) (k + 2) (400 * (k + 2)) h0 h' ∧ h'.2.1.length = h'.1.length ∧ h0.1.length ≤ h.1.length := by
  have l := bS_l w
  obtain ⟨h', e1, e2, e3, e4, e5⟩ := A288 (d := 4) w.1 w.2.2.1 (by omega)
  refine ⟨h', e1, e2, ?_, e4, l.2.2.1⟩
  rw [show 400 * (k + 2) = 400 * k + 800 by omega]
  exact xF_tr w.2.1 (xF_w e3 w.2.2.1 (fun _ h => Or.inl h) (Nat.le_refl 2) (by omega))
theorem aI_1 {B : j_B} {m m' : j_M0} {a n : Nat} {f : Nat → Int} (w : aI (hH B m) a n f) : (hH B m').1[a]? = some (32, n) := w.1
