/-! The law's texts, read: pure. -/
def upS (S φ : Nat → Int) : Nat → Int := fun i => if 2 ≤ i ∧ i < 7 then φ (i - 2) else S i
/-- a text begins as s -/
def txA (t : Nat → Int) (N : Nat) (s : List Int) : Prop := s.length ≤ N ∧ ∀ i : Nat, i < s.length → t i = s.getD i 0
theorem txA_c {t : Nat → Int} {N : Nat} {s : List Int} (w : txA t N s) {i : Nat} (h : i < s.length) : chT t N i = s.getD i 0 := by
  unfold chT
  rw [if_pos (by have := w.1; omega)]
  exact w.2 i h
theorem txA_l {t : Nat → Int} {N : Nat} {s x : List Int} (w : txA t N (s ++ x)) : txA t N s := by
  have h1 := w.1
  rw [List.length_append] at h1
  refine ⟨by omega, fun i hi => ?_⟩
  have h2 := w.2 i (by rw [List.length_append]; omega)
  rw [getD_app, if_pos hi] at h2
  exact h2
theorem txA_r {t : Nat → Int} {N : Nat} {s x : List Int} (w : txA t N (s ++ x)) {i : Nat} (h : i < x.length) : chT t N (s.length + i) = x.getD i 0 := by
  rw [txA_c w (by rw [List.length_append]; omega), getD_app, if_neg (by omega), show s.length + i - s.length = i by omega]
theorem txA_te (s : List Int) : txA (teF s) s.length s := ⟨Nat.le_refl _, fun _ _ => rfl⟩
/-- a term: its letter alone -/
theorem tmF_a {t : Nat → Int} {N n c k p : Nat} {sg : Int} {S : Nat → Int} (hp : p < n) (h1 : chT t N k = 97 + (p : Int)) (hr : -9 ≤ S (7 * c + 2 + p) + sg * 1 ∧ S (7 * c + 2 + p) + sg * 1 ≤ 9) : tmF t N n c sg k S = (true, k + 1, setL S (7 * c + 2 + p) (S (7 * c + 2 + p) + sg * 1)) := by
  have e1 : tmK t N k = k := if_neg (by omega)
  have e2 : tmV t N k = 1 := if_neg (by omega)
  have e3 : (97 + (p : Int) - 97).toNat = p := by omega
  unfold tmF
  rw [e1, e2, h1, e3, if_pos (by omega), if_pos hr]
/-- a term: a digit and its letter -/
theorem tmF_b {t : Nat → Int} {N n c k p : Nat} {sg f : Int} {S : Nat → Int} (hp : p < n) (hf : 0 ≤ f ∧ f ≤ 9) (h0 : chT t N k = 48 + f) (h1 : chT t N (k + 1) = 97 + (p : Int)) (hr : -9 ≤ S (7 * c + 2 + p) + sg * f ∧ S (7 * c + 2 + p) + sg * f ≤ 9) : tmF t N n c sg k S = (true, k + 2, setL S (7 * c + 2 + p) (S (7 * c + 2 + p) + sg * f)) := by
  have e1 : tmK t N k = k + 1 := if_pos (by omega)
  have e2 : tmV t N k = f := (if_pos (by omega)).trans (by omega)
  have e3 : (97 + (p : Int) - 97).toNat = p := by omega
  unfold tmF
  rw [e1, e2, h1, e3, if_pos (by omega), if_pos hr]
/-- digit (or none) and letter -/
def dlF (om : Bool) (f : Int) (p : Nat) : List Int := (if om = true then [] else [48 + f]) ++ [97 + (p : Int)]
theorem tmF_d {t : Nat → Int} {N n c k p : Nat} {om : Bool} {sg f : Int} {S : Nat → Int} (hp : p < n) (hf : 0 ≤ f ∧ f ≤ 9) (ho : om = true → f = 1) (h : ∀ i : Nat, i < (dlF om f p).length → chT t N (k + i) = (dlF om f p).getD i 0) (hr : -9 ≤ S (7 * c + 2 + p) + sg * f ∧ S (7 * c + 2 + p) + sg * f ≤ 9) : tmF t N n c sg k S = (true, k + (dlF om f p).length, setL S (7 * c + 2 + p) (S (7 * c + 2 + p) + sg * f)) := by
  cases om with
  | true =>
    have e := ho rfl
    subst e
    exact tmF_a hp (h 0 (Nat.zero_lt_one)) hr
  | false => exact tmF_b hp hf (h 0 (by decide : 0 < 2)) (h 1 (by decide : 1 < 2)) hr
theorem setL_up {S φ : Nat → Int} {p : Nat} {v : Int} (hp : p < 5) : setL (upS S φ) (7 * 0 + 2 + p) v = upS S (fun j => if j = p then v else φ j) := by
  funext i
  unfold setL upS
  by_cases e : i = 7 * 0 + 2 + p
  · rw [if_pos e, if_pos (by omega)]
    show v = if i - 2 = p then v else φ (i - 2)
    rw [if_pos (by omega)]
  · rw [if_neg e]
    by_cases e2 : 2 ≤ i ∧ i < 7
    · rw [if_pos e2, if_pos e2]
      show φ (i - 2) = if i - 2 = p then v else φ (i - 2)
      rw [if_neg (by omega)]
    · rw [if_neg e2, if_neg e2]
theorem upS_a {S φ : Nat → Int} {p : Nat} (hp : p < 5) : upS S φ (7 * 0 + 2 + p) = φ p := by
  unfold upS
  rw [if_pos (by omega), show 7 * 0 + 2 + p - 2 = p by omega]
/-- the letters of s are a sum of terms, told by φ; at least v turns are left -/
def suP (n : Nat) (s : List Int) (φ : Nat → Int) (v : Nat) : Prop := (s = [] ∧ ∀ p, φ p = 0) ∨ (s ≠ [] ∧ ∃ u : Nat, v ≤ u ∧ ∀ (t : Nat → Int) (N : Nat) (S : Nat → Int), txA t N s → (∀ i : Nat, 2 ≤ i → i < 7 → S i = 0) → smF t N n 0 0 S = smL t N n 0 u s.length (upS S φ))
theorem up_0 {S φ : Nat → Int} (h : ∀ p, φ p = 0) (hS : ∀ i : Nat, 2 ≤ i → i < 7 → S i = 0) : S = upS S φ := by
  funext i
  unfold upS
  split
  · rename_i e
    rw [h, hS i e.1 e.2]
  · rfl
/-- how a term is told: its sign -/
def sgF (less : Bool) (s : List Int) : List Int := if less = true then [45] else if s = [] then [] else [43]
def sgV (less : Bool) : Int := if less = true then -1 else 1
theorem dlF_0 {om : Bool} {f : Int} {p : Nat} (hf : 0 ≤ f ∧ f ≤ 9) : (dlF om f p).getD 0 0 ≠ 45 := by
  cases om
  · show (48 + f : Int) ≠ 45
    omega
  · show (97 + (p : Int) : Int) ≠ 45
    omega
theorem dlF_l {om : Bool} {f : Int} {p : Nat} : 1 ≤ (dlF om f p).length ∧ (dlF om f p).length ≤ 2 := by
  cases om
  · exact ⟨(by decide : 1 ≤ 2), (by decide : 2 ≤ 2)⟩
  · exact ⟨(by decide : 1 ≤ 1), (by decide : 1 ≤ 2)⟩
theorem suP_step {n p v : Nat} {s : List Int} {φ : Nat → Int} {less om : Bool} {f : Int} (w : suP n s φ (v + 1)) (hv : v ≤ 80) (hn : n ≤ 5) (hp : p < n) (hf : 0 ≤ f ∧ f ≤ 9) (ho : om = true → f = 1) (hr : -9 ≤ φ p + sgV less * f ∧ φ p + sgV less * f ≤ 9) : suP n (s ++ sgF less s ++ dlF om f p) (fun j => if j = p then φ p + sgV less * f else φ j) v := by
  have l1 := dlF_l (om := om) (f := f) (p := p)
  refine Or.inr ⟨fun h => ?_, ?_⟩
  · have := congrArg List.length h
    rw [List.length_append] at this
    have h0 : ([] : List Int).length = 0 := rfl
    omega
  rcases w with ⟨hs, hφ⟩ | ⟨hs, u, hu, w⟩
  · subst hs
    refine ⟨80, hv, fun t N S ht hS => ?_⟩
    have e0 := up_0 hφ hS
    have hd : ∀ i : Nat, i < (dlF om f p).length → chT t N ((sgF less []).length + i) = (dlF om f p).getD i 0 := fun i hi => by
      have := txA_r (s := [] ++ sgF less []) ht hi
      exact this
    have c0 : miS t N 0 = sgV less ∧ miK t N 0 = (sgF less []).length := by
      cases less with
      | true =>
        have h1 := txA_c ht (i := 0) (by rw [List.length_append]; omega)
        rw [getD_app, if_pos (by decide)] at h1
        have h2 : chT t N 0 = 45 := h1
        exact ⟨if_pos h2, if_pos h2⟩
      | false =>
        have h2 : chT t N 0 ≠ 45 := by
          have := hd 0 (by omega)
          rw [show (sgF false []).length + 0 = 0 from rfl] at this
          rw [this]
          exact dlF_0 hf
        exact ⟨if_neg h2, if_neg h2⟩
    have e1 := tmF_d (t := t) (N := N) (n := n) (c := 0) (k := (sgF less []).length) (om := om) (sg := sgV less) (S := upS S φ) hp hf ho hd (by rw [upS_a (by omega)]; exact hr)
    rw [setL_up (by omega), upS_a (by omega)] at e1
    unfold smF
    rw [c0.1, c0.2, show tmF t N n 0 (sgV less) (sgF less []).length S = tmF t N n 0 (sgV less) (sgF less []).length (upS S φ) from by rw [← e0], e1, if_pos rfl]
    show smL t N n 0 80 _ _ = _
    rw [List.nil_append, List.length_append]
  · refine ⟨u - 1, by omega, fun t N S ht hS => ?_⟩
    have ht1 := txA_l (txA_l (x := dlF om f p) ht)
    have e0 := w t N S ht1 hS
    obtain ⟨u', rfl⟩ : ∃ u', u = u' + 1 := ⟨u - 1, by omega⟩
    have hsg : sgF less s = [if less = true then 45 else 43] := by
      unfold sgF
      cases less
      · rw [if_neg (by decide), if_neg hs, if_neg (by decide)]
      · rfl
    rw [hsg] at ht ⊢
    have hc : chT t N s.length = if less = true then 45 else 43 := txA_r (txA_l ht) (i := 0) (by decide : 0 < 1)
    have hd : ∀ i : Nat, i < (dlF om f p).length → chT t N (s.length + 1 + i) = (dlF om f p).getD i 0 := fun i hi => by
      have h1 := txA_r ht hi
      rw [List.length_append] at h1
      exact h1
    have hsv : (if chT t N s.length = 45 then (-1 : Int) else 1) = sgV less := by
      rw [hc]
      cases less <;> rfl
    have e1 := tmF_d (t := t) (N := N) (n := n) (c := 0) (k := s.length + 1) (om := om) (sg := sgV less) (S := upS S φ) hp hf ho hd (by rw [upS_a (by omega)]; exact hr)
    rw [setL_up (by omega), upS_a (by omega)] at e1
    rw [e0]
    show smL t N n 0 (u' + 1) s.length (upS S φ) = smL t N n 0 (u' + 1 - 1) _ _
    rw [smL]
    rw [if_pos (by rw [hc]; cases less; exact Or.inl rfl; exact Or.inr rfl), hsv, e1, if_pos rfl]
    show smL t N n 0 u' _ _ = _
    rw [show u' + 1 - 1 = u' from rfl, List.length_append, List.length_append]
    rfl
/-- a bound of at most two digits -/
theorem bdF_ok {t : Nat → Int} {N k : Nat} {x : Int} (hx : -99 ≤ x ∧ x ≤ 99) (h : ∀ i : Nat, i < (dgF x).length → chT t N (k + i) = (dgF x).getD i 0) (hn : ¬ (48 ≤ chT t N (k + (dgF x).length) ∧ chT t N (k + (dgF x).length) ≤ 57)) : (bdF t N k).1 = true ∧ (bdF t N k).2.1 = k + (dgF x).length ∧ miS t N k * (bdF t N k).2.2 = x := by
  obtain ⟨u, hu⟩ : ∃ u : Nat, u = x.natAbs := ⟨_, rfl⟩
  have two : ∀ (k : Nat) (sg : Int), (sg = 1 ∨ sg = -1) → chT t N k = 48 + ((u / 10 : Nat) : Int) → chT t N (k + 1) = 48 + ((u % 10 : Nat) : Int) → ¬ (48 ≤ chT t N (k + 2) ∧ chT t N (k + 2) ≤ 57) → bnL t N sg 3 k 0 = (true, k + 2, (u : Int)) := fun k sg hs h1 h2 h3 => by
    rw [bnL, if_pos (by omega), if_neg (by omega), bnL, if_pos (by omega), if_neg (by omega), bnL, if_neg h3]
    refine Prod.ext rfl (Prod.ext rfl ?_)
    show 10 * (10 * 0 + (chT t N k - 48)) + (chT t N (k + 1) - 48) = (u : Int)
    omega
  have one : ∀ (k : Nat) (sg : Int), (sg = 1 ∨ sg = -1) → u ≤ 9 → chT t N k = 48 + ((u % 10 : Nat) : Int) → ¬ (48 ≤ chT t N (k + 1) ∧ chT t N (k + 1) ≤ 57) → bnL t N sg 3 k 0 = (true, k + 1, (u : Int)) := fun k sg hs h9 h1 h3 => by
    rw [bnL, if_pos (by omega), if_neg (by omega), bnL, if_neg h3]
    refine Prod.ext rfl (Prod.ext rfl ?_)
    show 10 * 0 + (chT t N k - 48) = (u : Int)
    omega
  by_cases c1 : x < 0
  · by_cases c2 : x ≤ -10
    · have e := dg_d (x := x) (u := u) (by omega) hu
      rw [e] at h hn ⊢
      have h0 : chT t N k = 45 := h 0 (by decide : 0 < 3)
      have b := two (k + 1) (-1) (Or.inr rfl) (h 1 (by decide : 1 < 3)) (h 2 (by decide : 2 < 3)) hn
      have d1 : chT t N (k + 1) = 48 + ((u / 10 : Nat) : Int) := h 1 (by decide : 1 < 3)
      have m1 : miS t N k = -1 := if_pos h0
      have m2 : miK t N k = k + 1 := if_pos h0
      unfold bdF
      rw [m1, m2, if_pos (by omega), b]
      refine ⟨rfl, rfl, ?_⟩
      show -1 * (u : Int) = x
      omega
    · have e := dg_c (x := x) (u := u) (by omega) hu
      rw [e] at h hn ⊢
      have h0 : chT t N k = 45 := h 0 (by decide : 0 < 2)
      have d1 : chT t N (k + 1) = 48 + ((u % 10 : Nat) : Int) := h 1 (by decide : 1 < 2)
      have b := one (k + 1) (-1) (Or.inr rfl) (by omega) d1 hn
      have m1 : miS t N k = -1 := if_pos h0
      have m2 : miK t N k = k + 1 := if_pos h0
      unfold bdF
      rw [m1, m2, if_pos (by omega), b]
      refine ⟨rfl, rfl, ?_⟩
      show -1 * (u : Int) = x
      omega
  · by_cases c2 : 10 ≤ x
    · have e := dg_b (x := x) (u := u) (by omega) hu
      rw [e] at h hn ⊢
      have d1 : chT t N k = 48 + ((u / 10 : Nat) : Int) := h 0 (by decide : 0 < 2)
      have b := two k 1 (Or.inl rfl) d1 (h 1 (by decide : 1 < 2)) hn
      have m1 : miS t N k = 1 := if_neg (by omega)
      have m2 : miK t N k = k := if_neg (by omega)
      unfold bdF
      rw [m1, m2, if_pos (by omega), b]
      refine ⟨rfl, rfl, ?_⟩
      show 1 * (u : Int) = x
      omega
    · have e := dg_a (x := x) (u := u) (by omega) hu
      rw [e] at h hn ⊢
      have d1 : chT t N k = 48 + ((u % 10 : Nat) : Int) := h 0 (by decide : 0 < 1)
      have b := one k 1 (Or.inl rfl) (by omega) d1 hn
      have m1 : miS t N k = 1 := if_neg (by omega)
      have m2 : miK t N k = k := if_neg (by omega)
      unfold bdF
      rw [m1, m2, if_pos (by omega), b]
      refine ⟨rfl, rfl, ?_⟩
      show 1 * (u : Int) = x
      omega
/-- a rule as a clause tells it -/
def ruS (S φ : Nat → Int) (so bd : Int) : Nat → Int := setL (setL (upS (zeT S 0) φ) (7 * 0) so) (7 * 0 + 1) bd
/-- a whole clause -/
def wcF (s : List Int) (cm bd : Int) : List Int := s ++ [cm] ++ dgF bd
theorem smL_s {t : Nat → Int} {N n c u k : Nat} {S : Nat → Int} (h : ¬ (chT t N k = 43 ∨ chT t N k = 45)) : smL t N n c u k S = (true, k, S) := by
  cases u with
  | zero => rfl
  | succ u => rw [smL, if_neg h]
theorem clF_ok {t : Nat → Int} {N n v : Nat} {s : List Int} {φ S : Nat → Int} {cm bd : Int} (w : suP n s φ v) (hs : s ≠ []) (hc : cm = 62 ∨ cm = 60) (hb : -99 ≤ bd ∧ bd ≤ 99) (ht : txA t N (wcF s cm bd)) (hn : ¬ (48 ≤ chT t N (wcF s cm bd).length ∧ chT t N (wcF s cm bd).length ≤ 57)) : clF t N n 0 0 S = (true, (wcF s cm bd).length, ruS S φ (if cm = 62 then 0 else 1) bd) := by
  rcases w with ⟨h, -⟩ | ⟨-, u, hu, w⟩
  · exact absurd h hs
  have h1 : chT t N s.length = cm := txA_r (txA_l ht) (i := 0) (by decide : 0 < 1)
  have hd : ∀ i : Nat, i < (dgF bd).length → chT t N (s.length + 1 + i) = (dgF bd).getD i 0 := fun i hi => by
    have := txA_r ht hi
    rw [List.length_append] at this
    exact this
  have hl : (wcF s cm bd).length = s.length + 1 + (dgF bd).length := by
    unfold wcF
    rw [List.length_append, List.length_append]
    rfl
  rw [hl] at hn ⊢
  obtain ⟨b1, b2, b3⟩ := bdF_ok hb hd hn
  have e0 := w t N (zeT S 0) (txA_l (txA_l ht)) (fun i a b => if_pos (by omega))
  rw [smL_s (by omega)] at e0
  unfold clF
  rw [e0]
  show (if true = true then (if chT t N s.length = 62 ∨ chT t N s.length = 60 then (if (bdF t N (s.length + 1)).1 = true then _ else _) else _) else _) = _
  rw [if_pos rfl, if_pos (by omega), if_pos b1]
  show (true, (bdF t N (s.length + 1)).2.1, setL (setL (upS (zeT S 0) φ) (7 * 0) (if chT t N s.length = 62 then 0 else 1)) (7 * 0 + 1) (miS t N (s.length + 1) * (bdF t N (s.length + 1)).2.2)) = _
  rw [b2, b3, h1]
  rfl
/-- the clause alone -/
theorem alF_1 {n v : Nat} {s : List Int} {φ S : Nat → Int} {cm bd : Int} (w : suP n s φ v) (hs : s ≠ []) (hc : cm = 62 ∨ cm = 60) (hb : -99 ≤ bd ∧ bd ≤ 99) : alF (teF (wcF s cm bd)) (wcF s cm bd).length n 4 0 0 S = (true, (wcF s cm bd).length, 1, ruS S φ (if cm = 62 then 0 else 1) bd) := by
  have e := clF_ok (S := S) w hs hc hb (txA_te _) (by rw [chT_n (Nat.le_refl _)]; omega)
  rw [alF, e, if_pos rfl]
  show (if (wcF s cm bd).length ≤ (wcF s cm bd).length then _ else _) = _
  rw [if_pos (Nat.le_refl _)]
theorem teA {s x : List Int} : txA (teF (s ++ x)) (s ++ x).length s := txA_l (txA_te _)
theorem teR {s x : List Int} {i : Nat} (h : i < x.length) : chT (teF (s ++ x)) (s ++ x).length (s.length + i) = x.getD i 0 := txA_r (txA_te _) h
theorem teN {s x : List Int} : chT (teF (s ++ x)) (s ++ x).length (s.length + x.length) = -1 := chT_n (by rw [List.length_append]; omega)
/-- a letter too many -/
theorem alF_x {n v : Nat} {s : List Int} {φ S : Nat → Int} {cm bd : Int} (w : suP n s φ v) (hs : s ≠ []) (hc : cm = 62 ∨ cm = 60) (hb : -99 ≤ bd ∧ bd ≤ 99) : (alF (teF (wcF s cm bd ++ [120])) (wcF s cm bd ++ [120]).length n 4 0 0 S).1 ≠ true ∧ (alF (teF (wcF s cm bd ++ [120])) (wcF s cm bd ++ [120]).length n 4 0 0 S).2.1 = (wcF s cm bd).length := by
  have c0 : chT (teF (wcF s cm bd ++ [120])) (wcF s cm bd ++ [120]).length (wcF s cm bd).length = 120 := teR (i := 0) (by decide : 0 < 1)
  have e := clF_ok (S := S) w hs hc hb (teA (x := [120])) (by rw [c0]; omega)
  have hl : ¬ (wcF s cm bd ++ [120]).length ≤ (wcF s cm bd).length := by
    rw [List.length_append]
    show ¬ _ + 1 ≤ _
    omega
  rw [alF, e, if_pos rfl]
  dsimp only
  rw [if_neg hl, if_neg (by rw [c0]; omega)]
  exact ⟨Bool.false_ne_true, rfl⟩
/-- a clause that ends too early behind it -/
theorem alF_a {n v : Nat} {s : List Int} {φ S : Nat → Int} {cm bd : Int} (h2 : 2 ≤ n) (w : suP n s φ v) (hs : s ≠ []) (hc : cm = 62 ∨ cm = 60) (hb : -99 ≤ bd ∧ bd ≤ 99) : (alF (teF (wcF s cm bd ++ [59, 97])) (wcF s cm bd ++ [59, 97]).length n 4 0 0 S).1 ≠ true ∧ (alF (teF (wcF s cm bd ++ [59, 97])) (wcF s cm bd ++ [59, 97]).length n 4 0 0 S).2.1 = (wcF s cm bd).length + 2 := by
  have c0 : chT (teF (wcF s cm bd ++ [59, 97])) (wcF s cm bd ++ [59, 97]).length (wcF s cm bd).length = 59 := teR (i := 0) (by decide : 0 < 2)
  have c1 : chT (teF (wcF s cm bd ++ [59, 97])) (wcF s cm bd ++ [59, 97]).length ((wcF s cm bd).length + 1) = 97 := teR (i := 1) (by decide : 1 < 2)
  have c2 : chT (teF (wcF s cm bd ++ [59, 97])) (wcF s cm bd ++ [59, 97]).length ((wcF s cm bd).length + 2) = -1 := teN
  have e := clF_ok (S := S) w hs hc hb (teA (x := [59, 97])) (by rw [c0]; omega)
  have hl : ¬ (wcF s cm bd ++ [59, 97]).length ≤ (wcF s cm bd).length := by
    rw [List.length_append]
    show ¬ _ + 2 ≤ _
    omega
  generalize hS1 : ruS S φ (if cm = 62 then 0 else 1) bd = S1 at e
  generalize hT : teF (wcF s cm bd ++ [59, 97]) = t at c0 c1 c2 e ⊢
  generalize hN : (wcF s cm bd ++ [59, 97]).length = N at c0 c1 c2 e hl ⊢
  generalize (wcF s cm bd).length = k at c0 c1 c2 e hl ⊢
  have z : zeT S1 1 (7 * 1 + 2 + 0) = 0 := if_pos (by omega)
  have f1 : tmF t N n 1 1 (k + 1) (zeT S1 1) = _ := tmF_a (p := 0) (by omega) c1 (by rw [z]; omega)
  have d : clF t N n 1 (k + 1) S1 = (false, k + 2, S1) := by
    have m1 : miS t N (k + 1) = 1 := if_neg (by omega)
    have m2 : miK t N (k + 1) = k + 1 := if_neg (by omega)
    have g : smF t N n 1 (k + 1) (zeT S1 1) = (true, k + 2, setL (zeT S1 1) (7 * 1 + 2 + 0) (zeT S1 1 (7 * 1 + 2 + 0) + 1 * 1)) := by
      unfold smF
      rw [m1, m2, f1, if_pos rfl]
      exact smL_s (by show ¬ (chT t N (k + 2) = 43 ∨ chT t N (k + 2) = 45); omega)
    unfold clF
    rw [g, if_pos rfl]
    dsimp only
    rw [if_neg (by omega)]
  rw [alF, e, if_pos rfl]
  dsimp only
  rw [if_neg hl, if_pos ⟨by decide, c0⟩, alF, d, if_neg Bool.false_ne_true]
  exact ⟨Bool.false_ne_true, rfl⟩
/-- a factor too large behind it -/
theorem alF_9 {n v : Nat} {s : List Int} {φ S : Nat → Int} {cm bd : Int} (h2 : 2 ≤ n) (w : suP n s φ v) (hs : s ≠ []) (hc : cm = 62 ∨ cm = 60) (hb : -99 ≤ bd ∧ bd ≤ 99) : (alF (teF (wcF s cm bd ++ [59, 57, 97, 43, 97, 62, 49])) (wcF s cm bd ++ [59, 57, 97, 43, 97, 62, 49]).length n 4 0 0 S).1 ≠ true ∧ (alF (teF (wcF s cm bd ++ [59, 57, 97, 43, 97, 62, 49])) (wcF s cm bd ++ [59, 57, 97, 43, 97, 62, 49]).length n 4 0 0 S).2.1 = (wcF s cm bd).length + 4 := by
  have c0 : chT (teF (wcF s cm bd ++ [59, 57, 97, 43, 97, 62, 49])) (wcF s cm bd ++ [59, 57, 97, 43, 97, 62, 49]).length (wcF s cm bd).length = 59 := teR (i := 0) (by decide : 0 < 7)
  have c1 : chT (teF (wcF s cm bd ++ [59, 57, 97, 43, 97, 62, 49])) (wcF s cm bd ++ [59, 57, 97, 43, 97, 62, 49]).length ((wcF s cm bd).length + 1) = 57 := teR (i := 1) (by decide : 1 < 7)
  have c2 : chT (teF (wcF s cm bd ++ [59, 57, 97, 43, 97, 62, 49])) (wcF s cm bd ++ [59, 57, 97, 43, 97, 62, 49]).length ((wcF s cm bd).length + 2) = 97 := teR (i := 2) (by decide : 2 < 7)
  have c3 : chT (teF (wcF s cm bd ++ [59, 57, 97, 43, 97, 62, 49])) (wcF s cm bd ++ [59, 57, 97, 43, 97, 62, 49]).length ((wcF s cm bd).length + 3) = 43 := teR (i := 3) (by decide : 3 < 7)
  have c4 : chT (teF (wcF s cm bd ++ [59, 57, 97, 43, 97, 62, 49])) (wcF s cm bd ++ [59, 57, 97, 43, 97, 62, 49]).length ((wcF s cm bd).length + 4) = 97 := teR (i := 4) (by decide : 4 < 7)
  have e := clF_ok (S := S) w hs hc hb (teA (x := [59, 57, 97, 43, 97, 62, 49])) (by rw [c0]; omega)
  have hl : ¬ (wcF s cm bd ++ [59, 57, 97, 43, 97, 62, 49]).length ≤ (wcF s cm bd).length := by
    rw [List.length_append]
    show ¬ _ + 7 ≤ _
    omega
  generalize hS1 : ruS S φ (if cm = 62 then 0 else 1) bd = S1 at e
  generalize hT : teF (wcF s cm bd ++ [59, 57, 97, 43, 97, 62, 49]) = t at c0 c1 c2 c3 c4 e ⊢
  generalize hN : (wcF s cm bd ++ [59, 57, 97, 43, 97, 62, 49]).length = N at c0 c1 c2 c3 c4 e hl ⊢
  generalize (wcF s cm bd).length = k at c0 c1 c2 c3 c4 e hl ⊢
  have z : zeT S1 1 (7 * 1 + 2 + 0) = 0 := if_pos (by omega)
  have f1 : tmF t N n 1 1 (k + 1) (zeT S1 1) = _ := tmF_b (p := 0) (f := 9) (by omega) (by omega) c1 c2 (by rw [z]; omega)
  have f2 : tmF t N n 1 1 (k + 3 + 1) (setL (zeT S1 1) (7 * 1 + 2 + 0) (zeT S1 1 (7 * 1 + 2 + 0) + 1 * 9)) = (false, k + 4, setL (zeT S1 1) (7 * 1 + 2 + 0) (zeT S1 1 (7 * 1 + 2 + 0) + 1 * 9)) := by
    have e1 : tmK t N (k + 3 + 1) = k + 4 := if_neg (by show ¬ (48 ≤ chT t N (k + 4) ∧ chT t N (k + 4) ≤ 57); omega)
    have e2 : tmV t N (k + 3 + 1) = 1 := if_neg (by show ¬ (48 ≤ chT t N (k + 4) ∧ chT t N (k + 4) ≤ 57); omega)
    have e3 : ((97 : Int) - 97).toNat = 0 := by decide
    unfold tmF
    rw [e1, e2, c4, e3, if_pos (by omega), setL_eq, z, if_neg (by omega)]
  have d : clF t N n 1 (k + 1) S1 = (false, k + 4, S1) := by
    have m1 : miS t N (k + 1) = 1 := if_neg (by omega)
    have m2 : miK t N (k + 1) = k + 1 := if_neg (by omega)
    have g : (smF t N n 1 (k + 1) (zeT S1 1)).1 = false ∧ (smF t N n 1 (k + 1) (zeT S1 1)).2.1 = k + 4 := by
      unfold smF
      rw [m1, m2, f1, if_pos rfl]
      show (smL t N n 1 (79 + 1) (k + 3) _).1 = false ∧ (smL t N n 1 (79 + 1) (k + 3) _).2.1 = k + 4
      rw [smL, if_pos (Or.inl c3), if_neg (show ¬ chT t N (k + 3) = 45 by omega), f2, if_neg Bool.false_ne_true]
      exact ⟨rfl, rfl⟩
    unfold clF
    rw [if_neg (by rw [g.1]; decide), g.2]
  rw [alF, e, if_pos rfl]
  dsimp only
  rw [if_neg hl, if_pos ⟨by decide, c0⟩, alF, d, if_neg Bool.false_ne_true]
  exact ⟨Bool.false_ne_true, rfl⟩
theorem alF_c : ∀ n : Nat, n < 5 → 2 ≤ n → (alF (teF [97, 62, 45, 49, 48, 48]) 6 n 4 0 0 (fun _ => 0)).1 = false ∧ (alF (teF [97, 62, 45, 49, 48, 48]) 6 n 4 0 0 (fun _ => 0)).2.1 = 5 := by decide +kernel
theorem alF_n : ∀ n : Nat, n < 5 → 2 ≤ n → (alF (teF [97 + (n : Int), 62, 49]) 3 n 4 0 0 (fun _ => 0)).1 = false ∧ (alF (teF [97 + (n : Int), 62, 49]) 3 n 4 0 0 (fun _ => 0)).2.1 = 0 := by decide +kernel
/-! the rule that a clause makes -/
theorem rd_1 {g S φ : Nat → Int} {so bd : Int} (h : 0 ≤ g 1) (h7 : g 1 ≤ 7) : rdG g (ruS S φ so bd) 1 (12 + 7 * (g 1).toNat) = so ∧ rdG g (ruS S φ so bd) 1 (13 + 7 * (g 1).toNat) = bd ∧ ∀ p : Nat, p < 5 → rdG g (ruS S φ so bd) 1 (14 + 7 * (g 1).toNat + p) = φ p := by
  have s0 : ruS S φ so bd (7 * 0) = so := by
    unfold ruS
    rw [setL_ne (by omega), setL_eq]
  have s1 : ruS S φ so bd (7 * 0 + 1) = bd := by
    unfold ruS
    rw [setL_eq]
  have s2 : ∀ p : Nat, p < 5 → ruS S φ so bd (7 * 0 + 2 + p) = φ p := fun p hp => by
    unfold ruS
    rw [setL_ne (by omega), setL_ne (by omega), upS_a hp]
  have e : ∀ i, rdG g (ruS S φ so bd) 1 i = fcG (addG g so bd) (ruS S φ so bd) (g 1).toNat 0 5 i := fun i => by
    show fcG (addG g (ruS S φ so bd (7 * 0)) (ruS S φ so bd (7 * 0 + 1))) _ _ _ _ i = _
    rw [s0, s1]
    rfl
  refine ⟨?_, ?_, fun p hp => ?_⟩
  · rw [e]
    unfold fcG addG
    rw [if_neg (by omega), if_neg (by omega), if_pos rfl]
  · rw [e]
    unfold fcG addG
    rw [if_neg (by omega), if_neg (by omega), if_neg (by omega), if_pos rfl]
  · rw [e]
    unfold fcG
    rw [if_pos (by omega), show 14 + 7 * (g 1).toNat + p - (14 + 7 * (g 1).toNat) = p by omega, s2 p hp]
