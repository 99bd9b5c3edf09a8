/-! Branching, as a function. -/
theorem addR_ok {T : TB} (o : tOK T) {x y : Int} (hR : tR T < 20) (hx : 0 ≤ x ∧ x < 60) (hy : -1000000001 ≤ y ∧ y ≤ 1000000001) : tOK (addR T x y) := by
  obtain ⟨o1, o2, o3, o4, o5, o6, o7, o8, o9, o10, o11, o12, o13⟩ := o
  refine ⟨hR, o2, o3, o4, o5, o6, o7, o8, ?_, ?_, o11, ?_, o13⟩
  · intro i c hi hc
    replace hi : i < tR T + 1 := hi
    show -1000000000 ≤ (if i = tR T then 0 else te T i c) ∧ (if i = tR T then 0 else te T i c) ≤ 1000000000
    split
    · omega
    · exact o9 i c (by omega) hc
  · intro i hi
    replace hi : i < tR T + 1 := hi
    show -1000000001 ≤ (if i = tR T then y else tri T i) ∧ (if i = tR T then y else tri T i) ≤ 1000000001
    split
    · exact hy
    · exact o10 i (by omega)
  · intro i hi
    replace hi : i < tR T + 1 := hi
    show 0 ≤ (if i = tR T then x else tow T i) ∧ (if i = tR T then x else tow T i) < 60
    split
    · exact hx
    · exact o12 i (by omega)
theorem setE_ok {T : TB} (o : tOK T) {r c : Nat} {x : Int} (hx : nr x) : tOK (setE T r c x) := by
  obtain ⟨o1, o2, o3, o4, o5, o6, o7, o8, o9, o10, o11, o12, o13⟩ := o
  refine ⟨o1, o2, o3, o4, o5, o6, o7, o8, ?_, o10, o11, o12, o13⟩
  intro i k hi hk
  show -1000000000 ≤ (if i = r ∧ k = c then x else te T i k) ∧ (if i = r ∧ k = c then x else te T i k) ≤ 1000000000
  split
  · exact hx
  · exact o9 i k hi hk
theorem vC_set {a : Nat} {T : TB} {m : j_M0} {r c : Nat} {x : Int} (v : vC a T m) (hc : c < 5) (h5 : tC T ≤ 5) : vC a (setE T r c x) (j_up m (a + 3) (5 * r + c) x) := by
  obtain ⟨v1, v2, v3, v4, v5, v6, v7, v8, v9, v10⟩ := v
  unfold vC
  simp (disch := omega) only [up_ne]
  refine ⟨v1, v2, v3, v4, v5, v6, v7, ?_, v9, v10⟩
  intro i k hi hk
  replace hk : k < tC T := hk
  show _ = (if i = r ∧ k = c then x else te T i k)
  rw [up_at]
  by_cases e : i = r ∧ k = c
  · rw [if_pos e, if_pos (by omega)]
  · rw [if_neg e, if_neg (by omega)]
    exact v8 i k hi hk
theorem vM_set {a : Nat} {T : TB} {m : j_M0} {r c : Nat} {x : Int} (v : vM a T m) (hc : c < 5) (h5 : tC T ≤ 5) : vM a (setE T r c x) (j_up m (a + 1) (5 * r + c) x) := by
  obtain ⟨v1, v2, v3, v4, v5, v6, v7, v8, v9, v10⟩ := v
  unfold vM
  simp (disch := omega) only [up_ne]
  refine ⟨v1, v2, v3, v4, v5, v6, v7, ?_, v9, v10⟩
  intro i k hi hk
  replace hk : k < tC T := hk
  show _ = (if i = r ∧ k = c then x else te T i k)
  rw [up_at]
  by_cases e : i = r ∧ k = c
  · rw [if_pos e, if_pos (by omega)]
  · rw [if_neg e, if_neg (by omega)]
    exact v8 i k hi hk
def leaR (T : TB) (p : Nat) (v : Int) : TB := setE (addR T (40 + (p : Int)) (-v)) (tR T) p (-1)
def mosR (T : TB) (p : Nat) (v : Int) : TB := setE (addR T (50 + (p : Int)) v) (tR T) p 1
/-- the bounds of the first packs come as rows -/
def bouA (l : Nat → Int) (T : TB) (p : Nat) : TB := if 0 < l p then leaR T p (l p) else T
def bouB (h : Nat → Int) (T : TB) (p : Nat) : TB := if 0 ≤ h p then mosR T p (h p) else T
def bouT (l h : Nat → Int) (T : TB) : Nat → TB
  | 0 => T
  | p + 1 => bouB h (bouA l (bouT l h T p) p) p
def bOK (l h : Nat → Int) : Prop := ∀ p : Nat, p < 5 → l p ≤ 1000000001 ∧ h p ≤ 1000000001 ∧ 0 ≤ l p ∧ -1 ≤ h p
theorem bouA_p {l h : Nat → Int} {T : TB} {p : Nat} (o : tOK T) (b : bOK l h) (hp : p < 5) (hR : tR T < 20) : tOK (bouA l T p) ∧ tC (bouA l T p) = tC T ∧ tR T ≤ tR (bouA l T p) ∧ tR (bouA l T p) ≤ tR T + 1 := by
  have q := b p hp
  unfold bouA
  split
  · exact ⟨setE_ok (addR_ok o hR (by omega) (by omega)) (by unfold nr; omega), rfl, Nat.le_succ _, Nat.le_refl _⟩
  · exact ⟨o, rfl, Nat.le_refl _, Nat.le_succ _⟩
theorem bouB_p {l h : Nat → Int} {T : TB} {p : Nat} (o : tOK T) (b : bOK l h) (hp : p < 5) (hR : tR T < 20) : tOK (bouB h T p) ∧ tC (bouB h T p) = tC T ∧ tR T ≤ tR (bouB h T p) ∧ tR (bouB h T p) ≤ tR T + 1 := by
  have q := b p hp
  unfold bouB
  split
  · exact ⟨setE_ok (addR_ok o hR (by omega) (by omega)) (by unfold nr; omega), rfl, Nat.le_succ _, Nat.le_refl _⟩
  · exact ⟨o, rfl, Nat.le_refl _, Nat.le_succ _⟩
theorem bouT_p {l h : Nat → Int} {T : TB} (o : tOK T) (b : bOK l h) (hR : tR T ≤ 8) : ∀ p : Nat, p ≤ 5 → tOK (bouT l h T p) ∧ tC (bouT l h T p) = tC T ∧ tR (bouT l h T p) ≤ tR T + 2 * p := by
  intro p
  induction p with
  | zero =>
    intro _
    exact ⟨o, rfl, Nat.le_refl _⟩
  | succ p ih =>
    intro hp
    obtain ⟨a1, a2, a3⟩ := ih (by omega)
    obtain ⟨b1, b2, b3, b4⟩ := bouA_p a1 b (show p < 5 by omega) (by omega)
    obtain ⟨c1, c2, c3, c4⟩ := bouB_p b1 b (show p < 5 by omega) (by omega)
    exact ⟨c1, c2.trans (b2.trans a2), by
      show tR (bouB h (bouA l (bouT l h T p) p) p) ≤ _
      omega⟩
/-- rows that packs own are not above the bound -/
def p9 (T : TB) : Prop := ∀ i : Nat, i < tR T → tow T i < 10 → tri T i ≤ 1000000000
theorem bouA_9 {l : Nat → Int} {T : TB} {p : Nat} (o : p9 T) : p9 (bouA l T p) := by
  unfold bouA
  split
  · intro i hi h
    replace hi : i < tR T + 1 := hi
    replace h : (if i = tR T then 40 + (p : Int) else tow T i) < 10 := h
    show (if i = tR T then -(l p) else tri T i) ≤ 1000000000
    split at h
    · omega
    · rename_i e
      rw [if_neg e]
      exact o i (by omega) h
  · exact o
theorem bouB_9 {h : Nat → Int} {T : TB} {p : Nat} (o : p9 T) : p9 (bouB h T p) := by
  unfold bouB
  split
  · intro i hi h0
    replace hi : i < tR T + 1 := hi
    replace h0 : (if i = tR T then 50 + (p : Int) else tow T i) < 10 := h0
    show (if i = tR T then h p else tri T i) ≤ 1000000000
    split at h0
    · omega
    · rename_i e
      rw [if_neg e]
      exact o i (by omega) h0
  · exact o
theorem bouT_9 {l h : Nat → Int} {T : TB} (o : p9 T) : ∀ p : Nat, p9 (bouT l h T p) := by
  intro p
  induction p with
  | zero => exact o
  | succ p ih => exact bouB_9 (bouA_9 ih)
theorem repF_9 (f : Nat) : ∀ T : TB, p9 T → p9 (repF f T).2 := by
  induction f with
  | zero => intro T g; exact g
  | succ f ih =>
    intro T g
    unfold repF
    split
    · exact g
    · split
      · exact g
      · split
        · rename_i h
          refine ih _ (fun i hi _ => ?_)
          have h1 := h.2
          unfold pivB at h1
          have h2 := (of_decide_eq_true h1).1 i hi
          exact h2.2.2
        · exact g
theorem staF_9 (K : PK) (k : Nat) : p9 (staF K k) := by
  intro i hi h
  replace h : 10 + (i : Int) < 10 := h
  omega
theorem rightF_9 {T : TB} (o : p9 T) {x : Int} (hx : x < 10) : rightF T x ≤ 1000000000 := by
  have h := ff_b (fun i => decide (tow T i = x)) (tR T) 0
  unfold rightF
  split
  · omega
  · rename_i e
    unfold rowF at e ⊢
    rcases h with h | ⟨h1, h2, h3⟩
    · omega
    · have h4 := of_decide_eq_true h3
      exact o _ (by omega) (by omega)
theorem rightF_0 {T : TB} (h : ∀ i : Nat, i < tR T → 0 ≤ tri T i) (x : Int) : 0 ≤ rightF T x := by
  have h1 := rowF_b T x
  unfold rightF
  split
  · omega
  · exact h _ (by omega)
/-! the tree -/
/-- nodes, pivots; depths; leasts; mosts; waits; tables -/
abbrev TS : Type := (Nat × Int) × (Nat → Int) × (Nat → Nat → Int) × (Nat → Nat → Int) × (Nat → Int) × (Nat → TB)
def sN (t : TS) : Nat := t.1.1
def sP (t : TS) : Int := t.1.2
def sd (t : TS) : Nat → Int := t.2.1
def sl (t : TS) : Nat → Nat → Int := t.2.2.1
def sh (t : TS) : Nat → Nat → Int := t.2.2.2.1
def sw (t : TS) : Nat → Int := t.2.2.2.2.1
def sT (t : TS) : Nat → TB := t.2.2.2.2.2
def relR (K : PK) (l h : Nat → Int) : Int × TB := repF 61 (bouT l h (staF K (pR K)) (pN K))
def addN (K : PK) (t : TS) (d0 : Int) (l h : Nat → Int) : TS := ((sN t + 1, sP t + (tP (relR K l h).2 : Int)), (fun k => if k = sN t then d0 else sd t k), (fun k => if k = sN t then l else sl t k), (fun k => if k = sN t then h else sh t k), (fun k => if k = sN t then (if (relR K l h).1 = 3 then 1 else 0) else sw t k), (fun k => if k = sN t then (relR K l h).2 else sT t k))
def offN (t : TS) (k : Nat) : TS := (t.1, sd t, sl t, sh t, (fun i => if i = k then 0 else sw t i), sT t)
def ndI (K : PK) (T : TB) (w : Int) : Prop := tOK T ∧ tC T = pN K ∧ p9 T ∧ (w = 0 ∨ w = 1) ∧ (w = 1 → ∀ i : Nat, i < tR T → 0 ≤ tri T i)
def sI (K : PK) (t : TS) : Prop := sN t ≤ 40 ∧ 0 ≤ sP t ∧ sP t ≤ 60 * (sN t : Int) ∧ (∀ k : Nat, k < sN t → 0 ≤ sd t k ∧ sd t k ≤ (k : Int)) ∧ (∀ k : Nat, k < sN t → bOK (sl t k) (sh t k)) ∧ (∀ k : Nat, k < sN t → ndI K (sT t k) (sw t k))
theorem relR_p {K : PK} (ok : pOK K) {l h : Nat → Int} (b : bOK l h) : ndI K (relR K l h).2 (if (relR K l h).1 = 3 then 1 else 0) ∧ ((relR K l h).1 = 3 ∨ (relR K l h).1 = 0 ∨ (relR K l h).1 = -6) := by
  have w := staF_w ok
  have n5 := ok.2.1
  have n8 := ok.2.2.1
  obtain ⟨a1, a2, a3⟩ := bouT_p w.1 b n8 (pN K) n5
  have q := repF_p 61 _ a1
  refine ⟨⟨q.1, q.2.2.1.trans a2, repF_9 61 _ (bouT_9 (staF_9 K _) _), by split <;> omega, fun h1 i hi => ?_⟩, q.2.2.2.2.2⟩
  refine q.2.2.2.2.1 ?_ i (by rw [← q.2.1]; exact hi)
  split at h1
  · assumption
  · omega
theorem addN_p {K : PK} (ok : pOK K) {t : TS} (s : sI K t) {d0 : Int} {l h : Nat → Int} (hN : sN t < 40) (hd : 0 ≤ d0 ∧ d0 ≤ (sN t : Int)) (b : bOK l h) : sI K (addN K t d0 l h) := by
  obtain ⟨s1, s2, s3, s4, s5, s6⟩ := s
  have r := relR_p ok b
  have o4 := r.1.1.2.2.2.1
  refine ⟨hN, ?_, ?_, fun k hk => ?_, fun k hk => ?_, fun k hk => ?_⟩
  · show 0 ≤ sP t + (tP (relR K l h).2 : Int)
    omega
  · show sP t + (tP (relR K l h).2 : Int) ≤ 60 * ((sN t + 1 : Nat) : Int)
    omega
  · replace hk : k < sN t + 1 := hk
    show 0 ≤ (if k = sN t then d0 else sd t k) ∧ (if k = sN t then d0 else sd t k) ≤ (k : Int)
    split
    · omega
    · exact s4 k (by omega)
  · replace hk : k < sN t + 1 := hk
    show bOK (if k = sN t then l else sl t k) (if k = sN t then h else sh t k)
    by_cases e : k = sN t
    · rw [if_pos e, if_pos e]; exact b
    · rw [if_neg e, if_neg e]; exact s5 k (by omega)
  · replace hk : k < sN t + 1 := hk
    show ndI K (if k = sN t then (relR K l h).2 else sT t k) (if k = sN t then (if (relR K l h).1 = 3 then 1 else 0) else sw t k)
    by_cases e : k = sN t
    · rw [if_pos e, if_pos e]; exact r.1
    · rw [if_neg e, if_neg e]; exact s6 k (by omega)
theorem offN_p {K : PK} {t : TS} (s : sI K t) (k : Nat) : sI K (offN t k) := by
  obtain ⟨s1, s2, s3, s4, s5, s6⟩ := s
  refine ⟨s1, s2, s3, s4, s5, fun i hi => ?_⟩
  obtain ⟨a1, a2, a3, a4, a5⟩ := s6 i hi
  show ndI K (sT t i) (if i = k then 0 else sw t i)
  split
  · exact ⟨a1, a2, a3, Or.inl rfl, fun h => absurd h (by decide)⟩
  · exact ⟨a1, a2, a3, a4, a5⟩
/-- the most hopeful of the first nodes; -1 -/
def hopF (t : TS) : Nat → Int
  | 0 => -1
  | k + 1 => if sw t k ≠ 0 ∧ (hopF t k < 0 ∨ tB (sT t k) * tD (sT t (hopF t k).toNat) < tB (sT t (hopF t k).toNat) * tD (sT t k)) then (k : Int) else hopF t k
theorem hopF_b (t : TS) (k : Nat) : hopF t k = -1 ∨ (0 ≤ hopF t k ∧ hopF t k < (k : Int) ∧ sw t (hopF t k).toNat ≠ 0) := by
  induction k with
  | zero => left; rfl
  | succ k ih =>
    unfold hopF
    split
    · rename_i h
      right
      exact ⟨by omega, by omega, h.1⟩
    · omega
/-- the whole part of a pack in a node -/
def whoF (t : TS) (k p : Nat) : Int := rightF (sT t k) (p : Int) / tD (sT t k)
def setL (l : Nat → Int) (p : Nat) (v : Int) : Nat → Int := fun q => if q = p then v else l q
/-- a node is split: STUCK (false) or not -/
def splF (K : PK) (t : TS) (k p : Nat) : Bool × TS :=
  if sN t < 40 then
    let t1 := addN K t (sd t k + 1) (sl t k) (setL (sh t k) p (whoF t k p))
    if (relR K (sl t k) (setL (sh t k) p (whoF t k p))).1 = -6 then (false, t1)
    else if sN t + 1 < 40 then
      let t2 := addN K t1 (sd t k + 1) (setL (sl t k) p (whoF t k p + 1)) (sh t k)
      (decide ((relR K (setL (sl t k) p (whoF t k p + 1)) (sh t k)).1 ≠ -6), t2)
    else (false, t1)
  else (false, t)
def groF (K : PK) : Nat → TS → Int × TS
  | 0, t => (-6, t)
  | f + 1, t => if hopF t (sN t) < 0 then (-5, t) else if partP (sT t (hopF t (sN t)).toNat) < 0 then (hopF t (sN t), t) else if (splF K (offN t (hopF t (sN t)).toNat) (hopF t (sN t)).toNat (partP (sT t (hopF t (sN t)).toNat)).toNat).1 = true then groF K f (splF K (offN t (hopF t (sN t)).toNat) (hopF t (sN t)).toNat (partP (sT t (hopF t (sN t)).toNat)).toNat).2 else (-6, (splF K (offN t (hopF t (sN t)).toNat) (hopF t (sN t)).toNat (partP (sT t (hopF t (sN t)).toNat)).toNat).2)
def t00 : TS := ((0, 0), fun _ => 0, fun _ _ => 0, fun _ _ => -1, fun _ => 0, fun _ => ((0, 1, 0, 0, 1), fun _ => 0, fun _ => 0, fun _ _ => 0, fun _ => 0, fun _ => 0))
def t01 (K : PK) : TS := addN K t00 0 (fun _ => 0) (fun _ => -1)
/-- BRANCHED -/
def braF (K : PK) : Int × TS := if (relR K (fun _ => 0) (fun _ => -1)).1 = -6 then (-6, t01 K) else groF K 21 (t01 K)
theorem t00_p (K : PK) : sI K t00 := ⟨Nat.zero_le _, by decide, by decide, fun k h => absurd h (Nat.not_lt_zero k), fun k h => absurd h (Nat.not_lt_zero k), fun k h => absurd h (Nat.not_lt_zero k)⟩
theorem b0_ok : bOK (fun _ => 0) (fun _ => -1) := fun p _ => by
  show (0 : Int) ≤ 1000000001 ∧ (-1 : Int) ≤ 1000000001 ∧ (0 : Int) ≤ 0 ∧ (-1 : Int) ≤ -1
  omega
theorem t01_p {K : PK} (ok : pOK K) : sI K (t01 K) := addN_p ok (t00_p K) (by decide) (by decide) b0_ok
theorem whoF_r {K : PK} {t : TS} (s : sI K t) {k p : Nat} (hk : k < sN t) (hp : p < 10) (hw : sw t k ≠ 0) : 0 ≤ whoF t k p ∧ whoF t k p ≤ 1000000000 ∧ 0 ≤ rightF (sT t k) (p : Int) ∧ rightF (sT t k) (p : Int) ≤ 1000000000 := by
  obtain ⟨a1, a2, a3, a4, a5⟩ := s.2.2.2.2.2 k hk
  have h1 := rightF_0 (a5 (by omega)) (p : Int)
  have h2 := rightF_9 a3 (x := (p : Int)) (by omega)
  have d1 := a1.2.2.2.2.1
  have h3 := ed_r (x := rightF (sT t k) (p : Int)) (y := tD (sT t k)) (by omega)
  unfold whoF
  omega
theorem partP_b (T : TB) : -1 ≤ partP T ∧ partP T < (tC T : Int) := by
  have := ff_b (fun p => decide (rightF T (p : Int) % tD T ≠ 0)) (tC T) 0
  unfold partP
  omega
theorem setL_h {l h : Nat → Int} (b : bOK l h) {p : Nat} {v : Int} (hv : 0 ≤ v ∧ v ≤ 1000000000) : bOK l (setL h p v) := by
  intro q hq
  have := b q hq
  unfold setL
  split <;> omega
theorem setL_l {l h : Nat → Int} (b : bOK l h) {p : Nat} {v : Int} (hv : 0 ≤ v ∧ v ≤ 1000000000) : bOK (setL l p (v + 1)) h := by
  intro q hq
  have := b q hq
  unfold setL
  split <;> omega
