/-! Solving, as a function. -/
/-- whether a cut by row r can be told -/
noncomputable def tellB (K : PK) (U : CU) (T : TB) (r : Nat) : Prop := ∀ p : Nat, p ≤ pN K → nr (sumF K U T r p (tC T))
noncomputable def nexT (U : CU) (T : TB) (r : Nat) : Int × TB := repF 61 (midC T (20 + (cN U : Int)) r (tC T))
/-- the solving, n more cuts allowed -/
noncomputable def workF (K : PK) : Nat → Int → TB → CU → Int × TB × CU
  | 0, s, T, U => if s = 3 then (if partF T < 0 then 1 else 2, T, U) else (s, T, U)
  | n + 1, s, T, U => if s = 3 then if partF T < 0 then (1, T, U) else @ite _ (tellB K U T (partF T).toNat) (Classical.propDecidable _) (workF K n (nexT U T (partF T).toNat).1 (nexT U T (partF T).toNat).2 (mkU K U T (partF T).toNat)) (-6, T, U) else (s, T, U)
theorem workF_n {K : PK} {n : Nat} {s : Int} {T : TB} {U : CU} (h : s ≠ 3) : workF K n s T U = (s, T, U) := by
  cases n with
  | zero => unfold workF; rw [if_neg h]
  | succ n => unfold workF; rw [if_neg h]
theorem workF_w {K : PK} {n : Nat} {T : TB} {U : CU} (h : partF T < 0) : workF K n 3 T U = (1, T, U) := by
  cases n with
  | zero => unfold workF; rw [if_pos rfl, if_pos h]
  | succ n => unfold workF; rw [if_pos rfl, if_pos h]
theorem workF_2 {K : PK} {T : TB} {U : CU} (h : ¬ partF T < 0) : workF K 0 3 T U = (2, T, U) := by
  unfold workF; rw [if_pos rfl, if_neg h]
theorem workF_y {K : PK} {n : Nat} {T : TB} {U : CU} (h : ¬ partF T < 0) (h2 : tellB K U T (partF T).toNat) : workF K (n + 1) 3 T U = workF K n (nexT U T (partF T).toNat).1 (nexT U T (partF T).toNat).2 (mkU K U T (partF T).toNat) := by
  rw [workF, if_pos rfl, if_neg h, if_pos h2]
theorem workF_f {K : PK} {n : Nat} {T : TB} {U : CU} (h : ¬ partF T < 0) (h2 : ¬ tellB K U T (partF T).toNat) : workF K (n + 1) 3 T U = (-6, T, U) := by
  rw [workF, if_pos rfl, if_neg h, if_neg h2]
/-- what holds of a table and its cuts -/
def wI (K : PK) (U : CU) (T : TB) : Prop := tOK T ∧ tC T = pN K ∧ tR T = pR K + cN U ∧ cOK (pN K) U ∧ gOK K U T
theorem pivF_g {K : PK} {U : CU} {T : TB} {r c : Nat} (g : gOK K U T) (hr : r < tR T) (hc : c < tC T) : gOK K U (pivF T r c) := by
  refine ⟨fun i hi => ?_, fun k hk => ?_⟩
  · show good K U (if i = r then tos T c else tow T i)
    split
    · exact g.2 c hc
    · exact g.1 i hi
  · show good K U (if k = c then tow T r else tos T k)
    split
    · exact g.1 r hr
    · exact g.2 k hk
theorem repF_g {K : PK} {U : CU} (f : Nat) : ∀ T : TB, gOK K U T → gOK K U (repF f T).2 := by
  induction f with
  | zero => intro T g; exact g
  | succ f ih =>
    intro T g
    unfold repF
    have b1 := lowF_b T (tR T)
    have b2 := nearF_b T (lowF T (tR T)).toNat (tC T)
    split
    · exact g
    · split
      · exact g
      · split
        · exact ih _ (pivF_g g (by omega) (by omega))
        · exact g
theorem midC_g {K : PK} {U : CU} {T : TB} (g : gOK K U T) (r c : Nat) : gOK K (mkU K U T r) (midC T (20 + (cN U : Int)) r c) := by
  have w : ∀ x, good K U x → good K (mkU K U T r) x := fun x h => by
    unfold good at h ⊢
    have e : cN (mkU K U T r) = cN U + 1 := rfl
    rw [e]
    omega
  refine ⟨fun i hi => ?_, fun k hk => w _ (g.2 k hk)⟩
  show good K (mkU K U T r) (if i = tR T then 20 + (cN U : Int) else tow T i)
  split
  · unfold good
    have e : cN (mkU K U T r) = cN U + 1 := rfl
    rw [e]
    omega
  · exact w _ (g.1 i (by
      replace hi : i < tR T + 1 := hi
      omega))
def U0 : CU := (0, fun _ _ => 0, fun _ _ => 0, fun _ => 0)
theorem U0_ok (n : Nat) : cOK n U0 := by
  refine ⟨Nat.zero_le _, fun k h => absurd h (Nat.not_lt_zero k), fun k p h => absurd h (Nat.not_lt_zero k), fun k s h => absurd h (Nat.not_lt_zero k)⟩
theorem staF_w {K : PK} (ok : pOK K) : wI K U0 (staF K (pR K)) := by
  obtain ⟨a1, a2, a3, a4, a5, a6⟩ := ok
  refine ⟨⟨?_, a1, a2, Nat.zero_le _, (by show (1 : Int) ≤ 1; decide), (by show (1 : Int) ≤ 1000000000; decide), (by show (0 : Int) ≤ 0; decide), (by show (0 : Int) ≤ 1000000000; decide), ?_, ?_, ?_, ?_, ?_⟩, rfl, rfl, U0_ok _, ⟨?_, ?_⟩⟩
  · show pR K ≤ 20
    omega
  · intro i c hi hc
    have := a5 i c hi hc
    show -1000000000 ≤ pP K i c ∧ pP K i c ≤ 1000000000
    omega
  · intro i hi
    have := a6 i hi
    show -1000000001 ≤ pL K i ∧ pL K i ≤ 1000000001
    omega
  · intro c hc
    have := a4 c hc
    show 0 ≤ pC K c ∧ pC K c ≤ 1000000000
    omega
  · intro i hi
    replace hi : i < pR K := hi
    show 0 ≤ 10 + (i : Int) ∧ 10 + (i : Int) < 60
    omega
  · intro c hc
    replace hc : c < pN K := hc
    show 0 ≤ (c : Int) ∧ (c : Int) < 60
    omega
  · intro i hi
    replace hi : i < pR K := hi
    show good K U0 (10 + (i : Int))
    unfold good
    omega
  · intro c hc
    replace hc : c < pN K := hc
    show good K U0 (c : Int)
    unfold good
    omega
theorem wI_rep {K : PK} {U : CU} {T : TB} (w : wI K U T) : wI K U (repF 61 T).2 := by
  obtain ⟨a1, a2, a3, a4, a5⟩ := w
  have q := repF_p 61 T a1
  exact ⟨q.1, q.2.2.1.trans a2, q.2.1.trans a3, a4, repF_g 61 T a5⟩
theorem wI_mid {K : PK} {U : CU} {T : TB} (ok : pOK K) (w : wI K U T) (h : cN U < 12) {r : Nat} (ht : tellB K U T r) : wI K (mkU K U T r) (midC T (20 + (cN U : Int)) r (tC T)) := by
  obtain ⟨a1, a2, a3, a4, a5⟩ := w
  have := ok.2.2.1
  refine ⟨midC_ok a1 (by omega) (by omega), a2, ?_, mkU_ok a1 a4 h ht, midC_g a5 _ _⟩
  show tR T + 1 = pR K + (cN U + 1)
  omega
/-- what the solving ends with -/
theorem workF_p {K : PK} (ok : pOK K) : ∀ (n : Nat) (s : Int) (T : TB) (U : CU), wI K U T → (s = 3 → cN U + n ≤ 12 ∧ ∀ i : Nat, i < tR T → 0 ≤ tri T i) → (s = 3 ∨ s = 0 ∨ s = -6) → wI K (workF K n s T U).2.2 (workF K n s T U).2.1 ∧ ((workF K n s T U).1 = 1 ∨ (workF K n s T U).1 = 2 ∨ (workF K n s T U).1 = 0 ∨ (workF K n s T U).1 = -6) ∧ ((workF K n s T U).1 = 1 → partF (workF K n s T U).2.1 < 0 ∧ ∀ i : Nat, i < tR (workF K n s T U).2.1 → 0 ≤ tri (workF K n s T U).2.1 i) := by
  intro n
  induction n with
  | zero =>
    intro s T U w h hs
    by_cases e : s = 3
    · subst e
      by_cases e2 : partF T < 0
      · rw [workF_w e2]
        exact ⟨w, Or.inl rfl, fun _ => ⟨e2, (h rfl).2⟩⟩
      · rw [workF_2 e2]
        exact ⟨w, Or.inr (Or.inl rfl), fun h => absurd (show (2 : Int) = 1 from h) (by decide)⟩
    · rw [workF_n e]
      refine ⟨w, ?_, fun h => ?_⟩
      · show s = 1 ∨ s = 2 ∨ s = 0 ∨ s = -6
        omega
      · replace h : s = 1 := h
        omega
  | succ n ih =>
    intro s T U w h hs
    by_cases e : s = 3
    · subst e
      by_cases e2 : partF T < 0
      · rw [workF_w e2]
        exact ⟨w, Or.inl rfl, fun _ => ⟨e2, (h rfl).2⟩⟩
      · by_cases e3 : tellB K U T (partF T).toNat
        · rw [workF_y e2 e3]
          have h1 := (h rfl).1
          have w2 := wI_mid ok w (by omega) e3
          have q := repF_p 61 _ w2.1
          refine ih _ _ _ (wI_rep w2) (fun h3 => ⟨?_, ?_⟩) q.2.2.2.2.2
          · show cN U + 1 + n ≤ 12
            omega
          · intro i hi
            exact q.2.2.2.2.1 h3 i (by rw [← q.2.1]; exact hi)
        · rw [workF_f e2 e3]
          exact ⟨w, Or.inr (Or.inr (Or.inr rfl)), fun h => absurd (show (-6 : Int) = 1 from h) (by decide)⟩
    · rw [workF_n e]
      refine ⟨w, ?_, fun h => ?_⟩
      · show s = 1 ∨ s = 2 ∨ s = 0 ∨ s = -6
        omega
      · replace h : s = 1 := h
        omega
noncomputable def solF (K : PK) (k : Nat) : Int × TB × CU := workF K k (repF 61 (staF K (pR K))).1 (repF 61 (staF K (pR K))).2 U0
theorem solF_p {K : PK} (ok : pOK K) {k : Nat} (hk : k ≤ 12) : wI K (solF K k).2.2 (solF K k).2.1 ∧ ((solF K k).1 = 1 ∨ (solF K k).1 = 2 ∨ (solF K k).1 = 0 ∨ (solF K k).1 = -6) ∧ ((solF K k).1 = 1 → partF (solF K k).2.1 < 0 ∧ ∀ i : Nat, i < tR (solF K k).2.1 → 0 ≤ tri (solF K k).2.1 i) := by
  have w := staF_w ok
  have q := repF_p 61 _ w.1
  refine workF_p ok k _ _ _ (wI_rep w) (fun h3 => ⟨?_, ?_⟩) q.2.2.2.2.2
  · show 0 + k ≤ 12
    omega
  · intro i hi
    exact q.2.2.2.2.1 h3 i (by rw [← q.2.1]; exact hi)
/-- the worth -/
noncomputable def worF (K : PK) : Int := if (solF K 12).1 = 1 then tB (solF K 12).2.1 / tD (solF K 12).2.1 else if (solF K 12).1 = 0 then -5 else -6
theorem kpt_at {W : Nat → Nat → Prop} {m m' : j_M0} (h : kpt W m m') {b s : Nat} (w : ¬ W b s) : m' b s = m b s := by
  rcases h b s with e | e
  · exact absurd e w
  · exact e
theorem uC_j {a n : Nat} {U : CU} {m m' : j_M0} (v : uC a n U m) (hn : n ≤ 5) (k : ∀ b s, a ≤ b → b ≤ a + 3 → m' b s = m b s) : uC a n U m' := uC_k v hn (fun b s h h' _ _ _ => k b s h h')
