/-! What the law's end rests on: pure. -/
theorem worF_6 {K : PK} (ok : pOK K) : -6 ≤ worF K := by
  obtain ⟨w, -, -⟩ := solF_p ok (k := 12) (Nat.le_refl _)
  have o := w.1
  have h0 : 0 ≤ tB (solF K 12).2.1 / tD (solF K 12).2.1 := Int.ediv_nonneg o.2.2.2.2.2.2.1 (by have := o.2.2.2.2.1; omega)
  unfold worF
  split
  · omega
  · split <;> decide
theorem ff_no (p : Nat → Bool) : ∀ j k : Nat, ff p j k < 0 → ∀ i : Nat, k ≤ i → i < k + j → p i = false := by
  intro j
  induction j with
  | zero => intro k _ i h1 h2; omega
  | succ j ih =>
    intro k h i h1 h2
    unfold ff at h
    by_cases e : p k = true
    · rw [if_pos e] at h
      omega
    · rw [if_neg e] at h
      by_cases e2 : i = k
      · rw [e2]
        exact Bool.eq_false_iff.mpr e
      · exact ih (k + 1) h i (by omega) (by omega)
/-- a whole answer: the amount is what is right, divided -/
theorem am_w {T : TB} {x : Int} (o : tOK T) (hx : x < 10) (h : partF T < 0) (h0 : ∀ i : Nat, i < tR T → 0 ≤ tri T i) : lwF (rightF T x) (tD T) 0 = rightF T x / tD T := by
  have hD := o.2.2.2.2.1
  have key : ∃ a : Int, 0 ≤ a ∧ rightF T x = tD T * a := by
    unfold rightF
    by_cases e : rowF T x < 0
    · rw [if_pos e]
      exact ⟨0, Int.le_refl _, by omega⟩
    · rw [if_neg e]
      have b := rowF_b T x
      obtain ⟨r, hr⟩ : ∃ r : Nat, rowF T x = r := ⟨_, (Int.toNat_of_nonneg (by omega)).symm⟩
      have ht : tow T r = x := by
        have h1 := ff_b (fun i => decide (tow T i = x)) (tR T) 0
        have h2 : ff (fun i => decide (tow T i = x)) (tR T) 0 = (r : Int) := hr
        rcases h1 with h1 | ⟨-, -, h1⟩
        · omega
        · rw [h2, Int.toNat_natCast] at h1
          exact of_decide_eq_true h1
      have h3 := ff_no _ _ _ h r (Nat.zero_le r) (by omega)
      have h4 := of_decide_eq_false h3
      rw [hr, Int.toNat_natCast]
      have h5 : tri T r % tD T = 0 := by
        by_cases e2 : tri T r % tD T = 0
        · exact e2
        · exact absurd ⟨by omega, e2⟩ h4
      have h6 := h0 r (by omega)
      refine ⟨tri T r / tD T, Int.ediv_nonneg h6 (by omega), ?_⟩
      have := Int.mul_ediv_add_emod (tri T r) (tD T)
      omega
  obtain ⟨a, ha, e⟩ := key
  rw [e]
  obtain ⟨d, hd⟩ := Int.eq_ofNat_of_zero_le (show 0 ≤ tD T by omega)
  obtain ⟨c, hc⟩ := Int.eq_ofNat_of_zero_le ha
  subst hc
  rw [hd] at hD ⊢
  have g1 : gcF ((d : Int) * (c : Int)) (d : Int) = d := by
    unfold gcF
    rw [Int.toNat_natCast, ← Int.natCast_mul, Int.natAbs_natCast]
    exact Nat.gcd_eq_left (Nat.dvd_mul_right d c)
  unfold lwF
  rw [if_pos rfl, g1, Int.mul_ediv_cancel_left _ (by omega), Int.tdiv_eq_ediv_of_nonneg (Int.mul_nonneg (by omega) (by omega)), Int.mul_ediv_cancel_left _ (by omega)]
theorem lw_b {x y p : Int} (hx : 0 ≤ x ∧ x ≤ 1000) (hy : 0 < y ∧ y ≤ 1000) : 0 ≤ lwF x y p ∧ lwF x y p ≤ 1000 := by
  unfold lwF
  obtain ⟨a, ha⟩ := Int.eq_ofNat_of_zero_le hx.1
  obtain ⟨b, hb⟩ := Int.eq_ofNat_of_zero_le (show 0 ≤ y by omega)
  subst ha
  subst hb
  have h : ∀ z d : Nat, z ≤ 1000 → 0 ≤ (z : Int).tdiv (d : Int) ∧ (z : Int).tdiv (d : Int) ≤ 1000 := fun z d hz => by
    rw [Int.tdiv_eq_ediv_of_nonneg (by omega)]
    have h1 := Nat.div_le_self z d
    have h2 : (z : Int) / (d : Int) = ((z / d : Nat) : Int) := rfl
    rw [h2]
    exact ⟨Int.natCast_nonneg _, (Int.ofNat_le.mpr (Nat.le_trans h1 hz) : ((z / d : Nat) : Int) ≤ ((1000 : Nat) : Int))⟩
  split
  · exact h a _ (by omega)
  · exact h b _ (by omega)
theorem mean_x {x y : Int} (hx : 0 ≤ x) (hy : 0 < y) : lwF x y 0 * y = lwF x y 1 * x := by
  obtain ⟨a, ha⟩ := Int.eq_ofNat_of_zero_le hx
  obtain ⟨b, hb⟩ := Int.eq_ofNat_of_zero_le (show 0 ≤ y by omega)
  subst ha
  subst hb
  unfold lwF gcF
  rw [if_pos rfl, if_neg (by decide), Int.toNat_natCast, Int.natAbs_natCast, Int.tdiv_eq_ediv_of_nonneg (by omega), Int.tdiv_eq_ediv_of_nonneg (by omega)]
  obtain ⟨u, hu⟩ := Nat.gcd_dvd_left b a
  obtain ⟨v, hv⟩ := Nat.gcd_dvd_right b a
  have hg : 0 < Nat.gcd b a := Nat.gcd_pos_of_pos_left _ (by omega)
  generalize Nat.gcd b a = g at hu hv hg
  subst hu
  subst hv
  rw [Int.natCast_mul, Int.natCast_mul, Int.mul_ediv_cancel_left _ (by omega), Int.mul_ediv_cancel_left _ (by omega), Int.mul_left_comm, Int.mul_left_comm (u : Int), Int.mul_comm (v : Int)]
theorem me_3 {n : Nat} {co g : Nat → Int} (hN : lNk n co) (hc : ∀ p : Nat, p < n → g (7 + p) = co p) : meS g n = co 0 + co 1 + co 2 + co 3 := by
  have hn' : n = 2 ∨ n = 3 ∨ n = 4 := by
    have := hN.1
    omega
  rcases hn' with rfl | rfl | rfl
  · show 0 + g (7 + 0) + g (7 + 1) = _
    rw [hc 0 (by omega), hc 1 (by omega), hN.2.2 2 (by omega) (by omega), hN.2.2 3 (by omega) (by omega)]
    omega
  · show 0 + g (7 + 0) + g (7 + 1) + g (7 + 2) = _
    rw [hc 0 (by omega), hc 1 (by omega), hc 2 (by omega), hN.2.2 3 (by omega) (by omega)]
    omega
  · show 0 + g (7 + 0) + g (7 + 1) + g (7 + 2) + g (7 + 3) = _
    rw [hc 0 (by omega), hc 1 (by omega), hc 2 (by omega), hc 3 (by omega)]
    omega
theorem pkG_e {g g' : Nat → Int} (h0 : g' 0 = g 0) (h1 : g' 1 = g 1) (h : ∀ z : Nat, 7 ≤ z → g' z = g z) : pkG g' = pkG g := by
  unfold pkG
  rw [h0, h1]
  refine Prod.ext rfl (Prod.ext (funext fun p => h _ (by omega)) (Prod.ext (funext fun r => funext fun p => ?_) (funext fun r => ?_)))
  · show (if g' (12 + 7 * r) = 0 then -(g' (14 + 7 * r + p)) else g' (14 + 7 * r + p)) = (if g (12 + 7 * r) = 0 then -(g (14 + 7 * r + p)) else g (14 + 7 * r + p))
    rw [h (12 + 7 * r) (by omega), h (14 + 7 * r + p) (by omega)]
  · show (if g' (12 + 7 * r) = 0 then -(g' (13 + 7 * r)) else g' (13 + 7 * r)) = (if g (12 + 7 * r) = 0 then -(g (13 + 7 * r)) else g (13 + 7 * r))
    rw [h (12 + 7 * r) (by omega), h (13 + 7 * r) (by omega)]
/-- nothing planned: what stands in the plan's rows is nothing -/
theorem RQ_e {xs : Nat → Int32} {g g' : Nat → Int} {q : Option (Nat → Int)} {t : Nat → Int} {N : Nat} {m : j_M0} (w : Rel xs g q t N m) (h5 : g 5 = 0) (e : ∀ z : Nat, ¬ (86 ≤ z ∧ z < 110) → g' z = g z) : Rel xs g' q t N m := by
  obtain ⟨w1, w2, w3, w4, w5, w6, w7⟩ := w
  have R : gR g' := by
    obtain ⟨h1, h2, h3, h4, h5, h6, h7⟩ := w2
    unfold gR
    rw [e 0 (by omega), e 1 (by omega)]
    refine ⟨h1, h2, h3, h4, fun p hp => ?_, fun q hq => ?_, fun q p hq hp => ?_⟩
    · rw [e _ (by omega)]; exact h5 p hp
    · rw [e _ (by omega), e _ (by omega)]; exact h6 q hq
    · rw [e _ (by omega)]; exact h7 q p hq hp
  have g0 := w2.1
  have g0' := w2.2.1
  have g1' := w2.2.2.2.1
  refine ⟨w1, R, ?_, ?_, w5, w6, w7⟩
  · obtain ⟨x1, x2, x3, x4, x5, x6, x7, x8, x9, x10⟩ := w3
    refine ⟨fun r hr => ?_, ?_, ?_, ?_, fun k hk => ?_, ?_, fun k hk => ?_, ?_, fun k hk => ?_, fun i j hij hj => ?_⟩
    · rw [e _ (by omega)]; exact x1 r hr
    · rw [e 2 (by omega)]; exact x2
    · rw [e 3 (by omega)]; exact x3
    · rw [e 4 (by omega)]; exact x4
    · rw [e 4 (by omega)] at hk
      rw [e (76 + 2 * k) (by omega), e (77 + 2 * k) (by omega), e 0 (by omega)]
      exact x5 k hk
    · rw [e 5 (by omega)]; exact x6
    · rw [e 5 (by omega)] at hk
      omega
    · rw [e 6 (by omega)]; exact x8
    · rw [e 6 (by omega)] at hk
      rw [e (110 + 2 * k) (by omega), e (111 + 2 * k) (by omega), e 0 (by omega)]
      exact x9 k hk
    · rw [e 6 (by omega)] at hj
      rw [e (110 + 2 * i) (by omega), e (110 + 2 * j) (by omega)]
      exact x10 i j hij hj
  · obtain ⟨s1, s2, s3, s4, s5, s6, s7, s8, s9⟩ := w4
    refine ⟨pkR_g s1 (fun z hz => e z (by omega)) g1' g0', ofR_g s2 g0' (fun z hz => e z (by omega)), fun r hr => ?_, ?_, ?_, ?_, fun k hk => ?_, ?_, fun k hk => ?_⟩
    · rw [e _ (by omega)]; exact s3 r hr
    · rw [e 2 (by omega)]; exact s4
    · rw [e 3 (by omega)]; exact s5
    · rw [e 4 (by omega)]; exact s6
    · rw [e 4 (by omega)] at hk
      rw [e (76 + 2 * k) (by have := w3.2.2.2.1; omega), e (77 + 2 * k) (by have := w3.2.2.2.1; omega)]
      exact s7 k hk
    · rw [e 5 (by omega)]; exact s8
    · rw [e 5 (by omega)] at hk
      omega
/-! a plan of three, what it ends as -/
def rw1 (g : Nat → Int) (r : Nat) (b : Int) : Nat → Int := gU (gU (gU (gU g 86 0) 87 (r : Int)) 88 b) 5 1
def rw2 (g : Nat → Int) (r : Nat) (b : Int) : Nat → Int := gU (gU (gU (gU (rw1 g r b) 89 1) 90 0) 91 7) 5 2
def rw3 (g : Nat → Int) (r : Nat) (b : Int) : Nat → Int := gU (gU (gU (gU (rw2 g r b) 92 2) 93 (r : Int)) 94 3) 5 3
theorem rw1_ne {g : Nat → Int} {r : Nat} {b : Int} {z : Nat} (h : z ≠ 5) (h2 : ¬ (86 ≤ z ∧ z < 95)) : rw1 g r b z = g z := by
  unfold rw1
  rw [gU_ne (by omega), gU_ne (by omega), gU_ne (by omega), gU_ne (by omega)]
theorem rw2_ne {g : Nat → Int} {r : Nat} {b : Int} {z : Nat} (h : z ≠ 5) (h2 : ¬ (86 ≤ z ∧ z < 95)) : rw2 g r b z = g z := by
  unfold rw2
  rw [gU_ne (by omega), gU_ne (by omega), gU_ne (by omega), gU_ne (by omega), rw1_ne h h2]
theorem rw3_ne {g : Nat → Int} {r : Nat} {b : Int} {z : Nat} (h : z ≠ 5) (h2 : ¬ (86 ≤ z ∧ z < 95)) : rw3 g r b z = g z := by
  unfold rw3
  rw [gU_ne (by omega), gU_ne (by omega), gU_ne (by omega), gU_ne (by omega), rw2_ne h h2]
theorem pl_1 {g : Nat → Int} {r : Nat} {b : Int} (hr : (r : Int) < g 1) : plG (rw1 g r b) (rw1 g r b) (rw1 g r b 5).toNat = gU (rw1 g r b) (13 + 7 * r) b := by
  have e : rw1 g r b 1 = g 1 := rw1_ne (by omega) (by omega)
  obtain ⟨p, hp⟩ : ∃ p, p = rw1 g r b := ⟨_, rfl⟩
  have p5 : p 5 = 1 := by rw [hp]; rfl
  have p0 : p 86 = 0 ∧ p 87 = (r : Int) ∧ p 88 = b := by rw [hp]; exact ⟨rfl, rfl, rfl⟩
  rw [← hp] at e ⊢
  rw [p5]
  show chF p (p 86) (p 87) (p 88) = _
  rw [p0.1, p0.2.1, p0.2.2]
  unfold chF
  rw [if_neg (by decide), if_pos (by omega), if_pos rfl, Int.toNat_natCast]
theorem pl_3 {g : Nat → Int} {r : Nat} {b : Int} (hr : (r : Int) < g 1) (h0 : 0 < g 0) : plG (rw3 g r b) (rw3 g r b) (rw3 g r b 5).toNat = gU (gU (gU (rw3 g r b) (13 + 7 * r) b) (7 + 0) 7) (14 + 7 * r + 0) 3 := by
  have e1 : rw3 g r b 1 = g 1 := rw3_ne (by omega) (by omega)
  have e0 : rw3 g r b 0 = g 0 := rw3_ne (by omega) (by omega)
  obtain ⟨p, hp⟩ : ∃ p, p = rw3 g r b := ⟨_, rfl⟩
  have p5 : p 5 = 3 := by rw [hp]; rfl
  have p0 : p 86 = 0 ∧ p 87 = (r : Int) ∧ p 88 = b := by rw [hp]; exact ⟨rfl, rfl, rfl⟩
  have p1 : p 89 = 1 ∧ p 90 = 0 ∧ p 91 = 7 := by rw [hp]; exact ⟨rfl, rfl, rfl⟩
  have p2 : p 92 = 2 ∧ p 93 = (r : Int) ∧ p 94 = 3 := by rw [hp]; exact ⟨rfl, rfl, rfl⟩
  rw [← hp] at e1 e0 ⊢
  rw [p5]
  show chF (chF (chF p (p 86) (p 87) (p 88)) (p 89) (p 90) (p 91)) (p 92) (p 93) (p 94) = _
  rw [p0.1, p0.2.1, p0.2.2, p1.1, p1.2.1, p1.2.2, p2.1, p2.2.1, p2.2.2]
  have c1 : chF p 0 (r : Int) b = gU p (13 + 7 * r) b := by
    unfold chF
    rw [if_neg (by decide), if_pos (by omega), if_pos rfl, Int.toNat_natCast]
  rw [c1]
  have c2 : chF (gU p (13 + 7 * r) b) 1 0 7 = gU (gU p (13 + 7 * r) b) (7 + 0) 7 := by
    unfold chF
    rw [if_pos rfl, if_pos (by rw [gU_ne (by omega)]; omega)]
    rfl
  rw [c2]
  unfold chF
  rw [if_neg (by decide), if_pos (by rw [gU_ne (by omega), gU_ne (by omega)]; omega), if_neg (by decide), Int.toNat_natCast]
/-! counting -/
theorem cnV_le {p p' : Nat → Bool} (h : ∀ k, p k = true → p' k = true) : ∀ j k : Nat, cnV p j k ≤ cnV p' j k := by
  intro j
  induction j with
  | zero => intro k; exact Int.le_refl _
  | succ j ih =>
    intro k
    have := ih (k + 1)
    unfold cnV
    by_cases e : p k = true
    · rw [if_pos e, if_pos (h k e)]
      omega
    · rw [if_neg e]
      split <;> omega
theorem gU_gU {g : Nat → Int} {i : Nat} {v w : Int} : gU (gU g i v) i w = gU g i w := by
  funext z
  unfold gU
  split <;> rfl
theorem gU_id {g : Nat → Int} {i : Nat} : gU g i (g i) = g := by
  funext z
  unfold gU
  split
  · rename_i h
    rw [h]
  · rfl
theorem dcP (p : Nat → Prop) : ∃ f : Nat → Bool, ∀ k, f k = true ↔ p k := ⟨fun k => @decide (p k) (Classical.propDecidable _), fun k => @decide_eq_true_iff (p k) (Classical.propDecidable _)⟩
theorem cmp_0 {x y : Int} : j_cmp x y = 0 ↔ x = y := by
  unfold j_cmp
  split
  · constructor <;> intro h <;> omega
  · split
    · rename_i h
      exact ⟨fun _ => h, fun _ => rfl⟩
    · rename_i h
      exact ⟨fun h' => absurd h' (by decide), fun h' => absurd h' h⟩
