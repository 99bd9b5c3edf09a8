/-! offer, offered, upTo, dearest, drawn, amount, tape, item. -/
section A3
variable {L : j_B} {xs : Nat → Int32} {g : Nat → Int} {q : Option (Nat → Int)} {t : Nat → Int} {N : Nat} {m : j_M0}
theorem RQ_of (w : Rel xs g q t N m) : ∃ n : Nat, ofX g n ∧ ofR 9 g m ∧ m 9 0 = n ∧ g 6 = n := by
  have x8 := w.2.2.1.2.2.2.2.2.2.2.1
  have o := w.2.2.2.1.2.1
  have hN : g 6 = ((g 6).toNat : Int) := by omega
  exact ⟨(g 6).toNat, ofX_of w.2.1 w.2.2.1 hN, o, o.1.trans hN, hN⟩
theorem RQ_138 (w : Rel xs g q t N m) (x : Int) : c_call 9 138 [jR 2, jI x] (hH L m) = some (some (jI (bI (0 ≤ x ∧ x < tenF (g 0).toNat))), hH L m) := by
  have n := RQ_n w
  have h := Q138 (d := 8) (L := L) (m := m) (x := x) (by omega)
  rw [n.2.2.2.2.1, w.1.2 _ (by omega)] at h
  exact h
/-- a new offer -/
theorem PB121 (w : Rel xs g q t N m) {k : Nat} {x v : Int} (hk : g 6 = k) (h20 : k < 20) (g1 : 0 ≤ x ∧ x < tenF (g 0).toNat) (g2 : 0 ≤ v ∧ v ≤ 999) (hn : ∀ i : Nat, i < k → oC g i ≠ x) : PB L xs q t N m 121 [jI x, jI v] (jI (-5)) (offG g k x v) := by
  obtain ⟨c, ox, o, e9, e6⟩ := RQ_of w
  have nk : k = c := by omega
  subst nk
  have hN := ox.2.1
  have n := RQ_n w
  have wP : vP 4 (pkG g) m := vP_of w.2.1 w.2.2.2.1.1
  have tt := tenF_r (g 0).toNat (by omega)
  have q23 : c_call 9 23 [jR 9, jI x] (hH L m) = _ := (E23 (d := 8)).trans (T23_0.trans (L23 e9 (by omega) k 0 (by omega)))
  have hc : c_call 10 121 [jR 2, jI x, jI v] (hH L m) = j_fin (c_call 9) 121 33 [some (jR 2), some (jI x), some (jI v), none, none] [jI (ff (fun i => decide (m 10 i = x)) k 0)] (hH L m) := by
    refine (E121 (d := 9)).trans ?_
    rw [T121_0, RQ_138 w x]
    simp only [Option.bind_some, Option.toList_some, List.cons_append, List.nil_append]
    rw [bI_t g1, T121_5, if_neg (by decide), if_neg (by omega), if_neg (by omega), q23]
    simp only [Option.bind_some, Option.toList_some, List.cons_append, List.nil_append]
  rcases ff_y (p := fun i => decide (m 10 i = x)) (N := k) with ⟨a1, a2⟩ | ⟨p, a1, a2, a3⟩
  · have q14 : c_call 9 14 [jR 4, jI x] (hH L m) = some (some (jI (cosF g x)), hH L m) := by
      rw [cosF_h]
      exact Q14 (d := 7) wP w.1.2 (by omega)
    have sh : shD 9 k (m 10) (m 11) (m 12) m := ⟨e9, fun i hi => ⟨rfl, rfl, rfl⟩⟩
    obtain ⟨m1, r1, r2, r3⟩ := Q25_9 (d := 7) (L := L) (code := x) (cost := cosF g x) (ask := v) sh (by omega)
    rw [a1, T121_33, if_pos (by decide), if_pos (by omega), q14] at hc
    simp only [Option.bind_some, Option.toList_some, List.cons_append, List.nil_append] at hc
    rw [T121_105, show c_call 9 25 _ (hH L m) = _ from r1] at hc
    simp only [Option.bind_some, Option.toList_some, List.cons_append, List.nil_append, Option.toList_none] at hc
    rw [T121_109] at hc
    have o2 : ofR 9 (offG g k x v) m1 := ofR_new w.2.1 o hN (by omega) (fun i hi => of_decide_eq_false (a2 i hi)) r3
    refine PB_u w hc (kpt_w r2 (fun b z h => by unfold uPQ; omega)) (gR_far (gR_far (gR_far w.2.1 (by omega)) (by omega)) (by omega)) (gX_new w.2.1 w.2.2.1 hN (by omega) g1 g2 hn) (stR_of w.2.1 w.2.2.1 w.2.2.2.1 (fun z h => offG_ne (by omega) (by omega) (by omega)) (fun b z h => kpt_at r2 (by omega)) o2)
  · exfalso
    have c0 : m 10 p = x := of_decide_eq_true a3
    obtain ⟨k2, u1, u2, -⟩ := ofR_i o hN a1
    exact hn k2 u1 (u2.trans c0)
/-- an offer asked anew -/
theorem PB121a (w : Rel xs g q t N m) {n k : Nat} {v : Int} (hg6 : g 6 = n) (hk : k < n) (g2 : 0 ≤ v ∧ v ≤ 999) : PB L xs q t N m 121 [jI (oC g k), jI v] (jI (oA g k)) (gU g (111 + 2 * k) v) := by
  obtain ⟨c, ox, o, e9, e6⟩ := RQ_of w
  have nk : n = c := by omega
  subst nk
  have hN := ox.2.1
  have h20 := ox.2.2.1
  have hd := ox.2.2.2.2
  have nn := RQ_n w
  have g1 := (ox.2.2.2.1 k hk).1
  obtain ⟨x, hx⟩ : ∃ x, x = oC g k := ⟨_, rfl⟩
  rw [← hx] at g1 ⊢
  have q23 : c_call 9 23 [jR 9, jI x] (hH L m) = _ := (E23 (d := 8)).trans (T23_0.trans (L23 e9 (by omega) n 0 (by omega)))
  have hc : c_call 10 121 [jR 2, jI x, jI v] (hH L m) = j_fin (c_call 9) 121 33 [some (jR 2), some (jI x), some (jI v), none, none] [jI (ff (fun i => decide (m 10 i = x)) n 0)] (hH L m) := by
    refine (E121 (d := 9)).trans ?_
    rw [T121_0, RQ_138 w x]
    simp only [Option.bind_some, Option.toList_some, List.cons_append, List.nil_append]
    rw [bI_t g1, T121_5, if_neg (by decide), if_neg (by omega), if_neg (by omega), q23]
    simp only [Option.bind_some, Option.toList_some, List.cons_append, List.nil_append]
  rcases ff_y (p := fun i => decide (m 10 i = x)) (N := n) with ⟨a1, a2⟩ | ⟨p, a1, a2, a3⟩
  · exfalso
    obtain ⟨i, i1, i2, -⟩ := ofR_j o hN hk
    exact of_decide_eq_false (a2 i i1) (i2.symm.trans hx.symm)
  · have c0 : m 10 p = x := of_decide_eq_true a3
    obtain ⟨q9, u1, u2, u3, -⟩ := ofR_i o hN a1
    simp only [Nat.reduceAdd] at u2 u3
    have qk : q9 = k := by
      have e := (u2.trans c0).trans hx
      rcases Nat.lt_trichotomy q9 k with h | h | h
      · exact absurd e (hd q9 k h hk)
      · exact h
      · exact absurd e.symm (hd k q9 h u1)
    rw [qk] at u3
    rw [a2, T121_33, if_neg (by omega), if_pos (by omega), if_pos (by omega), Int.toNat_natCast] at hc
    rw [u3]
    exact PB_u w hc (kpt_up (by unfold uPQ; omega)) (gR_far w.2.1 (by omega)) (gX_ask w.2.1 w.2.2.1 (by omega) g2) (stR_of w.2.1 w.2.2.1 w.2.2.2.1 (fun z h => gU_ne (by omega)) (fun b z h => up_ne (by omega)) (ofR_ask w.2.1 o hN h20 hd hk a1 (hx.symm.trans c0.symm) v))
theorem PB121c (w : Rel xs g q t N m) {x v : Int} (h : ¬ (0 ≤ x ∧ x < tenF (g 0).toNat)) : PB L xs q t N m 121 [jI x, jI v] (jI (-2)) g := by
  refine PB_r w ((E121 (d := 9)).trans ?_)
  rw [T121_0, RQ_138 w x]
  simp only [Option.bind_some, Option.toList_some, List.cons_append, List.nil_append]
  rw [bI_f h, T121_5, if_pos rfl]
theorem PB121v (w : Rel xs g q t N m) {x v : Int} (g1 : 0 ≤ x ∧ x < tenF (g 0).toNat) (h : 999 < v) : PB L xs q t N m 121 [jI x, jI v] (jI (-2)) g := by
  refine PB_r w ((E121 (d := 9)).trans ?_)
  rw [T121_0, RQ_138 w x]
  simp only [Option.bind_some, Option.toList_some, List.cons_append, List.nil_append]
  rw [bI_t g1, T121_5, if_neg (by decide), if_neg (by omega), if_pos h]
/-- what stands on the shelf -/
theorem PB122 (w : Rel xs g q t N m) {p n : Nat} (hn : g 6 = n) (hp : p < n) : c_call 10 122 [jR 2, jI p, jI 0] (hH L m) = some (some (jI (m 10 p)), hH L m) ∧ c_call 10 122 [jR 2, jI p, jI 1] (hH L m) = some (some (jI (m 12 p)), hH L m) ∧ c_call 10 122 [jR 2, jI p, jI 2] (hH L m) = some (some (jI (m 11 p)), hH L m) := by
  obtain ⟨n', ox, o, e9, e6⟩ := RQ_of w
  have h20 := ox.2.2.1
  have h1 : (p : Int) < n' := by omega
  refine ⟨(E122 (d := 9)).trans ?_, (E122 (d := 9)).trans ?_, (E122 (d := 9)).trans ?_⟩
  · rw [T122_0, if_neg (by decide), if_neg (by decide), if_neg (by omega), e9, if_pos h1, if_pos rfl, if_pos (by omega), Int.toNat_natCast]
  · rw [T122_0, if_neg (by decide), if_neg (by decide), if_neg (by omega), e9, if_pos h1, if_neg (by decide), if_pos rfl, if_pos (by omega), Int.toNat_natCast]
  · rw [T122_0, if_neg (by decide), if_neg (by decide), if_neg (by omega), e9, if_pos h1, if_neg (by decide), if_neg (by decide), if_pos (by omega), Int.toNat_natCast]
theorem PB122n (w : Rel xs g q t N m) {n : Nat} (hn : g 6 = n) : c_call 10 122 [jR 2, jI n, jI 0] (hH L m) = some (some (jI (-2)), hH L m) := by
  obtain ⟨n', ox, o, e9, e6⟩ := RQ_of w
  refine (E122 (d := 9)).trans ?_
  rw [T122_0, if_neg (by decide), if_neg (by decide), if_neg (by omega), e9, if_neg (by omega)]
theorem PB123 (w : Rel xs g q t N m) {n : Nat} (hn : g 6 = n) (v : Int) : c_call 10 123 [jR 2, jI v] (hH L m) = some (some (jI (upC (m 11) (m 10) v n)), hH L m) := by
  obtain ⟨n', ox, o, e9, e6⟩ := RQ_of w
  rw [show n = n' by omega]
  exact (E123 (d := 9)).trans (T123_0.trans (L123 (C := c_call 9) (L := L) (v := v) e9 ox.2.2.1 n' 0 (by omega)))
theorem PB124 (w : Rel xs g q t N m) {n : Nat} (hn : g 6 = n) : c_call 10 124 [jR 2] (hH L m) = some (some (jI (if deC (m 11) (m 12) n < 0 then -5 else m 10 (deC (m 11) (m 12) n).toNat)), hH L m) := by
  obtain ⟨n', ox, o, e9, e6⟩ := RQ_of w
  rw [show n = n' by omega]
  have h1 := L124 (d := 8) (L := L) e9 ox.2.2.1 (fun k hk => by
    obtain ⟨i, i1, i2, i3, i4⟩ := ofR_i o ox.2.1 hk
    simp only [Nat.reduceAdd] at i3 i4
    rw [← i3, ← i4]
    exact ⟨(ox.2.2.2.1 i i1).2, cosF_r ox.1 _⟩) n' 0 (by omega)
  exact (E124 (d := 9)).trans (T124_0.trans h1)
/-- rules drawn: what they would be worth -/
theorem PB120 (w : Rel xs g q t N m) {x : Int} {M n : Nat} (g1 : 1 ≤ M ∧ M ≤ 4) (hn : g 0 = n) : PB L xs q t N m 120 [jI x, jI M] (jI (worF (pkG (drR x n (gU g 1 (M : Int)) M)))) g := by
  have nn := RQ_n w
  have hg : gR (gU g 1 (M : Int)) := gR_many w.2.1 (by omega)
  have hg0 : gU g 1 (M : Int) 0 = n := by rw [gU_ne (by omega)]; exact hn
  have hR := drR_R (x := x) (n := n) hg (by omega) M (by omega)
  have wr : worF (pkG (gU (drR x n (gU g 1 (M : Int)) M) 1 (M : Int))) = worF (pkG (drR x n (gU g 1 (M : Int)) M)) := by
    have e : drR x n (gU g 1 (M : Int)) M 1 = (M : Int) := by rw [drR_ne (by omega) M (by omega), gU_eq rfl]
    rw [show gU (drR x n (gU g 1 (M : Int)) M) 1 (M : Int) = drR x n (gU g 1 (M : Int)) M from funext (fun z => by
      unfold gU
      by_cases c : z = 1
      · rw [if_pos c, c]; exact e.symm
      · rw [if_neg c])]
  obtain ⟨m1, p1, p2, p3⟩ := Q8_35 (d := 8) (L := L) w.2.2.2.1.1
  have pk0 : pkR 35 (gU (drR x n (gU g 1 (M : Int)) 0) 1 ((0 : Nat) : Int)) (j_up m1 35 1 0) := by
    have a := pkR_many (a := 35) p3 (v := 0) (by omega)
    refine pkR_w a ?_ ?_ (fun p hp => ?_) (fun q hq => ?_) (fun q p hq hp => ?_)
    · show gU (gU g 1 (M : Int)) 1 ((0 : Nat) : Int) 0 = _
      rw [gU_ne (by omega), gU_ne (by omega), gU_ne (by omega)]
    · show gU (gU g 1 (M : Int)) 1 ((0 : Nat) : Int) 1 = _
      rw [gU_eq rfl, gU_eq rfl]
      rfl
    · show gU (gU g 1 (M : Int)) 1 ((0 : Nat) : Int) (7 + p) = _
      rw [gU_ne (by omega), gU_ne (by omega), gU_ne (by omega)]
    · rw [gU_eq rfl] at hq
      omega
    · rw [gU_eq rfl] at hq
      omega
  obtain ⟨m2, s1, s2, s3⟩ := L18 (d := 6) (L := L) (x := x) (n := n) (M := M) hg hg0 (by omega) (by omega) M 0 (by omega) (j_up m1 35 1 0) none pk0
  have q18 : c_call 9 18 [jR 35, jI x, jI (M : Int)] (hH L m1) = some (none, hH L m2) := (E18 (d := 8)).trans (T18_0.trans s1)
  have hR2 : gR (gU (drR x n (gU g 1 (M : Int)) M) 1 (M : Int)) := gR_many hR (by omega)
  obtain ⟨m3, r1, r2⟩ := Q30b (d := 3) (L := L) hR2 s3
  rw [wr] at r1
  refine PB_s w (m' := m3) ((E120 (d := 9)).trans ?_) (kpt_tr (kpt_w p2 (fun c z h => by unfold scQ; omega)) (kpt_tr (kpt_up (by unfold scQ; omega)) (kpt_tr (kpt_w s2 (fun c z h => by unfold scQ; omega)) (kpt_w r2 (fun c z h => by unfold scQ; omega)))))
  rw [T120_0, if_neg (by omega), if_neg (by omega), p1]
  simp only [Option.bind_some, Option.toList_some, List.cons_append, List.nil_append, Option.toList_none]
  rw [T120_27, q18]
  simp only [Option.bind_some, Option.toList_some, List.cons_append, List.nil_append, Option.toList_none]
  rw [T120_36, r1]
  simp only [Option.bind_some, Option.toList_some, List.cons_append, List.nil_append]
  rw [T120_47]
theorem PB120n (w : Rel xs g q t N m) {x v : Int} (h : 4 < v) : PB L xs q t N m 120 [jI x, jI v] (jI (-2)) g := by
  refine PB_r w ((E120 (d := 9)).trans ?_)
  rw [T120_0, if_neg (by omega), if_pos h]
/-- tapes that aren't laid -/
theorem PB131a (w : Rel xs g q t N m) {x v : Int} (h : 4 < x) : PB L xs q t N m 131 [jI 0, jI x, jI v] (jI (-2)) g := by
  refine PB_r w ((E131 (d := 9)).trans ?_)
  rw [T131_0, Rel_q142]
  simp only [Option.bind_some, Option.toList_some, List.cons_append, List.nil_append]
  rw [bI_t (by decide), T131_4, if_neg (by decide), if_neg (by omega), if_pos h]
theorem PB131b (w : Rel xs g q t N m) {x v : Int} (h : 0 ≤ x ∧ x ≤ 4) (h2 : 60 < v) : PB L xs q t N m 131 [jI 0, jI x, jI v] (jI (-2)) g := by
  refine PB_r w ((E131 (d := 9)).trans ?_)
  rw [T131_0, Rel_q142]
  simp only [Option.bind_some, Option.toList_some, List.cons_append, List.nil_append]
  rw [bI_t (by decide), T131_4, if_neg (by decide), if_neg (by omega), if_neg (by omega), if_neg (by omega), if_pos h2]
theorem PB131c (w : Rel xs g q t N m) {x v : Int} (h : 0 ≤ x ∧ x ≤ 4) (h2 : v < 0) : PB L xs q t N m 131 [jI 0, jI x, jI v] (jI (-14)) g := by
  refine PB_r w ((E131 (d := 9)).trans ?_)
  rw [T131_0, Rel_q142]
  simp only [Option.bind_some, Option.toList_some, List.cons_append, List.nil_append]
  rw [bI_t (by decide), T131_4, if_neg (by decide), if_neg (by omega), if_neg (by omega), if_neg (by omega), if_neg (by omega), if_neg (by omega), if_pos h2]
theorem PB132 (w : Rel xs g q t N m) {i v : Int} : PB L xs q t N m 132 [jI 0, jI i, jL v] (jI (-11)) g := by
  have h9 := w.2.2.2.2.2.2
  refine PB_r w ((E132 (d := 9)).trans ?_)
  rw [T132_0, Rel_q142]
  simp only [Option.bind_some, Option.toList_some, List.cons_append, List.nil_append]
  rw [bI_t (by decide), T132_4, if_neg (by decide), if_pos (by decide)]
  exact if_pos h9
end A3
