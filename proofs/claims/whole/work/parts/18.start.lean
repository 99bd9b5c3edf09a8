/-! The first cell out of reach: a run that goes through so goes through with the script there. -/
def e_R (L : Nat) (xs : Nat → Int) (h : j_H) : j_H := (h.1.set 0 (32, L), h.2.1, fun a i => if a = 0 then xs i else h.2.2 a i)
theorem e_get {h : j_H} {L a c n : Nat} (h0 : h.1[0]? = some (31, 0)) (ha : h.1[a]? = some (c, n)) (hc : c ≠ 31) : (h.1.set 0 (32, L))[a]? = some (c, n) ∧ a ≠ 0 := by
  have h1 : a ≠ 0 := fun e => by rw [e, h0] at ha; cases ha; exact hc rfl
  exact ⟨by rw [List.getElem?_set, if_neg (fun e => h1 e.symm)]; exact ha, h1⟩
theorem e_up {h : j_H} {L a i : Nat} {xs : Nat → Int} {x : Int} {K : List (Nat × Nat)} {P : List (List (Option Nat))} (ha : a ≠ 0) : (K, P, j_up (e_R L xs h).2.2 a i x) = (K, P, (e_R L xs (h.1, P, j_up h.2.2 a i x)).2.2) := by
  have : j_up (e_R L xs h).2.2 a i x = (e_R L xs (h.1, P, j_up h.2.2 a i x)).2.2 := by
    funext b j
    simp only [e_R, j_up]
    by_cases e : b = 0
    · rw [if_pos e, if_pos e, if_neg (fun h => ha (h.symm.trans e))]
    · rw [if_neg e, if_neg e]
  rw [this]
theorem e_new {h : j_H} {L c n : Nat} {xs : Nat → Int} (h0 : h.1[0]? = some (31, 0)) : j_new (e_R L xs h) c n = e_R L xs (j_new h c n) ∧ (j_new h c n).1[0]? = some (31, 0) := by
  have hl : 0 < h.1.length := (List.getElem?_eq_some_iff.mp h0).1
  have hm : j_zero (e_R L xs h).2.2 h.1.length = (e_R L xs (j_new h c n)).2.2 := by
    funext b j
    show (if b = h.1.length then 0 else if b = 0 then xs j else h.2.2 b j) = (if b = 0 then xs j else if b = h.1.length then 0 else h.2.2 b j)
    by_cases e : b = 0
    · rw [if_pos e, if_neg (by omega), if_pos e]
    · rw [if_neg e, if_neg e]
  refine ⟨?_, by show (h.1 ++ _)[0]? = _; rw [List.getElem?_append_left hl]; exact h0⟩
  have hK : (h.1.set 0 (32, L)) ++ [(c, n)] = (h.1 ++ [(c, n)]).set 0 (32, L) := by
    rw [List.set_append_left _ _ hl]
  show ((h.1.set 0 (32, L)) ++ [(c, n)], h.2.1 ++ _, j_zero (e_R L xs h).2.2 (h.1.set 0 (32, L)).length) = _
  rw [hK, List.length_set, hm]
  rfl
theorem e_len {h : j_H} {L : Nat} {xs : Nat → Int} : (e_R L xs h).1.length = h.1.length := by simp [e_R]
theorem e_mul {L n : Nat} {xs : Nat → Int} : ∀ (k : Nat) {h : j_H}, h.1[0]? = some (31, 0) → j_mul (e_R L xs h) n k = e_R L xs (j_mul h n k) ∧ (j_mul h n k).1[0]? = some (31, 0)
  | 0, h, h0 => ⟨rfl, h0⟩
  | k + 1, h, h0 => by
    obtain ⟨h1, h2⟩ := e_mul k h0
    obtain ⟨h3, h4⟩ := e_new (L := L) (xs := xs) (c := 33) (n := n) h2
    refine ⟨?_, h4⟩
    show j_new (j_mul (e_R L xs h) n k) 33 n = _
    rw [h1, h3]
    rfl
theorem e_mna {h : j_H} {L k n : Nat} {xs : Nat → Int} (h0 : h.1[0]? = some (31, 0)) : j_mna (e_R L xs h) k n = e_R L xs (j_mna h k n) ∧ (j_mna h k n).1[0]? = some (31, 0) := by
  have hl : 0 < h.1.length := (List.getElem?_eq_some_iff.mp h0).1
  have h1 : (h.1 ++ [(36, k)])[0]? = some (31, 0) := by rw [List.getElem?_append_left hl]; exact h0
  have e1 : (((e_R L xs h).1 ++ [(36, k)], (e_R L xs h).2.1 ++ [(List.range k).map (fun i => some ((e_R L xs h).1.length + 1 + i))], j_zero (e_R L xs h).2.2 (e_R L xs h).1.length) : j_H) = e_R L xs (h.1 ++ [(36, k)], h.2.1 ++ [(List.range k).map (fun i => some (h.1.length + 1 + i))], j_zero h.2.2 h.1.length) := by
    rw [e_len]
    have hK : (h.1.set 0 (32, L)) ++ [(36, k)] = (h.1 ++ [(36, k)]).set 0 (32, L) := by rw [List.set_append_left _ _ hl]
    have hm : j_zero (e_R L xs h).2.2 h.1.length = fun a i => if a = 0 then xs i else j_zero h.2.2 h.1.length a i := by
      funext b j
      show (if b = h.1.length then 0 else if b = 0 then xs j else h.2.2 b j) = (if b = 0 then xs j else if b = h.1.length then 0 else h.2.2 b j)
      by_cases e : b = 0
      · rw [if_pos e, if_neg (by omega), if_pos e]
      · rw [if_neg e, if_neg e]
    rw [hm]
    show ((h.1.set 0 (32, L)) ++ [(36, k)], _, _) = _
    rw [hK]
    rfl
  have h2 := e_mul (L := L) (n := n) (xs := xs) k (h := (h.1 ++ [(36, k)], h.2.1 ++ [(List.range k).map (fun i => some (h.1.length + 1 + i))], j_zero h.2.2 h.1.length)) h1
  refine ⟨?_, h2.2⟩
  show j_mul _ n k = _
  rw [e1]
  exact h2.1
section EE
variable {L : Nat} {xs : Nat → Int}
set_option maxHeartbeats 8000000 in
theorem e_step {C E : Nat → List j_V → j_H → Option j_Z} {n y pc : Nat} {ls : j_L} {st : List j_V} {h : j_H} {z : j_Z} {q : j_M} (hq : j_meth[y]? = some q)
    (hCD : ∀ k as h w, C k as h = some w → h.1[0]? = some (31, 0) → E k as (e_R L xs h) = some (w.1, e_R L xs w.2) ∧ w.2.1[0]? = some (31, 0))
    (K : ∀ (pc : Nat) (ls : j_L) (st : List j_V) (h : j_H), j_run C n y pc ls st h = some z → h.1[0]? = some (31, 0) → j_run E n y pc ls st (e_R L xs h) = some (z.1, e_R L xs z.2) ∧ z.2.1[0]? = some (31, 0))
    (h0 : h.1[0]? = some (31, 0))
    (e00 : j_step y pc ls st h none (fun pc ls st h => j_run C n y pc ls st h) (fun v h => some (v, h)) (fun k as r => (C k as h).bind fun z => j_run C n y (pc + 3) ls (z.1.toList ++ r) z.2) = some z) :
    j_step y pc ls st (e_R L xs h) none (fun pc ls st h => j_run E n y pc ls st h) (fun v h => some (v, h)) (fun k as r => (E k as (e_R L xs h)).bind fun z => j_run E n y (pc + 3) ls (z.1.toList ++ r) z.2) = some (z.1, e_R L xs z.2) ∧ z.2.1[0]? = some (31, 0) := by
  unfold j_step at e00 ⊢
  obtain ⟨⟨i, a, b0, z0⟩, hat, e0⟩ := i_op e00
  clear e00
  have hax := (x_at hq hat).2
  rw [hat]
  simp only [j_op] at ⊢
  cases i
  case iadd =>
    dsimp only at e0 hax ⊢
    obtain ⟨x, y1, r, rfl, e1⟩ := i_bI e0
    exact K _ _ _ _ e1 h0
  case isub =>
    dsimp only at e0 hax ⊢
    obtain ⟨x, y1, r, rfl, e1⟩ := i_bI e0
    exact K _ _ _ _ e1 h0
  case imul =>
    dsimp only at e0 hax ⊢
    obtain ⟨x, y1, r, rfl, e1⟩ := i_bI e0
    exact K _ _ _ _ e1 h0
  case iand =>
    dsimp only at e0 hax ⊢
    obtain ⟨x, y1, r, rfl, e1⟩ := i_bI e0
    exact K _ _ _ _ e1 h0
  case ixor =>
    dsimp only at e0 hax ⊢
    obtain ⟨x, y1, r, rfl, e1⟩ := i_bI e0
    exact K _ _ _ _ e1 h0
  case iushr =>
    dsimp only at e0 hax ⊢
    obtain ⟨x, y1, r, rfl, e1⟩ := i_bI e0
    exact K _ _ _ _ e1 h0
  case ladd =>
    dsimp only at e0 hax ⊢
    obtain ⟨x, y1, r, rfl, e1⟩ := i_bL e0
    exact K _ _ _ _ e1 h0
  case lsub =>
    dsimp only at e0 hax ⊢
    obtain ⟨x, y1, r, rfl, e1⟩ := i_bL e0
    exact K _ _ _ _ e1 h0
  case lmul =>
    dsimp only at e0 hax ⊢
    obtain ⟨x, y1, r, rfl, e1⟩ := i_bL e0
    exact K _ _ _ _ e1 h0
  case land =>
    dsimp only at e0 hax ⊢
    obtain ⟨x, y1, r, rfl, e1⟩ := i_bL e0
    exact K _ _ _ _ e1 h0
  case lor =>
    dsimp only at e0 hax ⊢
    obtain ⟨x, y1, r, rfl, e1⟩ := i_bL e0
    exact K _ _ _ _ e1 h0
  case lxor =>
    dsimp only at e0 hax ⊢
    obtain ⟨x, y1, r, rfl, e1⟩ := i_bL e0
    exact K _ _ _ _ e1 h0
  case lcmp =>
    dsimp only at e0 hax ⊢
    obtain ⟨x, y1, r, rfl, e1⟩ := i_bL e0
    exact K _ _ _ _ e1 h0
  case idiv =>
    dsimp only at e0 hax ⊢
    obtain ⟨x, y1, r, rfl, e1⟩ := i_bI e0
    split at e1
    · cases e1
    · rename_i hy1
      simp only [j_bI]
      rw [if_neg hy1]
      exact K _ _ _ _ e1 h0
  case irem =>
    dsimp only at e0 hax ⊢
    obtain ⟨x, y1, r, rfl, e1⟩ := i_bI e0
    split at e1
    · cases e1
    · rename_i hy1
      simp only [j_bI]
      rw [if_neg hy1]
      exact K _ _ _ _ e1 h0
  case ldiv =>
    dsimp only at e0 hax ⊢
    obtain ⟨x, y1, r, rfl, e1⟩ := i_bL e0
    split at e1
    · cases e1
    · rename_i hy1
      simp only [j_bL]
      rw [if_neg hy1]
      exact K _ _ _ _ e1 h0
  case lrem =>
    dsimp only at e0 hax ⊢
    obtain ⟨x, y1, r, rfl, e1⟩ := i_bL e0
    split at e1
    · cases e1
    · rename_i hy1
      simp only [j_bL]
      rw [if_neg hy1]
      exact K _ _ _ _ e1 h0
  case lshl =>
    dsimp only at e0 hax ⊢
    split at e0
    · exact K _ _ _ _ e0 h0
    · cases e0
  case ineg =>
    dsimp only at e0 hax ⊢
    obtain ⟨x, r, rfl, e1⟩ := i_uI e0
    exact K _ _ _ _ e1 h0
  case i2l =>
    dsimp only at e0 hax ⊢
    obtain ⟨x, r, rfl, e1⟩ := i_uI e0
    exact K _ _ _ _ e1 h0
  case i2b =>
    dsimp only at e0 hax ⊢
    obtain ⟨x, r, rfl, e1⟩ := i_uI e0
    exact K _ _ _ _ e1 h0
  case i2s =>
    dsimp only at e0 hax ⊢
    obtain ⟨x, r, rfl, e1⟩ := i_uI e0
    exact K _ _ _ _ e1 h0
  case lneg =>
    dsimp only at e0 hax ⊢
    obtain ⟨x, r, rfl, e1⟩ := i_uL e0
    exact K _ _ _ _ e1 h0
  case l2i =>
    dsimp only at e0 hax ⊢
    obtain ⟨x, r, rfl, e1⟩ := i_uL e0
    exact K _ _ _ _ e1 h0
  case iconst ix =>
    dsimp only at e0 hax ⊢
    exact K _ _ _ _ e0 h0
  case bipush ix =>
    dsimp only at e0 hax ⊢
    exact K _ _ _ _ e0 h0
  case sipush ix =>
    dsimp only at e0 hax ⊢
    exact K _ _ _ _ e0 h0
  case lconst ix =>
    dsimp only at e0 hax ⊢
    exact K _ _ _ _ e0 h0
  case ldc ix =>
    dsimp only at e0 hax ⊢
    exact K _ _ _ _ e0 h0
  case ldc_w ix =>
    dsimp only at e0 hax ⊢
    exact K _ _ _ _ e0 h0
  case ldc2_w ix =>
    dsimp only at e0 hax ⊢
    exact K _ _ _ _ e0 h0
  case goto ix =>
    dsimp only at e0 hax ⊢
    exact K _ _ _ _ e0 h0
  case getstatic ix =>
    dsimp only at e0 hax ⊢
    exact K _ _ _ _ e0 h0
  case iload_n k =>
    dsimp only at e0 hax ⊢
    split at e0
    · rename_i hld
      exact K _ _ _ _ e0 h0
    · cases e0
  case iload k =>
    dsimp only at e0 hax ⊢
    split at e0
    · rename_i hld
      exact K _ _ _ _ e0 h0
    · cases e0
  case lload_n k =>
    dsimp only at e0 hax ⊢
    split at e0
    · rename_i hld
      exact K _ _ _ _ e0 h0
    · cases e0
  case lload k =>
    dsimp only at e0 hax ⊢
    split at e0
    · rename_i hld
      exact K _ _ _ _ e0 h0
    · cases e0
  case aload_n k =>
    dsimp only at e0 hax ⊢
    split at e0
    · rename_i hld
      exact K _ _ _ _ e0 h0
    · cases e0
  case aload k =>
    dsimp only at e0 hax ⊢
    split at e0
    · rename_i hld
      exact K _ _ _ _ e0 h0
    · cases e0
  case istore_n k =>
    dsimp only at e0 hax ⊢
    obtain ⟨x, r, rfl, e1⟩ := i_uI e0
    obtain ⟨l1, hl1, e1⟩ := i_op e1
    simp only [j_uI]
    rw [hl1]
    exact K _ _ _ _ e1 h0
  case istore k =>
    dsimp only at e0 hax ⊢
    obtain ⟨x, r, rfl, e1⟩ := i_uI e0
    obtain ⟨l1, hl1, e1⟩ := i_op e1
    simp only [j_uI]
    rw [hl1]
    exact K _ _ _ _ e1 h0
  case lstore_n k =>
    dsimp only at e0 hax ⊢
    obtain ⟨x, r, rfl, e1⟩ := i_uL e0
    obtain ⟨l1, hl1, e1⟩ := i_op e1
    simp only [j_uL]
    rw [hl1]
    exact K _ _ _ _ e1 h0
  case lstore k =>
    dsimp only at e0 hax ⊢
    obtain ⟨x, r, rfl, e1⟩ := i_uL e0
    obtain ⟨l1, hl1, e1⟩ := i_op e1
    simp only [j_uL]
    rw [hl1]
    exact K _ _ _ _ e1 h0
  case astore_n k =>
    dsimp only at e0 hax ⊢
    split at e0
    · obtain ⟨l1, hl1, e1⟩ := i_op e0
      rw [hl1]
      exact K _ _ _ _ e1 h0
    · cases e0
  case iinc k n1 =>
    dsimp only at e0 hax ⊢
    split at e0
    · obtain ⟨l1, hl1, e1⟩ := i_op e0
      rw [hl1]
      exact K _ _ _ _ e1 h0
    · cases e0
  case dup =>
    dsimp only at e0 hax ⊢
    split at e0
    · split at e0
      · rename_i hc1
        rw [if_pos hc1]
        exact K _ _ _ _ e0 h0
      · cases e0
    · cases e0
  case dup2 =>
    dsimp only at e0 hax ⊢
    split at e0
    · exact K _ _ _ _ e0 h0
    · split at e0
      · rename_i hc1
        rw [if_pos hc1]
        exact K _ _ _ _ e0 h0
      · cases e0
    · cases e0
  case ifCond cd off =>
    cases cd
    case eq =>
      dsimp only at e0 ⊢
      obtain ⟨x, r, rfl, e1, e2⟩ := i_if e0
      simp only [j_if]
      split
      · rename_i hh
        exact K _ _ _ _ (e1 hh) h0
      · rename_i hh
        exact K _ _ _ _ (e2 hh) h0
    case ne =>
      dsimp only at e0 ⊢
      obtain ⟨x, r, rfl, e1, e2⟩ := i_if e0
      simp only [j_if]
      split
      · rename_i hh
        exact K _ _ _ _ (e1 hh) h0
      · rename_i hh
        exact K _ _ _ _ (e2 hh) h0
    case lt =>
      dsimp only at e0 ⊢
      obtain ⟨x, r, rfl, e1, e2⟩ := i_if e0
      simp only [j_if]
      split
      · rename_i hh
        exact K _ _ _ _ (e1 hh) h0
      · rename_i hh
        exact K _ _ _ _ (e2 hh) h0
    case ge =>
      dsimp only at e0 ⊢
      obtain ⟨x, r, rfl, e1, e2⟩ := i_if e0
      simp only [j_if]
      split
      · rename_i hh
        exact K _ _ _ _ (e1 hh) h0
      · rename_i hh
        exact K _ _ _ _ (e2 hh) h0
    case gt =>
      dsimp only at e0 ⊢
      obtain ⟨x, r, rfl, e1, e2⟩ := i_if e0
      simp only [j_if]
      split
      · rename_i hh
        exact K _ _ _ _ (e1 hh) h0
      · rename_i hh
        exact K _ _ _ _ (e2 hh) h0
    case le =>
      dsimp only at e0 ⊢
      obtain ⟨x, r, rfl, e1, e2⟩ := i_if e0
      simp only [j_if]
      split
      · rename_i hh
        exact K _ _ _ _ (e1 hh) h0
      · rename_i hh
        exact K _ _ _ _ (e2 hh) h0
  case if_icmp cd off =>
    cases cd
    case eq =>
      dsimp only at e0 ⊢
      obtain ⟨x, y1, r, rfl, e1, e2⟩ := i_if2 e0
      simp only [j_if2]
      split
      · rename_i hh
        exact K _ _ _ _ (e1 hh) h0
      · rename_i hh
        exact K _ _ _ _ (e2 hh) h0
    case ne =>
      dsimp only at e0 ⊢
      obtain ⟨x, y1, r, rfl, e1, e2⟩ := i_if2 e0
      simp only [j_if2]
      split
      · rename_i hh
        exact K _ _ _ _ (e1 hh) h0
      · rename_i hh
        exact K _ _ _ _ (e2 hh) h0
    case lt =>
      dsimp only at e0 ⊢
      obtain ⟨x, y1, r, rfl, e1, e2⟩ := i_if2 e0
      simp only [j_if2]
      split
      · rename_i hh
        exact K _ _ _ _ (e1 hh) h0
      · rename_i hh
        exact K _ _ _ _ (e2 hh) h0
    case ge =>
      dsimp only at e0 ⊢
      obtain ⟨x, y1, r, rfl, e1, e2⟩ := i_if2 e0
      simp only [j_if2]
      split
      · rename_i hh
        exact K _ _ _ _ (e1 hh) h0
      · rename_i hh
        exact K _ _ _ _ (e2 hh) h0
    case gt =>
      dsimp only at e0 ⊢
      obtain ⟨x, y1, r, rfl, e1, e2⟩ := i_if2 e0
      simp only [j_if2]
      split
      · rename_i hh
        exact K _ _ _ _ (e1 hh) h0
      · rename_i hh
        exact K _ _ _ _ (e2 hh) h0
    case le =>
      dsimp only at e0 ⊢
      obtain ⟨x, y1, r, rfl, e1, e2⟩ := i_if2 e0
      simp only [j_if2]
      split
      · rename_i hh
        exact K _ _ _ _ (e1 hh) h0
      · rename_i hh
        exact K _ _ _ _ (e2 hh) h0
  case tableswitch dd lo hi offs =>
    dsimp only at e0 hax ⊢
    obtain ⟨x, r, rfl, e1⟩ := i_uI e0
    simp only [j_uI]
    split at e1
    · rename_i h1
      rw [if_pos h1]
      obtain ⟨o, ho, e2⟩ := i_op e1
      rw [ho]
      simp only [j_op]
      split at e2
      · rename_i h3
        rw [if_pos h3]
        exact K _ _ _ _ e2 h0
      · cases e2
    · rename_i h1
      rw [if_neg h1]
      split at e1
      · rename_i h3
        rw [if_pos h3]
        exact K _ _ _ _ e1 h0
      · cases e1
  case iaload =>
    dsimp only at e0 hax ⊢
    obtain ⟨a1, i1, r, rfl, e1⟩ := i_el e0
    obtain ⟨N, hA, hi, e2⟩ := i_rg e1
    have hg := e_get (L := L) h0 hA (by decide)
    unfold j_el j_rg
    simp only
    rw [show (e_R L xs h).1[a1]? = some (32, N) from hg.1]
    simp only
    rw [if_pos trivial, if_pos hi, show (e_R L xs h).2.2 a1 i1.toNat = h.2.2 a1 i1.toNat from if_neg hg.2]
    exact K _ _ _ _ e2 h0
  case laload =>
    dsimp only at e0 hax ⊢
    obtain ⟨a1, i1, r, rfl, e1⟩ := i_el e0
    obtain ⟨N, hA, hi, e2⟩ := i_rg e1
    have hg := e_get (L := L) h0 hA (by decide)
    unfold j_el j_rg
    simp only
    rw [show (e_R L xs h).1[a1]? = some (33, N) from hg.1]
    simp only
    rw [if_pos trivial, if_pos hi, show (e_R L xs h).2.2 a1 i1.toNat = h.2.2 a1 i1.toNat from if_neg hg.2]
    exact K _ _ _ _ e2 h0
  case baload =>
    dsimp only at e0 hax ⊢
    obtain ⟨a1, i1, r, rfl, e1⟩ := i_el e0
    split at e1
    · rename_i cc N hA
      split at e1
      · rename_i h1
        have hg := e_get (L := L) h0 hA (by omega)
        unfold j_el
        simp only
        rw [show (e_R L xs h).1[a1]? = some (cc, N) from hg.1]
        simp only
        rw [if_pos h1, show (e_R L xs h).2.2 a1 i1.toNat = h.2.2 a1 i1.toNat from if_neg hg.2]
        exact K _ _ _ _ e1 h0
      · cases e1
    · cases e1
  case aaload =>
    dsimp only at e0 hax ⊢
    obtain ⟨a1, i1, r, rfl, e1⟩ := i_el e0
    obtain ⟨N, hA, hi, e2⟩ := i_rg e1
    obtain ⟨A, hrf, e3⟩ := i_op e2
    have hg := e_get (L := L) h0 hA (by decide)
    unfold j_el j_rg
    simp only
    rw [show (e_R L xs h).1[a1]? = some (36, N) from hg.1]
    simp only
    rw [if_pos trivial, if_pos hi, show j_rf (e_R L xs h) a1 i1.toNat = some A from hrf]
    exact K _ _ _ _ e3 h0
  case iastore =>
    dsimp only at e0 hax ⊢
    obtain ⟨a1, i1, x, r, rfl, e1⟩ := i_sI e0
    split at e1
    · cases e1
    · rename_i h2
      obtain ⟨N, hA, hi, e2⟩ := i_rg e1
      have hg := e_get (L := L) h0 hA (by decide)
      unfold j_sI j_rg
      simp only
      rw [if_neg h2, show (e_R L xs h).1[a1]? = some (32, N) from hg.1]
      simp only
      rw [if_pos trivial, if_pos hi, e_up hg.2]
      exact K _ _ _ _ e2 h0
  case lastore =>
    dsimp only at e0 hax ⊢
    obtain ⟨a1, i1, x, r, rfl, e1⟩ := i_sL e0
    split at e1
    · cases e1
    · rename_i h2
      obtain ⟨N, hA, hi, e2⟩ := i_rg e1
      have hg := e_get (L := L) h0 hA (by decide)
      unfold j_sL j_rg
      simp only
      rw [if_neg h2, show (e_R L xs h).1[a1]? = some (33, N) from hg.1]
      simp only
      rw [if_pos trivial, if_pos hi, e_up hg.2]
      exact K _ _ _ _ e2 h0
  case bastore =>
    dsimp only at e0 hax ⊢
    obtain ⟨a1, i1, x, r, rfl, e1⟩ := i_sI e0
    split at e1
    · cases e1
    · rename_i h2
      split at e1
      · rename_i cc N hA
        split at e1
        · rename_i hi
          split at e1
          · rename_i h3
            have hg := e_get (L := L) h0 hA (by omega)
            unfold j_sI
            simp only
            rw [if_neg h2, show (e_R L xs h).1[a1]? = some (cc, N) from hg.1]
            simp only
            rw [if_pos hi, if_pos h3, e_up hg.2]
            exact K _ _ _ _ e1 h0
          · rename_i h3
            split at e1
            · rename_i h4
              have hg := e_get (L := L) h0 hA (by omega)
              unfold j_sI
              simp only
              rw [if_neg h2, show (e_R L xs h).1[a1]? = some (cc, N) from hg.1]
              simp only
              rw [if_pos hi, if_neg h3, if_pos h4, e_up hg.2]
              exact K _ _ _ _ e1 h0
            · cases e1
        · cases e1
      · cases e1
  case arraylength =>
    dsimp only at e0 hax ⊢
    split at e0
    · rename_i a1 r
      split at e0
      · rename_i cc N hA
        split at e0
        · rename_i h1
          have hg := e_get (L := L) h0 hA (by omega)
          rw [show (e_R L xs h).1[a1]? = some (cc, N) from hg.1]
          simp only
          rw [if_pos h1]
          exact K _ _ _ _ e0 h0
        · cases e0
      · cases e0
    · cases e0
  case getfield ix =>
    dsimp only at e0 hax ⊢
    unfold j_ax at hax
    simp only [Bool.or_eq_true] at hax
    have ha13 : a < 13 := by
      rcases hax with hax | hax
      · obtain ⟨r0, hr, -⟩ := x_ft hax
        exact vwCl_lt hr
      · obtain ⟨r0, t, hr, -⟩ := x_fn hax
        exact vwCl_lt hr
    split at e0
    · rename_i a1 r
      obtain ⟨N, hA, e1⟩ := i_ob e0
      have hg := e_get (L := L) h0 hA (by omega)
      unfold j_ob
      rw [show (e_R L xs h).1[a1]? = some (a, N) from hg.1]
      simp only
      rw [if_pos trivial]
      unfold j_get at e1 ⊢
      rw [show (e_R L xs h).2.2 a1 b0 = h.2.2 a1 b0 from if_neg hg.2]
      generalize j_ty a b0 = t at e1 ⊢
      match t, e1 with
      | 0, e1 => exact K _ _ _ _ e1 h0
      | 1, e1 => exact K _ _ _ _ e1 h0
      | 2, e1 => exact K _ _ _ _ e1 h0
      | n + 3, e1 =>
        obtain ⟨v, h1, h2⟩ := i_op e1
        show j_op (j_rf (e_R L xs h) a1 b0) _ _ = _ ∧ _
        rw [show j_rf (e_R L xs h) a1 b0 = some v from h1]
        exact K _ _ _ _ h2 h0
    · cases e0
  case putfield ix =>
    dsimp only at e0 hax ⊢
    unfold j_ax at hax
    simp only [Bool.or_eq_true, Bool.and_eq_true] at hax
    have ha13 : a < 13 := by
      rcases hax with hax | hax
      · obtain ⟨r0, hr, -⟩ := x_ft (by simpa using hax.1)
        exact vwCl_lt hr
      · obtain ⟨r0, t, hr, -⟩ := x_fn (by simpa using hax.1)
        exact vwCl_lt hr
    split at e0
    · rename_i v a1 r
      obtain ⟨N, hA, e1⟩ := i_ob e0
      have hg := e_get (L := L) h0 hA (by omega)
      unfold j_ob
      rw [show (e_R L xs h).1[a1]? = some (a, N) from hg.1]
      simp only
      rw [if_pos trivial]
      unfold j_put at e1 ⊢
      generalize j_ty a b0 = t at e1 ⊢
      match t, v, e1 with
      | 0, .inl x, e1 =>
        simp only
        rw [e_up hg.2]
        exact K _ _ _ _ e1 h0
      | 0, .inr v2, e1 => cases e1
      | 1, .inl x, e1 => cases e1
      | 1, .inr (.inl x), e1 =>
        simp only
        rw [e_up hg.2]
        exact K _ _ _ _ e1 h0
      | 1, .inr (.inr x), e1 => cases e1
      | 2, .inl x, e1 =>
        simp only at e1 ⊢
        split at e1
        · rename_i hx
          rw [if_pos hx, e_up hg.2]
          exact K _ _ _ _ e1 h0
        · cases e1
      | 2, .inr v2, e1 => cases e1
      | k + 3, .inl x, e1 => cases e1
      | k + 3, .inr (.inl x), e1 => cases e1
      | k + 3, .inr (.inr x), e1 => exact K _ _ _ _ e1 h0
    · cases e0
  case new ix =>
    dsimp only at e0 hax ⊢
    obtain ⟨h1, h2⟩ := e_new (L := L) (xs := xs) (c := a) (n := j_cz a) h0
    rw [h1, e_len]
    exact K _ _ _ _ e0 h2
  case newarray t =>
    dsimp only at e0 hax ⊢
    obtain ⟨x, r, rfl, e1⟩ := i_uI e0
    split at e1
    · rename_i hx
      obtain ⟨h1, h2⟩ := e_new (L := L) (xs := xs) (c := j_atc t) (n := x.toNat) h0
      simp only [j_uI]
      rw [if_pos hx, h1, e_len]
      exact K _ _ _ _ e1 h2
    · cases e1
  case multianewarray ix dm =>
    dsimp only at e0 hax ⊢
    split at e0
    · rename_i n1 k1 r
      split at e0
      · rename_i hx
        obtain ⟨h1, h2⟩ := e_mna (L := L) (xs := xs) (k := k1.toNat) (n := n1.toNat) h0
        have hany : (e_R L xs h).1.any (fun q => q.1 == 33) = true := by
          obtain ⟨x, hx1, hx2⟩ := List.any_eq_true.mp hx.2
          obtain ⟨A, hA⟩ := List.getElem?_of_mem hx1
          have hx3 : x.1 = 33 := by simpa using hx2
          have hg := e_get (L := L) h0 (show h.1[A]? = some (33, x.2) by rw [hA, ← hx3]) (by decide)
          exact List.any_eq_true.mpr ⟨(33, x.2), List.mem_of_getElem? hg.1, rfl⟩
        rw [if_pos ⟨hx.1, hany⟩, h1, e_len]
        exact K _ _ _ _ e0 h2
      · cases e0
    · cases e0
  case invokevirtual ix =>
    dsimp only at e0 hax ⊢
    unfold j_ax at hax
    simp only [Bool.and_eq_true] at hax
    split at e0
    · rename_i A r hdrop
      obtain ⟨mq, hmq⟩ := x_cal_some hax.2
      obtain ⟨hkd, hnp, h271⟩ := x_cal hax.2 hmq
      rw [hmq] at e0 ⊢
      dsimp only at e0 ⊢
      obtain ⟨N, hA, e1⟩ := i_ob e0
      have hown := ((s_mok hmq h271).2.2.2.2.2.1 hkd).2.2
      have hg := e_get (L := L) h0 hA (by omega)
      unfold j_ob
      rw [show (e_R L xs h).1[A]? = some (mq.2.2.2.2.1, N) from hg.1]
      simp only
      rw [if_pos trivial]
      split at e1
      · rename_i hcat
        rw [if_pos hcat]
        obtain ⟨w, hw1, e2⟩ := i_bind e1
        obtain ⟨h1, h2⟩ := hCD _ _ _ _ hw1 h0
        rw [h1]
        exact K _ _ _ _ e2 h2
      · cases e1
    · cases e0
  case invokespecial ix =>
    dsimp only at e0 hax ⊢
    split at e0
    · rename_i A r hdrop
      split at e0
      · rename_i hcat
        rw [if_pos hcat]
        split at e0
        · rename_i ha
          rw [if_pos ha]
          exact K _ _ _ _ e0 h0
        · rename_i ha
          rw [if_neg ha]
          obtain ⟨w, hw1, e2⟩ := i_bind e0
          obtain ⟨h1, h2⟩ := hCD _ _ _ _ hw1 h0
          rw [h1]
          exact K _ _ _ _ e2 h2
      · cases e0
    · cases e0
  case invokestatic ix =>
    dsimp only at e0 hax ⊢
    split at e0
    · rename_i ha
      rw [if_pos ha]
      split at e0
      · rename_i n1 dp bb sp aa r
        split at e0
        · rename_i cc n0' dd n1' hA hB
          split at e0
          · rename_i hcond
            split at e0
            · rename_i hi
              have hgA := e_get (L := L) h0 hA (by omega)
              have hgB := e_get (L := L) h0 hB (by omega)
              rw [show (e_R L xs h).1[aa]? = some (cc, n0') from hgA.1, show (e_R L xs h).1[bb]? = some (dd, n1') from hgB.1]
              simp only
              rw [if_pos hcond, if_pos hi]
              have hcp : j_cpy (e_R L xs h).2.2 aa sp.toNat bb dp.toNat n1.toNat = (e_R L xs (h.1, h.2.1, j_cpy h.2.2 aa sp.toNat bb dp.toNat n1.toNat)).2.2 := by
                funext c j
                simp only [e_R, j_cpy]
                by_cases e : c = 0
                · rw [if_pos e, if_pos e, if_neg (fun h => hgB.2 (h.symm.trans e))]
                · rw [if_neg e, if_neg e, if_neg hgA.2]
              rw [hcp]
              exact K _ _ _ _ e0 h0
            · cases e0
          · cases e0
        · cases e0
      · cases e0
    · rename_i ha
      rw [if_neg ha]
      split at e0
      · rename_i hcat
        rw [if_pos hcat]
        obtain ⟨w, hw1, e2⟩ := i_bind e0
        obtain ⟨h1, h2⟩ := hCD _ _ _ _ hw1 h0
        rw [h1]
        exact K _ _ _ _ e2 h2
      · cases e0
  case ireturn =>
    dsimp only at e0 hax ⊢
    split at e0
    · split at e0
      · rename_i h1
        cases e0
        exact ⟨by rw [if_pos h1], h0⟩
      · rename_i h1
        split at e0
        · rename_i h3
          split at e0
          · rename_i h4
            cases e0
            exact ⟨by rw [if_neg h1, if_pos h3, if_pos h4], h0⟩
          · cases e0
        · cases e0
    · cases e0
  case lreturn =>
    dsimp only at e0 hax ⊢
    split at e0
    · split at e0
      · rename_i h1
        cases e0
        exact ⟨by rw [if_pos h1], h0⟩
      · cases e0
    · cases e0
  case return_ =>
    dsimp only at e0 hax ⊢
    split at e0
    · split at e0
      · rename_i h1
        cases e0
        exact ⟨by rw [if_pos h1], h0⟩
      · cases e0
    · cases e0
  all_goals exact absurd e0 (by simp)
theorem e_run {C E : Nat → List j_V → j_H → Option j_Z} (hCD : ∀ k as h w, C k as h = some w → h.1[0]? = some (31, 0) → E k as (e_R L xs h) = some (w.1, e_R L xs w.2) ∧ w.2.1[0]? = some (31, 0)) {y : Nat} {z : j_Z} {q : j_M} (hq : j_meth[y]? = some q) : ∀ (n pc : Nat) (ls : j_L) (st : List j_V) (h : j_H), j_run C n y pc ls st h = some z → h.1[0]? = some (31, 0) → j_run E n y pc ls st (e_R L xs h) = some (z.1, e_R L xs z.2) ∧ z.2.1[0]? = some (31, 0) := by
  intro n
  induction n with
  | zero => intro pc ls st h e; cases e
  | succ n ih =>
    intro pc ls st h e h0
    unfold j_run at e ⊢
    exact e_step hq hCD (fun pc ls st h e h0 => ih pc ls st h e h0) h0 e
theorem e_do {n : Nat} : ∀ (d y : Nat) (as : List j_V) (h : j_H) (z : j_Z), c_do n d y as h = some z → h.1[0]? = some (31, 0) → c_do n d y as (e_R L xs h) = some (z.1, e_R L xs z.2) ∧ z.2.1[0]? = some (31, 0) := by
  intro d
  induction d with
  | zero => intro y as h z e; cases e
  | succ d ih =>
    intro y as h z e h0
    unfold c_do at e ⊢
    split at e
    · rename_i hl
      rw [if_pos hl]
      cases hq : j_meth[y]? with
      | none =>
        have hml : j_code[y]? = none := by
          rw [List.getElem?_eq_none_iff] at hq ⊢
          rw [j_len.2.1]
          rw [j_len.1] at hq
          exact hq
        cases n with
        | zero => cases e
        | succ n =>
          unfold j_run j_step j_at at e
          rw [hml] at e
          cases e
      | some q => exact e_run (fun k as h w hw h0 => ih k as h w hw h0) hq n 0 _ [] h e h0
    · cases e
end EE
