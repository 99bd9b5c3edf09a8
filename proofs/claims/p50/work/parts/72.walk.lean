def d9 (n : Nat) (δ : Nat → Int) : Prop := ∀ q : Nat, q < n → 0 ≤ δ q ∧ δ q ≤ 9
theorem cst_R {K : PK} (ok : pOK K) {δ : Nat → Int} (hδ : d9 (pN K) δ) : (0 ≤ horF 10 δ (pN K) ∧ horF 10 δ (pN K) < 100000) ∧ (-5000 ≤ cstF (pC K) δ (pN K) ∧ cstF (pC K) δ (pN K) ≤ 5000) ∧ ∀ r : Nat, r < pR K → (-50000 ≤ cstF (pF K r) δ (pN K) ∧ cstF (pF K r) δ (pN K) ≤ 50000) := by
  have n5 := ok.2.1
  have a := horF_r (pN K) hδ
  have t := tenF_r (pN K) n5
  have c := cstF_r (c := pC K) (δ := δ) (M := 99) (pN K) (fun q hq => ⟨hδ q hq, by have := ok.2.2.2.1 q hq; omega⟩)
  refine ⟨by omega, by omega, fun r hr => ?_⟩
  have f := cstF_r (c := pF K r) (δ := δ) (M := 999) (pN K) (fun q hq => ⟨hδ q hq, by have := pF_r ok hr (p := q) (by omega); omega⟩)
  omega
/-- whether a mix obeys -/
def obyF (K : PK) (δ : Nat → Int) : Prop := ∀ r : Nat, r < pR K → cstF (pF K r) δ (pN K) ≤ pF K r (pN K)
