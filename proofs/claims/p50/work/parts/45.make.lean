/-! A cut comes to the cuts, as data. -/
/-- the slot of a weight -/
def slotF (x : Int) : Int := if x < 20 then x - 10 else x - 12
def wtF (T : TB) (r : Nat) : Nat → Nat → Int
  | 0, _ => 0
  | c + 1, s => if 10 ≤ tos T c ∧ slotF (tos T c) = s then te T r c % tD T else wtF T r c s
def mkU (K : PK) (U : CU) (T : TB) (r : Nat) : CU := (cN U + 1, (fun k p => if k = cN U then sumF K U T r p (tC T) else cF U k p), (fun k s => if k = cN U then wtF T r (tC T) s else cW U k s), (fun k => if k = cN U then tD T else cD U k))
theorem wtF_r {T : TB} (o : tOK T) (r : Nat) (s : Nat) : ∀ c : Nat, 0 ≤ wtF T r c s ∧ wtF T r c s ≤ 1000000000 := by
  have d1 := o.2.2.2.2.1
  have d2 := o.2.2.2.2.2.1
  intro c
  induction c with
  | zero => unfold wtF; omega
  | succ c ih =>
    unfold wtF
    have a1 := Int.emod_nonneg (te T r c) (b := tD T) (by omega)
    have a2 := Int.emod_lt_of_pos (te T r c) (b := tD T) (by omega)
    split <;> omega
theorem mkU_ok {K : PK} {U : CU} {T : TB} (o : tOK T) (ou : cOK (pN K) U) (h : cN U < 12) {r : Nat} (hn : ∀ p : Nat, p ≤ pN K → nr (sumF K U T r p (tC T))) : cOK (pN K) (mkU K U T r) := by
  have d1 := o.2.2.2.2.1
  have d2 := o.2.2.2.2.2.1
  refine ⟨h, ?_, ?_, ?_⟩
  · intro k hk
    replace hk : k < cN U + 1 := hk
    show 1 ≤ (if k = cN U then tD T else cD U k) ∧ (if k = cN U then tD T else cD U k) ≤ 1000000000
    split
    · omega
    · exact ou.2.1 k (by omega)
  · intro k p hk hp
    replace hk : k < cN U + 1 := hk
    show -1000000000 ≤ (if k = cN U then sumF K U T r p (tC T) else cF U k p) ∧ (if k = cN U then sumF K U T r p (tC T) else cF U k p) ≤ 1000000000
    split
    · exact hn p hp
    · exact ou.2.2.1 k p (by omega) hp
  · intro k s hk hs
    replace hk : k < cN U + 1 := hk
    show 0 ≤ (if k = cN U then wtF T r (tC T) s else cW U k s) ∧ (if k = cN U then wtF T r (tC T) s else cW U k s) ≤ 1000000000
    split
    · exact wtF_r o r s (tC T)
    · exact ou.2.2.2 k s (by omega) hs
