/-! feed, judge. -/
theorem w8_id {x : Int} (h1 : 0 ≤ x) (h2 : x ≤ 127) : w8 x = x := by
  unfold w8 Int.bmod
  simp only
  omega
/-! judge -/
def juF (T : TB) (x : Nat → Int) (it : Int) : Nat → Nat → Int
  | 0, _ => -5
  | j + 1, p => if (p : Int) < it then (if rightF T (p : Int) / tD T = x p then juF T x it j (p + 1) else p) else 100 + p
