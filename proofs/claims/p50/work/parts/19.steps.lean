/-! One instruction of the meaning (j_fin), as an equation: by kind. -/
section ST
variable {C : Nat → List j_V → j_H → Option j_Z} {y pc a b : Nat} {z : Int} {ls : j_L} {r : List j_V} {h : j_H}
theorem S_iadd {x v : Int} (hat : j_at y pc = some (.iadd, a, b, z)) : j_fin C y pc ls (jI v :: jI x :: r) h = j_fin C y (pc + 1) ls (jI (w32 (x + v)) :: r) h := by
  rw [j_fin_step]
  unfold j_step
  rw [hat]
  rfl
theorem S_isub {x v : Int} (hat : j_at y pc = some (.isub, a, b, z)) : j_fin C y pc ls (jI v :: jI x :: r) h = j_fin C y (pc + 1) ls (jI (w32 (x - v)) :: r) h := by
  rw [j_fin_step]
  unfold j_step
  rw [hat]
  rfl
theorem S_imul {x v : Int} (hat : j_at y pc = some (.imul, a, b, z)) : j_fin C y pc ls (jI v :: jI x :: r) h = j_fin C y (pc + 1) ls (jI (w32 (x * v)) :: r) h := by
  rw [j_fin_step]
  unfold j_step
  rw [hat]
  rfl
theorem S_iand {x v : Int} (hat : j_at y pc = some (.iand, a, b, z)) : j_fin C y pc ls (jI v :: jI x :: r) h = j_fin C y (pc + 1) ls (jI (j_and x v) :: r) h := by
  rw [j_fin_step]
  unfold j_step
  rw [hat]
  rfl
theorem S_ixor {x v : Int} (hat : j_at y pc = some (.ixor, a, b, z)) : j_fin C y pc ls (jI v :: jI x :: r) h = j_fin C y (pc + 1) ls (jI (j_xor x v) :: r) h := by
  rw [j_fin_step]
  unfold j_step
  rw [hat]
  rfl
theorem S_iushr {x v : Int} (hat : j_at y pc = some (.iushr, a, b, z)) : j_fin C y pc ls (jI v :: jI x :: r) h = j_fin C y (pc + 1) ls (jI (j_ushr x v) :: r) h := by
  rw [j_fin_step]
  unfold j_step
  rw [hat]
  rfl
theorem S_ishl {x v : Int} (hat : j_at y pc = some (.ishl, a, b, z)) : j_fin C y pc ls (jI v :: jI x :: r) h = j_fin C y (pc + 1) ls (jI (j_shl x v) :: r) h := by
  rw [j_fin_step]
  unfold j_step
  rw [hat]
  rfl
theorem S_ishr {x v : Int} (hat : j_at y pc = some (.ishr, a, b, z)) : j_fin C y pc ls (jI v :: jI x :: r) h = j_fin C y (pc + 1) ls (jI (j_shr x v) :: r) h := by
  rw [j_fin_step]
  unfold j_step
  rw [hat]
  rfl
theorem S_ladd {x v : Int} (hat : j_at y pc = some (.ladd, a, b, z)) : j_fin C y pc ls (jL v :: jL x :: r) h = j_fin C y (pc + 1) ls (jL (w64 (x + v)) :: r) h := by
  rw [j_fin_step]
  unfold j_step
  rw [hat]
  rfl
theorem S_lsub {x v : Int} (hat : j_at y pc = some (.lsub, a, b, z)) : j_fin C y pc ls (jL v :: jL x :: r) h = j_fin C y (pc + 1) ls (jL (w64 (x - v)) :: r) h := by
  rw [j_fin_step]
  unfold j_step
  rw [hat]
  rfl
theorem S_lmul {x v : Int} (hat : j_at y pc = some (.lmul, a, b, z)) : j_fin C y pc ls (jL v :: jL x :: r) h = j_fin C y (pc + 1) ls (jL (w64 (x * v)) :: r) h := by
  rw [j_fin_step]
  unfold j_step
  rw [hat]
  rfl
theorem S_land {x v : Int} (hat : j_at y pc = some (.land, a, b, z)) : j_fin C y pc ls (jL v :: jL x :: r) h = j_fin C y (pc + 1) ls (jL (j_land x v) :: r) h := by
  rw [j_fin_step]
  unfold j_step
  rw [hat]
  rfl
theorem S_lor {x v : Int} (hat : j_at y pc = some (.lor, a, b, z)) : j_fin C y pc ls (jL v :: jL x :: r) h = j_fin C y (pc + 1) ls (jL (j_lor x v) :: r) h := by
  rw [j_fin_step]
  unfold j_step
  rw [hat]
  rfl
theorem S_lxor {x v : Int} (hat : j_at y pc = some (.lxor, a, b, z)) : j_fin C y pc ls (jL v :: jL x :: r) h = j_fin C y (pc + 1) ls (jL (j_lxor x v) :: r) h := by
  rw [j_fin_step]
  unfold j_step
  rw [hat]
  rfl
theorem S_lcmp {x v : Int} (hat : j_at y pc = some (.lcmp, a, b, z)) : j_fin C y pc ls (jL v :: jL x :: r) h = j_fin C y (pc + 1) ls (jI (j_cmp x v) :: r) h := by
  rw [j_fin_step]
  unfold j_step
  rw [hat]
  rfl
theorem S_lshl {x v : Int} (hat : j_at y pc = some (.lshl, a, b, z)) : j_fin C y pc ls (jI v :: jL x :: r) h = j_fin C y (pc + 1) ls (jL (j_lshl x v) :: r) h := by
  rw [j_fin_step]
  unfold j_step
  rw [hat]
  rfl
theorem S_idiv {x v : Int} (hat : j_at y pc = some (.idiv, a, b, z)) : j_fin C y pc ls (jI v :: jI x :: r) h = if v = 0 then none else j_fin C y (pc + 1) ls (jI (w32 (x.tdiv v)) :: r) h := by
  rw [j_fin_step]
  unfold j_step
  rw [hat]
  rfl
theorem S_irem {x v : Int} (hat : j_at y pc = some (.irem, a, b, z)) : j_fin C y pc ls (jI v :: jI x :: r) h = if v = 0 then none else j_fin C y (pc + 1) ls (jI (x.tmod v) :: r) h := by
  rw [j_fin_step]
  unfold j_step
  rw [hat]
  rfl
theorem S_ldiv {x v : Int} (hat : j_at y pc = some (.ldiv, a, b, z)) : j_fin C y pc ls (jL v :: jL x :: r) h = if v = 0 then none else j_fin C y (pc + 1) ls (jL (w64 (x.tdiv v)) :: r) h := by
  rw [j_fin_step]
  unfold j_step
  rw [hat]
  rfl
theorem S_lrem {x v : Int} (hat : j_at y pc = some (.lrem, a, b, z)) : j_fin C y pc ls (jL v :: jL x :: r) h = if v = 0 then none else j_fin C y (pc + 1) ls (jL (x.tmod v) :: r) h := by
  rw [j_fin_step]
  unfold j_step
  rw [hat]
  rfl
theorem S_ineg {x : Int} (hat : j_at y pc = some (.ineg, a, b, z)) : j_fin C y pc ls (jI x :: r) h = j_fin C y (pc + 1) ls (jI (w32 (-x)) :: r) h := by
  rw [j_fin_step]
  unfold j_step
  rw [hat]
  rfl
theorem S_lneg {x : Int} (hat : j_at y pc = some (.lneg, a, b, z)) : j_fin C y pc ls (jL x :: r) h = j_fin C y (pc + 1) ls (jL (w64 (-x)) :: r) h := by
  rw [j_fin_step]
  unfold j_step
  rw [hat]
  rfl
theorem S_i2l {x : Int} (hat : j_at y pc = some (.i2l, a, b, z)) : j_fin C y pc ls (jI x :: r) h = j_fin C y (pc + 1) ls (jL (x) :: r) h := by
  rw [j_fin_step]
  unfold j_step
  rw [hat]
  rfl
theorem S_l2i {x : Int} (hat : j_at y pc = some (.l2i, a, b, z)) : j_fin C y pc ls (jL x :: r) h = j_fin C y (pc + 1) ls (jI (w32 x) :: r) h := by
  rw [j_fin_step]
  unfold j_step
  rw [hat]
  rfl
theorem S_i2b {x : Int} (hat : j_at y pc = some (.i2b, a, b, z)) : j_fin C y pc ls (jI x :: r) h = j_fin C y (pc + 1) ls (jI (w8 x) :: r) h := by
  rw [j_fin_step]
  unfold j_step
  rw [hat]
  rfl
theorem S_i2s {x : Int} (hat : j_at y pc = some (.i2s, a, b, z)) : j_fin C y pc ls (jI x :: r) h = j_fin C y (pc + 1) ls (jI (w16 x) :: r) h := by
  rw [j_fin_step]
  unfold j_step
  rw [hat]
  rfl
theorem S_i2c {x : Int} (hat : j_at y pc = some (.i2c, a, b, z)) : j_fin C y pc ls (jI x :: r) h = j_fin C y (pc + 1) ls (jI (j_chr x) :: r) h := by
  rw [j_fin_step]
  unfold j_step
  rw [hat]
  rfl
theorem S_iconst {n : Int} (hat : j_at y pc = some (.iconst n, a, b, z)) : j_fin C y pc ls (r) h = j_fin C y (pc + 1) ls (jI z :: r) h := by
  rw [j_fin_step]
  unfold j_step
  rw [hat]
  rfl
theorem S_bipush {n : Int} (hat : j_at y pc = some (.bipush n, a, b, z)) : j_fin C y pc ls (r) h = j_fin C y (pc + 2) ls (jI z :: r) h := by
  rw [j_fin_step]
  unfold j_step
  rw [hat]
  rfl
theorem S_sipush {n : Int} (hat : j_at y pc = some (.sipush n, a, b, z)) : j_fin C y pc ls (r) h = j_fin C y (pc + 3) ls (jI z :: r) h := by
  rw [j_fin_step]
  unfold j_step
  rw [hat]
  rfl
theorem S_ldc2_w {n : Nat} (hat : j_at y pc = some (.ldc2_w n, a, b, z)) : j_fin C y pc ls (r) h = j_fin C y (pc + 3) ls (jL z :: r) h := by
  rw [j_fin_step]
  unfold j_step
  rw [hat]
  rfl
theorem S_ldc {n : Nat} (ha : a = 0) (hat : j_at y pc = some (.ldc n, a, b, z)) : j_fin C y pc ls (r) h = j_fin C y (pc + 2) ls (jI z :: r) h := by
  rw [j_fin_step]
  unfold j_step
  rw [hat]
  simp only [j_op]
  rw [if_pos ha]
theorem S_ldc_w {n : Nat} (ha : a = 0) (hat : j_at y pc = some (.ldc_w n, a, b, z)) : j_fin C y pc ls (r) h = j_fin C y (pc + 3) ls (jI z :: r) h := by
  rw [j_fin_step]
  unfold j_step
  rw [hat]
  simp only [j_op]
  rw [if_pos ha]
theorem S_ldcT {n : Nat} (ha : a = 1) (hat : j_at y pc = some (.ldc n, a, b, z)) : j_fin C y pc ls (r) h = j_fin C y (pc + 2) ls (jR (1000000 + 2 * b) :: r) h := by
  rw [j_fin_step]
  unfold j_step
  rw [hat]
  simp only [j_op]
  rw [if_neg (by omega), if_pos ha]
theorem S_lconst {n : Fin 2} (hat : j_at y pc = some (.lconst n, a, b, z)) : j_fin C y pc ls (r) h = j_fin C y (pc + 1) ls (jL z :: r) h := by
  rw [j_fin_step]
  unfold j_step
  rw [hat]
  rfl
theorem S_iload_n {k : Fin 4} {x : Int} (hl : j_ld ls k.val = some (jI x)) (hat : j_at y pc = some (.iload_n k, a, b, z)) : j_fin C y pc ls (r) h = j_fin C y (pc + 1) ls (jI x :: r) h := by
  rw [j_fin_step]
  unfold j_step
  rw [hat]
  simp only [j_op]
  rw [hl]
theorem S_iload {k : Nat} {x : Int} (hl : j_ld ls k = some (jI x)) (hat : j_at y pc = some (.iload k, a, b, z)) : j_fin C y pc ls (r) h = j_fin C y (pc + 2) ls (jI x :: r) h := by
  rw [j_fin_step]
  unfold j_step
  rw [hat]
  simp only [j_op]
  rw [hl]
theorem S_lload_n {k : Fin 4} {x : Int} (hl : j_ld ls k.val = some (jL x)) (hat : j_at y pc = some (.lload_n k, a, b, z)) : j_fin C y pc ls (r) h = j_fin C y (pc + 1) ls (jL x :: r) h := by
  rw [j_fin_step]
  unfold j_step
  rw [hat]
  simp only [j_op]
  rw [hl]
theorem S_lload {k : Nat} {x : Int} (hl : j_ld ls k = some (jL x)) (hat : j_at y pc = some (.lload k, a, b, z)) : j_fin C y pc ls (r) h = j_fin C y (pc + 2) ls (jL x :: r) h := by
  rw [j_fin_step]
  unfold j_step
  rw [hat]
  simp only [j_op]
  rw [hl]
theorem S_aload_n {k : Fin 4} {x : Nat} (hl : j_ld ls k.val = some (jR x)) (hat : j_at y pc = some (.aload_n k, a, b, z)) : j_fin C y pc ls (r) h = j_fin C y (pc + 1) ls (jR x :: r) h := by
  rw [j_fin_step]
  unfold j_step
  rw [hat]
  simp only [j_op]
  rw [hl]
theorem S_aload {k : Nat} {x : Nat} (hl : j_ld ls k = some (jR x)) (hat : j_at y pc = some (.aload k, a, b, z)) : j_fin C y pc ls (r) h = j_fin C y (pc + 2) ls (jR x :: r) h := by
  rw [j_fin_step]
  unfold j_step
  rw [hat]
  simp only [j_op]
  rw [hl]
theorem S_istore_n {k : Fin 4} {x : Int} {l1 : j_L} (hl : j_s1 ls k.val (jI x) = some l1) (hat : j_at y pc = some (.istore_n k, a, b, z)) : j_fin C y pc ls (jI x :: r) h = j_fin C y (pc + 1) l1 (r) h := by
  rw [j_fin_step]
  unfold j_step
  rw [hat]
  simp only [j_op, j_uI]
  rw [hl]
theorem S_istore {k : Nat} {x : Int} {l1 : j_L} (hl : j_s1 ls k (jI x) = some l1) (hat : j_at y pc = some (.istore k, a, b, z)) : j_fin C y pc ls (jI x :: r) h = j_fin C y (pc + 2) l1 (r) h := by
  rw [j_fin_step]
  unfold j_step
  rw [hat]
  simp only [j_op, j_uI]
  rw [hl]
theorem S_lstore_n {k : Fin 4} {x : Int} {l1 : j_L} (hl : j_s2 ls k.val (jL x) = some l1) (hat : j_at y pc = some (.lstore_n k, a, b, z)) : j_fin C y pc ls (jL x :: r) h = j_fin C y (pc + 1) l1 (r) h := by
  rw [j_fin_step]
  unfold j_step
  rw [hat]
  simp only [j_op, j_uL]
  rw [hl]
theorem S_lstore {k : Nat} {x : Int} {l1 : j_L} (hl : j_s2 ls k (jL x) = some l1) (hat : j_at y pc = some (.lstore k, a, b, z)) : j_fin C y pc ls (jL x :: r) h = j_fin C y (pc + 2) l1 (r) h := by
  rw [j_fin_step]
  unfold j_step
  rw [hat]
  simp only [j_op, j_uL]
  rw [hl]
theorem S_astore_n {k : Fin 4} {x : Nat} {l1 : j_L} (hl : j_s1 ls k.val (jR x) = some l1) (hat : j_at y pc = some (.astore_n k, a, b, z)) : j_fin C y pc ls (jR x :: r) h = j_fin C y (pc + 1) l1 (r) h := by
  rw [j_fin_step]
  unfold j_step
  rw [hat]
  simp only [j_op]
  rw [hl]
theorem S_astore {k : Nat} {x : Nat} {l1 : j_L} (hl : j_s1 ls k (jR x) = some l1) (hat : j_at y pc = some (.astore k, a, b, z)) : j_fin C y pc ls (jR x :: r) h = j_fin C y (pc + 2) l1 (r) h := by
  rw [j_fin_step]
  unfold j_step
  rw [hat]
  simp only [j_op]
  rw [hl]
theorem S_iinc {k : Nat} {n x : Int} {l1 : j_L} (hx : j_ld ls k = some (jI x)) (hl : j_s1 ls k (jI (w32 (x + n))) = some l1) (hat : j_at y pc = some (.iinc k n, a, b, z)) : j_fin C y pc ls (r) h = j_fin C y (pc + 3) l1 (r) h := by
  rw [j_fin_step]
  unfold j_step
  rw [hat]
  simp only [j_op]
  rw [hx]
  simp only
  rw [hl]
theorem S_dup {v : j_V} (hv : j_cat v = 1) (hat : j_at y pc = some (.dup, a, b, z)) : j_fin C y pc ls (v :: r) h = j_fin C y (pc + 1) ls (v :: v :: r) h := by
  rw [j_fin_step]
  unfold j_step
  rw [hat]
  simp only [j_op]
  rw [if_pos hv]
theorem S_dup2L {x : Int} (hat : j_at y pc = some (.dup2, a, b, z)) : j_fin C y pc ls (jL x :: r) h = j_fin C y (pc + 1) ls (jL x :: jL x :: r) h := by
  rw [j_fin_step]
  unfold j_step
  rw [hat]
  rfl
theorem S_dup2RI {x : Int} {q : Nat} (hat : j_at y pc = some (.dup2, a, b, z)) : j_fin C y pc ls (jI x :: jR q :: r) h = j_fin C y (pc + 1) ls (jI x :: jR q :: jI x :: jR q :: r) h := by
  rw [j_fin_step]
  unfold j_step
  rw [hat]
  rfl
theorem S_goto {n : Int} (hat : j_at y pc = some (.goto n, a, b, z)) : j_fin C y pc ls (r) h = j_fin C y (a) ls (r) h := by
  rw [j_fin_step]
  unfold j_step
  rw [hat]
  rfl
theorem S_if_eq {n x : Int} (hat : j_at y pc = some (.ifCond .eq n, a, b, z)) : j_fin C y pc ls (jI x :: r) h = if x = 0 then j_fin C y (a) ls (r) h else j_fin C y (pc + 3) ls (r) h := by
  rw [j_fin_step]
  unfold j_step
  rw [hat]
  rfl
theorem S_if_ne {n x : Int} (hat : j_at y pc = some (.ifCond .ne n, a, b, z)) : j_fin C y pc ls (jI x :: r) h = if x = 0 then j_fin C y (pc + 3) ls (r) h else j_fin C y (a) ls (r) h := by
  rw [j_fin_step]
  unfold j_step
  rw [hat]
  rfl
theorem S_if_lt {n x : Int} (hat : j_at y pc = some (.ifCond .lt n, a, b, z)) : j_fin C y pc ls (jI x :: r) h = if x < 0 then j_fin C y (a) ls (r) h else j_fin C y (pc + 3) ls (r) h := by
  rw [j_fin_step]
  unfold j_step
  rw [hat]
  rfl
theorem S_if_ge {n x : Int} (hat : j_at y pc = some (.ifCond .ge n, a, b, z)) : j_fin C y pc ls (jI x :: r) h = if x < 0 then j_fin C y (pc + 3) ls (r) h else j_fin C y (a) ls (r) h := by
  rw [j_fin_step]
  unfold j_step
  rw [hat]
  rfl
theorem S_if_gt {n x : Int} (hat : j_at y pc = some (.ifCond .gt n, a, b, z)) : j_fin C y pc ls (jI x :: r) h = if 0 < x then j_fin C y (a) ls (r) h else j_fin C y (pc + 3) ls (r) h := by
  rw [j_fin_step]
  unfold j_step
  rw [hat]
  rfl
theorem S_if_le {n x : Int} (hat : j_at y pc = some (.ifCond .le n, a, b, z)) : j_fin C y pc ls (jI x :: r) h = if 0 < x then j_fin C y (pc + 3) ls (r) h else j_fin C y (a) ls (r) h := by
  rw [j_fin_step]
  unfold j_step
  rw [hat]
  rfl
theorem S_icmp_eq {n x v : Int} (hat : j_at y pc = some (.if_icmp .eq n, a, b, z)) : j_fin C y pc ls (jI v :: jI x :: r) h = if x = v then j_fin C y (a) ls (r) h else j_fin C y (pc + 3) ls (r) h := by
  rw [j_fin_step]
  unfold j_step
  rw [hat]
  rfl
theorem S_icmp_ne {n x v : Int} (hat : j_at y pc = some (.if_icmp .ne n, a, b, z)) : j_fin C y pc ls (jI v :: jI x :: r) h = if x = v then j_fin C y (pc + 3) ls (r) h else j_fin C y (a) ls (r) h := by
  rw [j_fin_step]
  unfold j_step
  rw [hat]
  rfl
theorem S_icmp_lt {n x v : Int} (hat : j_at y pc = some (.if_icmp .lt n, a, b, z)) : j_fin C y pc ls (jI v :: jI x :: r) h = if x < v then j_fin C y (a) ls (r) h else j_fin C y (pc + 3) ls (r) h := by
  rw [j_fin_step]
  unfold j_step
  rw [hat]
  rfl
theorem S_icmp_ge {n x v : Int} (hat : j_at y pc = some (.if_icmp .ge n, a, b, z)) : j_fin C y pc ls (jI v :: jI x :: r) h = if x < v then j_fin C y (pc + 3) ls (r) h else j_fin C y (a) ls (r) h := by
  rw [j_fin_step]
  unfold j_step
  rw [hat]
  rfl
theorem S_icmp_gt {n x v : Int} (hat : j_at y pc = some (.if_icmp .gt n, a, b, z)) : j_fin C y pc ls (jI v :: jI x :: r) h = if v < x then j_fin C y (a) ls (r) h else j_fin C y (pc + 3) ls (r) h := by
  rw [j_fin_step]
  unfold j_step
  rw [hat]
  rfl
theorem S_icmp_le {n x v : Int} (hat : j_at y pc = some (.if_icmp .le n, a, b, z)) : j_fin C y pc ls (jI v :: jI x :: r) h = if v < x then j_fin C y (pc + 3) ls (r) h else j_fin C y (a) ls (r) h := by
  rw [j_fin_step]
  unfold j_step
  rw [hat]
  rfl
theorem S_iaload {q N : Nat} {i : Int} (hK : h.1[q]? = some (32, N)) (hat : j_at y pc = some (.iaload, a, b, z)) : j_fin C y pc ls (jI i :: jR q :: r) h = if 0 ≤ i ∧ i < (N : Int) then j_fin C y (pc + 1) ls (jI (h.2.2 q i.toNat) :: r) h else none := by
  rw [j_fin_step]
  unfold j_step
  rw [hat]
  simp only [j_op, j_el, j_rg]
  rw [hK]
  rfl
theorem S_laload {q N : Nat} {i : Int} (hK : h.1[q]? = some (33, N)) (hat : j_at y pc = some (.laload, a, b, z)) : j_fin C y pc ls (jI i :: jR q :: r) h = if 0 ≤ i ∧ i < (N : Int) then j_fin C y (pc + 1) ls (jL (h.2.2 q i.toNat) :: r) h else none := by
  rw [j_fin_step]
  unfold j_step
  rw [hat]
  simp only [j_op, j_el, j_rg]
  rw [hK]
  rfl
theorem S_baload34 {q N : Nat} {i : Int} (hK : j_kd h q = some (34, N)) (hat : j_at y pc = some (.baload, a, b, z)) : j_fin C y pc ls (jI i :: jR q :: r) h = if 0 ≤ i ∧ i < (N : Int) then j_fin C y (pc + 1) ls (jI (h.2.2 q i.toNat) :: r) h else none := by
  rw [j_fin_step]
  unfold j_step
  rw [hat]
  simp only [j_op, j_el]
  rw [hK]
  simp
theorem S_baload35 {q N : Nat} {i : Int} (hK : j_kd h q = some (35, N)) (hat : j_at y pc = some (.baload, a, b, z)) : j_fin C y pc ls (jI i :: jR q :: r) h = if 0 ≤ i ∧ i < (N : Int) then j_fin C y (pc + 1) ls (jI (h.2.2 q i.toNat) :: r) h else none := by
  rw [j_fin_step]
  unfold j_step
  rw [hat]
  simp only [j_op, j_el]
  rw [hK]
  simp
theorem S_aaload {q N : Nat} {i : Int} (hK : h.1[q]? = some (36, N)) {B : Nat} (hrf : 0 ≤ i → i < (N : Int) → j_rf h q i.toNat = some B) (hat : j_at y pc = some (.aaload, a, b, z)) : j_fin C y pc ls (jI i :: jR q :: r) h = if 0 ≤ i ∧ i < (N : Int) then j_fin C y (pc + 1) ls (jR B :: r) h else none := by
  rw [j_fin_step]
  unfold j_step
  rw [hat]
  simp only [j_op, j_el, j_rg]
  rw [hK]
  simp only
  rw [if_pos trivial]
  split
  · rename_i hi
    rw [hrf hi.1 hi.2]
  · rfl
theorem S_iastore {q N : Nat} {i x : Int} (h2 : 2 ≤ q) (hK : h.1[q]? = some (32, N)) (hat : j_at y pc = some (.iastore, a, b, z)) : j_fin C y pc ls (jI x :: jI i :: jR q :: r) h = if 0 ≤ i ∧ i < (N : Int) then j_fin C y (pc + 1) ls (r) (h.1, h.2.1, j_up h.2.2 q i.toNat x) else none := by
  rw [j_fin_step]
  unfold j_step
  rw [hat]
  simp only [j_op, j_sI, j_rg]
  rw [hK, if_neg (by omega)]
  rfl
theorem S_lastore {q N : Nat} {i x : Int} (h2 : 2 ≤ q) (hK : h.1[q]? = some (33, N)) (hat : j_at y pc = some (.lastore, a, b, z)) : j_fin C y pc ls (jL x :: jI i :: jR q :: r) h = if 0 ≤ i ∧ i < (N : Int) then j_fin C y (pc + 1) ls (r) (h.1, h.2.1, j_up h.2.2 q i.toNat x) else none := by
  rw [j_fin_step]
  unfold j_step
  rw [hat]
  simp only [j_op, j_sL, j_rg]
  rw [hK, if_neg (by omega)]
  rfl
theorem S_bastore34 {q N : Nat} {i x : Int} (h2 : 2 ≤ q) (hK : h.1[q]? = some (34, N)) (hat : j_at y pc = some (.bastore, a, b, z)) : j_fin C y pc ls (jI x :: jI i :: jR q :: r) h = if 0 ≤ i ∧ i < (N : Int) then j_fin C y (pc + 1) ls (r) (h.1, h.2.1, j_up h.2.2 q i.toNat (w8 x)) else none := by
  rw [j_fin_step]
  unfold j_step
  rw [hat]
  simp only [j_op, j_sI]
  rw [hK, if_neg (by omega)]
  rfl
theorem S_bastore35 {q N : Nat} {i x : Int} (h2 : 2 ≤ q) (hK : h.1[q]? = some (35, N)) (hat : j_at y pc = some (.bastore, a, b, z)) : j_fin C y pc ls (jI x :: jI i :: jR q :: r) h = if 0 ≤ i ∧ i < (N : Int) then (if x = 0 ∨ x = 1 then j_fin C y (pc + 1) ls (r) (h.1, h.2.1, j_up h.2.2 q i.toNat x) else none) else none := by
  rw [j_fin_step]
  unfold j_step
  rw [hat]
  simp only [j_op, j_sI]
  rw [hK, if_neg (by omega)]
  simp
theorem S_alen {q k N : Nat} (hK : j_kd h q = some (k, N)) (hk : 32 ≤ k) (hat : j_at y pc = some (.arraylength, a, b, z)) : j_fin C y pc ls (jR q :: r) h = j_fin C y (pc + 1) ls (jI N :: r) h := by
  rw [j_fin_step]
  unfold j_step
  rw [hat]
  simp only [j_op]
  rw [hK]
  simp only
  rw [if_pos hk]
theorem S_get0 {q N n : Nat} (hK : h.1[q]? = some (a, N)) (hty : j_ty a b = 0) (hat : j_at y pc = some (.getfield n, a, b, z)) : j_fin C y pc ls (jR q :: r) h = j_fin C y (pc + 3) ls (jI (h.2.2 q b) :: r) h := by
  rw [j_fin_step]
  unfold j_step
  rw [hat]
  simp only [j_op, j_obk, j_fk, j_kd]
  rw [hK]
  simp only
  rw [if_pos trivial]
  unfold j_get
  rw [hty]
  rfl
theorem S_getK0 {q N n : Nat} (hK : j_kd h q = some (a, N)) (hb : b ≤ 1) (hty : j_ty a b = 0) (hat : j_at y pc = some (.getfield n, a, b, z)) : j_fin C y pc ls (jR q :: r) h = j_fin C y (pc + 3) ls (jI (h.2.2 q b) :: r) h := by
  rw [j_fin_step]
  unfold j_step
  rw [hat]
  simp only [j_op, j_obk, j_fk]
  rw [hK]
  simp only
  rw [if_pos trivial]
  unfold j_get
  rw [hty, if_pos hb]
  simp only
  split <;> rfl
theorem S_get1 {q N n : Nat} (hK : h.1[q]? = some (a, N)) (hty : j_ty a b = 1) (hat : j_at y pc = some (.getfield n, a, b, z)) : j_fin C y pc ls (jR q :: r) h = j_fin C y (pc + 3) ls (jL (h.2.2 q b) :: r) h := by
  rw [j_fin_step]
  unfold j_step
  rw [hat]
  simp only [j_op, j_obk, j_fk, j_kd]
  rw [hK]
  simp only
  rw [if_pos trivial]
  unfold j_get
  rw [hty]
  rfl
theorem S_getK1 {q N n : Nat} (hK : j_kd h q = some (a, N)) (hb : b ≤ 1) (hty : j_ty a b = 1) (hat : j_at y pc = some (.getfield n, a, b, z)) : j_fin C y pc ls (jR q :: r) h = j_fin C y (pc + 3) ls (jL (h.2.2 q b) :: r) h := by
  rw [j_fin_step]
  unfold j_step
  rw [hat]
  simp only [j_op, j_obk, j_fk]
  rw [hK]
  simp only
  rw [if_pos trivial]
  unfold j_get
  rw [hty, if_pos hb]
  simp only
  split <;> rfl
theorem S_get2 {q N n : Nat} (hK : h.1[q]? = some (a, N)) (hty : j_ty a b = 2) (hat : j_at y pc = some (.getfield n, a, b, z)) : j_fin C y pc ls (jR q :: r) h = j_fin C y (pc + 3) ls (jI (h.2.2 q b) :: r) h := by
  rw [j_fin_step]
  unfold j_step
  rw [hat]
  simp only [j_op, j_obk, j_fk, j_kd]
  rw [hK]
  simp only
  rw [if_pos trivial]
  unfold j_get
  rw [hty]
  rfl
theorem S_getK2 {q N n : Nat} (hK : j_kd h q = some (a, N)) (hb : b ≤ 1) (hty : j_ty a b = 2) (hat : j_at y pc = some (.getfield n, a, b, z)) : j_fin C y pc ls (jR q :: r) h = j_fin C y (pc + 3) ls (jI (h.2.2 q b) :: r) h := by
  rw [j_fin_step]
  unfold j_step
  rw [hat]
  simp only [j_op, j_obk, j_fk]
  rw [hK]
  simp only
  rw [if_pos trivial]
  unfold j_get
  rw [hty, if_pos hb]
  simp only
  split <;> rfl
theorem S_getR {q N n B : Nat} (hK : h.1[q]? = some (a, N)) (hty : j_ty a b = 3) (hrf : j_rf h q b = some B) (hat : j_at y pc = some (.getfield n, a, b, z)) : j_fin C y pc ls (jR q :: r) h = j_fin C y (pc + 3) ls (jR B :: r) h := by
  rw [j_fin_step]
  unfold j_step
  rw [hat]
  simp only [j_op, j_obk, j_fk, j_kd]
  rw [hK]
  simp only
  rw [if_pos trivial]
  unfold j_get j_rk1
  rw [hty, hK]
  simp only [j_op]
  rw [hrf]
theorem S_getKR {q N n B : Nat} (hK : j_kd h q = some (a, N)) (hb : b ≤ 1) (hty : j_ty a b = 3) (hrf : j_rk1 h q b = some B) (hat : j_at y pc = some (.getfield n, a, b, z)) : j_fin C y pc ls (jR q :: r) h = j_fin C y (pc + 3) ls (jR B :: r) h := by
  rw [j_fin_step]
  unfold j_step
  rw [hat]
  simp only [j_op, j_obk, j_fk]
  rw [hK]
  simp only
  rw [if_pos trivial]
  unfold j_get
  rw [hty, if_pos hb, hrf]
  simp only [j_op]
  split <;> rfl
theorem S_put0 {q N n : Nat} {x : Int} (hK : h.1[q]? = some (a, N)) (hty : j_ty a b = 0) (hat : j_at y pc = some (.putfield n, a, b, z)) : j_fin C y pc ls (jI x :: jR q :: r) h = j_fin C y (pc + 3) ls (r) (h.1, h.2.1, j_up h.2.2 q b x) := by
  rw [j_fin_step]
  unfold j_step
  rw [hat]
  simp only [j_op, j_ob]
  rw [hK]
  simp only
  rw [if_pos trivial]
  unfold j_put
  rw [hty]
  rfl
theorem S_put1 {q N n : Nat} {x : Int} (hK : h.1[q]? = some (a, N)) (hty : j_ty a b = 1) (hat : j_at y pc = some (.putfield n, a, b, z)) : j_fin C y pc ls (jL x :: jR q :: r) h = j_fin C y (pc + 3) ls (r) (h.1, h.2.1, j_up h.2.2 q b x) := by
  rw [j_fin_step]
  unfold j_step
  rw [hat]
  simp only [j_op, j_ob]
  rw [hK]
  simp only
  rw [if_pos trivial]
  unfold j_put
  rw [hty]
  rfl
theorem S_putR {q N n B : Nat} (hK : h.1[q]? = some (a, N)) (hty : j_ty a b = 3) (hat : j_at y pc = some (.putfield n, a, b, z)) : j_fin C y pc ls (jR B :: jR q :: r) h = j_fin C y (pc + 3) ls (r) (h.1, j_srf h q b B, h.2.2) := by
  rw [j_fin_step]
  unfold j_step
  rw [hat]
  simp only [j_op, j_ob]
  rw [hK]
  simp only
  rw [if_pos trivial]
  unfold j_put
  rw [hty]
  rfl
theorem S_put2 {q N n : Nat} {x : Int} (hK : h.1[q]? = some (a, N)) (hty : j_ty a b = 2) (hat : j_at y pc = some (.putfield n, a, b, z)) : j_fin C y pc ls (jI x :: jR q :: r) h = if x = 0 ∨ x = 1 then j_fin C y (pc + 3) ls (r) (h.1, h.2.1, j_up h.2.2 q b x) else none := by
  rw [j_fin_step]
  unfold j_step
  rw [hat]
  simp only [j_op, j_ob]
  rw [hK]
  simp only
  rw [if_pos trivial]
  unfold j_put
  rw [hty]
  rfl
theorem S_gets {n : Nat} (ha : a = 99) (hat : j_at y pc = some (.getstatic n, a, b, z)) : j_fin C y pc ls (r) h = j_fin C y (pc + 3) ls (jR 1 :: r) h := by
  rw [j_fin_step]
  unfold j_step
  rw [hat]
  simp only [j_op]
  rw [if_pos ha]
theorem S_getsI {n : Nat} (ha : a = 98) (hat : j_at y pc = some (.getstatic n, a, b, z)) : j_fin C y pc ls (r) h = j_fin C y (pc + 3) ls (jI 1 :: r) h := by
  rw [j_fin_step]
  unfold j_step
  rw [hat]
  simp only [j_op]
  rw [if_neg (by omega), if_pos ha]
theorem S_getsD {n : Nat} (ha : a = 96 ∨ a = 97) (hat : j_at y pc = some (.getstatic n, a, b, z)) : j_fin C y pc ls (r) h = j_fin C y (pc + 3) ls (jR (999924 + a) :: r) h := by
  rw [j_fin_step]
  unfold j_step
  rw [hat]
  simp only [j_op]
  rw [if_neg (by omega), if_neg (by omega), if_pos ha]
theorem S_pop {v : j_V} (hv : j_cat v = 1) (hat : j_at y pc = some (.pop, a, b, z)) : j_fin C y pc ls (v :: r) h = j_fin C y (pc + 1) ls (r) h := by
  rw [j_fin_step]
  unfold j_step
  rw [hat]
  simp only [j_op]
  rw [if_pos hv]
theorem S_dup_x1 {v w : j_V} (hv : j_cat v = 1) (hw : j_cat w = 1) (hat : j_at y pc = some (.dup_x1, a, b, z)) : j_fin C y pc ls (v :: w :: r) h = j_fin C y (pc + 1) ls (v :: w :: v :: r) h := by
  rw [j_fin_step]
  unfold j_step
  rw [hat]
  simp only [j_op]
  rw [if_pos ⟨hv, hw⟩]
theorem S_nnull {n : Int} {q : Nat} (hat : j_at y pc = some (.ifnonnull n, a, b, z)) : j_fin C y pc ls (jR q :: r) h = j_fin C y (a) ls (r) h := by
  rw [j_fin_step]
  unfold j_step
  rw [hat]
  rfl
theorem S_cast {n q N : Nat} (hK : h.1[q]? = some (34, N)) (hat : j_at y pc = some (.checkcast n, a, b, z)) : j_fin C y pc ls (jR q :: r) h = j_fin C y (pc + 3) ls (jR q :: r) h := by
  rw [j_fin_step]
  unfold j_step
  rw [hat]
  simp only [j_op, j_ob]
  rw [hK]
  rfl
theorem S_newarr {t : ArrayType} {n : Int} (hn : j_atc t < 36 ∧ 0 ≤ n ∧ n ≤ 100000 ∧ h.1.length < 900000) (hat : j_at y pc = some (.newarray t, a, b, z)) : j_fin C y pc ls (jI n :: r) h = j_fin C y (pc + 2) ls (jR h.1.length :: r) (j_new h (j_atc t) n.toNat) := by
  rw [j_fin_step]
  unfold j_step
  rw [hat]
  simp only [j_op, j_uI]
  rw [if_pos hn]
theorem S_cln {n A N : Nat} {st : List j_V} (ha : a = 9996) (hst : st.drop b = jR A :: r) (hK : h.1[A]? = some (34, N)) (hB : j_byt h.2.2 A 0 N = true) (hl : h.1.length < 900000) (hcat : (r.map j_cat).sum ≤ 8) (hat : j_at y pc = some (.invokevirtual n, a, b, z)) : j_fin C y pc ls (st) h = j_fin C y (pc + 3) ls (jR h.1.length :: r) (j_cln h A N) := by
  rw [j_fin_step]
  unfold j_step
  rw [hat]
  simp only [j_op]
  rw [hst]
  simp only
  rw [if_pos ha, hK]
  simp only
  rw [if_pos ⟨⟨trivial, hB⟩, hl, hcat⟩]
theorem S_new {n : Nat} (ha : a < 13 ∧ h.1.length < 900000) (hat : j_at y pc = some (.new n, a, b, z)) : j_fin C y pc ls (r) h = j_fin C y (pc + 3) ls (jR h.1.length :: r) (j_new h a (j_cz a)) := by
  rw [j_fin_step]
  unfold j_step
  rw [hat]
  simp only [j_op]
  rw [if_pos ha]
theorem S_tsw {d lo hi : Int} {offs : Array Int} {x : Int} (hat : j_at y pc = some (.tableswitch d lo hi offs, a, b, z)) : j_fin C y pc ls (jI x :: r) h = if lo ≤ x ∧ x ≤ hi then j_op (offs[(x - lo).toNat]?) none (fun o => if 0 ≤ (pc : Int) + o then j_fin C y ((pc : Int) + o).toNat ls r h else none) else if 0 ≤ (pc : Int) + d then j_fin C y ((pc : Int) + d).toNat ls r h else none := by
  rw [j_fin_step]
  unfold j_step
  rw [hat]
  rfl
theorem S_invv {n A N own kd np : Nat} {st : List j_V} (ha : a ≠ 9996) (hkn : j_kn[a]? = some (own, kd, np)) (hst : st.drop b = jR A :: r) (hK : j_kd h A = some (j_rcv own, N)) (hcat : (r.map j_cat).sum ≤ 8) (hat : j_at y pc = some (.invokevirtual n, a, b, z)) : j_fin C y pc ls (st) h = (C a (jR A :: (st.take b).reverse) h).bind fun z => j_fin C y (pc + 3) ls (z.1.toList ++ r) z.2 := by
  rw [j_fin_step]
  unfold j_step
  rw [hat]
  obtain ⟨mq, hmq, ho⟩ : ∃ mq, j_meth[a]? = some mq ∧ mq.2.2.2.2.1 = own := by
    rw [← j_kn_ok, List.getElem?_map] at hkn
    cases hm : j_meth[a]? with
    | none => rw [hm] at hkn; cases hkn
    | some mq => rw [hm] at hkn; cases hkn; exact ⟨mq, rfl, rfl⟩
  simp only [j_op]
  rw [hst]
  simp only
  rw [if_neg ha, hmq]
  simp only [j_obk]
  rw [hK, ho]
  simp only
  rw [if_pos trivial, if_pos hcat]
theorem S_objI {n A : Nat} {st : List j_V} (ha : a = 9998) (hst : st.drop b = jR A :: r) (hcat : (r.map j_cat).sum ≤ 8) (hat : j_at y pc = some (.invokespecial n, a, b, z)) : j_fin C y pc ls (st) h = j_fin C y (pc + 3) ls (r) h := by
  rw [j_fin_step]
  unfold j_step
  rw [hat]
  simp only [j_op]
  rw [if_neg (by omega), hst]
  simp only
  rw [if_pos hcat, if_pos ha]
theorem S_invi {n A own kd np : Nat} {st : List j_V} (ha : a < 9000) (hkn : j_kn[a]? = some (own, 2, np)) (hst : st.drop b = jR A :: r) (hcat : (r.map j_cat).sum ≤ 8) (hat : j_at y pc = some (.invokespecial n, a, b, z)) : j_fin C y pc ls (st) h = (C a (jR A :: (st.take b).reverse) h).bind fun z => j_fin C y (pc + 3) ls (z.1.toList ++ r) z.2 := by
  rw [j_fin_step]
  unfold j_step
  rw [hat]
  obtain ⟨mq, hmq, ho⟩ : ∃ mq, j_meth[a]? = some mq ∧ mq.2.2.2.2.2.1 = 2 := by
    rw [← j_kn_ok, List.getElem?_map] at hkn
    cases hm : j_meth[a]? with
    | none => rw [hm] at hkn; cases hkn
    | some mq => rw [hm] at hkn; exact ⟨mq, rfl, congrArg (fun q : Nat × Nat × Nat => q.2.1) (Option.some.inj hkn)⟩
  simp only [j_op]
  rw [if_neg (by omega), hst]
  simp only [j_obs]
  rw [if_pos hcat, if_neg (by omega), hmq]
  simp only
  rw [if_pos ho]
theorem S_invp {n A N own kd np : Nat} {st : List j_V} (ha : a < 9000) (hkn : j_kn[a]? = some (own, kd, np)) (hst : st.drop b = jR A :: r) (hK : j_kd h A = some (j_rcv own, N)) (hcat : (r.map j_cat).sum ≤ 8) (hat : j_at y pc = some (.invokespecial n, a, b, z)) : j_fin C y pc ls (st) h = (C a (jR A :: (st.take b).reverse) h).bind fun z => j_fin C y (pc + 3) ls (z.1.toList ++ r) z.2 := by
  rw [j_fin_step]
  unfold j_step
  rw [hat]
  obtain ⟨mq, hmq, ho⟩ : ∃ mq, j_meth[a]? = some mq ∧ mq.2.2.2.2.1 = own := by
    rw [← j_kn_ok, List.getElem?_map] at hkn
    cases hm : j_meth[a]? with
    | none => rw [hm] at hkn; cases hkn
    | some mq => rw [hm] at hkn; cases hkn; exact ⟨mq, rfl, rfl⟩
  simp only [j_op]
  rw [if_neg (by omega), hst]
  simp only [j_obs, j_obk]
  rw [if_pos hcat, if_neg (by omega), hmq]
  simp only
  rw [hK, ho]
  simp only
  rw [if_pos trivial]
  split <;> rfl
theorem S_invs {n : Nat} {st : List j_V} (ha : a < 9000) (hlen : b ≤ st.length) (hcat : ((st.drop b).map j_cat).sum ≤ 8) (hat : j_at y pc = some (.invokestatic n, a, b, z)) : j_fin C y pc ls (st) h = (C a (st.take b).reverse h).bind fun z => j_fin C y (pc + 3) ls (z.1.toList ++ st.drop b) z.2 := by
  rw [j_fin_step]
  unfold j_step
  rw [hat]
  simp only [j_op]
  rw [if_neg (by omega), if_neg (by omega), if_pos ⟨hlen, hcat⟩]
theorem S_cpy {n0 q1 q0 k N0 N1 : Nat} {n dp sp : Int} (ha : a = 9999) (hk : k = 32 ∨ k = 33) (h0 : j_kd h q0 = some (k, N0)) (h1 : h.1[q1]? = some (k, N1)) (hq : 2 ≤ q0 ∧ 2 ≤ q1) (hcat : (r.map j_cat).sum ≤ 8) (hat : j_at y pc = some (.invokestatic n0, a, b, z)) : j_fin C y pc ls (jI n :: jI dp :: jR q1 :: jI sp :: jR q0 :: r) h = if 0 ≤ n ∧ 0 ≤ sp ∧ 0 ≤ dp ∧ sp + n ≤ (N0 : Int) ∧ dp + n ≤ (N1 : Int) then j_fin C y (pc + 3) ls (r) (h.1, h.2.1, j_cpy h.2.2 q0 sp.toNat q1 dp.toNat n.toNat) else none := by
  rw [j_fin_step]
  unfold j_step
  rw [hat]
  simp only [j_op]
  rw [if_neg (by omega), if_pos ha]
  rw [h0, h1]
  simp only
  rw [if_pos ⟨by rcases hk with h | h <;> simp [h], trivial, hq.1, hq.2, hcat⟩]
theorem S_cpyB {n0 q1 q0 N0 N1 : Nat} {n dp sp : Int} (ha : a = 9999) (hB : j_byt h.2.2 q0 sp.toNat n.toNat = true) (h0 : j_kd h q0 = some (34, N0)) (h1 : h.1[q1]? = some (34, N1)) (hq : 2 ≤ q0 ∧ 2 ≤ q1) (hcat : (r.map j_cat).sum ≤ 8) (hat : j_at y pc = some (.invokestatic n0, a, b, z)) : j_fin C y pc ls (jI n :: jI dp :: jR q1 :: jI sp :: jR q0 :: r) h = if 0 ≤ n ∧ 0 ≤ sp ∧ 0 ≤ dp ∧ sp + n ≤ (N0 : Int) ∧ dp + n ≤ (N1 : Int) then j_fin C y (pc + 3) ls (r) (h.1, h.2.1, j_cpy h.2.2 q0 sp.toNat q1 dp.toNat n.toNat) else none := by
  rw [j_fin_step]
  unfold j_step
  rw [hat]
  simp only [j_op]
  rw [if_neg (by omega), if_pos ha]
  rw [h0, h1]
  simp only
  rw [if_pos ⟨.inr (.inr ⟨trivial, hB⟩), trivial, hq.1, hq.2, hcat⟩]
theorem S_ireti {x : Int} (hr : j_ret y = 1) (hat : j_at y pc = some (.ireturn, a, b, z)) : j_fin C y pc ls ([jI x]) h = some (some (jI x), h) := by
  rw [j_fin_step]
  unfold j_step
  rw [hat]
  simp only [j_op]
  rw [if_pos hr]
theorem S_iretz {x : Int} (hr : j_ret y = 3) (hat : j_at y pc = some (.ireturn, a, b, z)) : j_fin C y pc ls ([jI x]) h = if x = 0 ∨ x = 1 then some (some (jI x), h) else none := by
  rw [j_fin_step]
  unfold j_step
  rw [hat]
  simp only [j_op]
  rw [if_neg (by rw [hr]; decide), if_pos hr]
theorem S_iretb {x : Int} (hr : j_ret y = 4) (hx : -128 ≤ x ∧ x ≤ 127) (hat : j_at y pc = some (.ireturn, a, b, z)) : j_fin C y pc ls ([jI x]) h = some (some (jI x), h) := by
  rw [j_fin_step]
  unfold j_step
  rw [hat]
  simp only [j_op]
  rw [if_neg (by rw [hr]; decide), if_neg (by rw [hr]; decide), if_pos hr, if_pos hx]
theorem S_iretc {x : Int} (hr : j_ret y = 5) (hx : 0 ≤ x ∧ x ≤ 65535) (hat : j_at y pc = some (.ireturn, a, b, z)) : j_fin C y pc ls ([jI x]) h = some (some (jI x), h) := by
  rw [j_fin_step]
  unfold j_step
  rw [hat]
  simp only [j_op]
  rw [if_neg (by rw [hr]; decide), if_neg (by rw [hr]; decide), if_neg (by rw [hr]; decide), if_pos hr, if_pos hx]
theorem S_aret {q : Nat} (hr : j_ret y = 6) (hat : j_at y pc = some (.areturn, a, b, z)) : j_fin C y pc ls ([jR q]) h = some (some (jR q), h) := by
  rw [j_fin_step]
  unfold j_step
  rw [hat]
  simp only [j_op]
  rw [if_pos hr]
theorem S_lret {x : Int} (hr : j_ret y = 2) (hat : j_at y pc = some (.lreturn, a, b, z)) : j_fin C y pc ls ([jL x]) h = some (some (jL x), h) := by
  rw [j_fin_step]
  unfold j_step
  rw [hat]
  simp only [j_op]
  rw [if_pos hr]
theorem S_ret (hr : j_ret y = 0) (hat : j_at y pc = some (.return_, a, b, z)) : j_fin C y pc ls (([] : List j_V)) h = some (none, h) := by
  rw [j_fin_step]
  unfold j_step
  rw [hat]
  simp only [j_op]
  rw [if_pos hr]
end ST
