/-! THE ABSTRACT MACHINE: values are numbers, the heap is (kinds and sizes, references, numbers). -/
abbrev j_V : Type := Int ⊕ (Int ⊕ Nat)
abbrev jI (x : Int) : j_V := Sum.inl x
abbrev jL (x : Int) : j_V := Sum.inr (Sum.inl x)
abbrev jR (a : Nat) : j_V := Sum.inr (Sum.inr a)
abbrev j_M0 : Type := Nat → Nat → Int
/-- kinds: below 32 an object of that class; 32 ints, 33 longs, 34 bytes, 35 booleans, 36 references -/
abbrev j_H : Type := List (Nat × Nat) × List (List (Option Nat)) × j_M0
abbrev j_L : Type := List (Option j_V)
abbrev j_Z : Type := Option j_V × j_H
def w32 (x : Int) : Int := Int.bmod x 4294967296
def w64 (x : Int) : Int := Int.bmod x 18446744073709551616
def w16 (x : Int) : Int := Int.bmod x 65536
def w8 (x : Int) : Int := Int.bmod x 256
def j_ushr (x y : Int) : Int := ((Int32.ofInt x).toUInt32 >>> ((Int32.ofInt y).toUInt32 &&& Int32.toUInt32 31)).toInt32.toInt
def j_and (x y : Int) : Int := (Int32.ofInt x &&& Int32.ofInt y).toInt
def j_shl (x y : Int) : Int := (Int32.ofInt x <<< (Int32.ofInt y &&& 31)).toInt
def j_shr (x y : Int) : Int := (Int32.ofInt x >>> (Int32.ofInt y &&& 31)).toInt
def j_chr (x : Int) : Int := ((Int32.ofInt x).toUInt32 % 65536).toInt32.toInt
/-- of what class an object is whose method of class o is called -/
def j_rcv (o : Nat) : Nat := if o = 16 then 1 else o
def j_xor (x y : Int) : Int := (Int32.ofInt x ^^^ Int32.ofInt y).toInt
def j_land (x y : Int) : Int := (Int64.ofInt x &&& Int64.ofInt y).toInt
def j_lor (x y : Int) : Int := (Int64.ofInt x ||| Int64.ofInt y).toInt
def j_lxor (x y : Int) : Int := (Int64.ofInt x ^^^ Int64.ofInt y).toInt
def j_lshl (x y : Int) : Int := (Int64.ofInt x <<< ((Int32.ofInt y).toInt64 &&& 63)).toInt
def j_cmp (x y : Int) : Int := if x < y then -1 else if x = y then 0 else 1
def j_up (m : j_M0) (a k : Nat) (v : Int) : j_M0 := fun b j => if b = a then (if j = k then v else m b j) else m b j
def j_zero (m : j_M0) (a : Nat) : j_M0 := fun b j => if b = a then 0 else m b j
/-- the row of n from dp on of b becomes what was the row from sp on of a -/
def j_cpy (m : j_M0) (a sp b dp n : Nat) : j_M0 := fun c j => if c = b then (if dp ≤ j ∧ j < dp + n then m a (sp + (j - dp)) else m c j) else m c j
def j_lk {α : Type} : List (Nat × α) → Nat → Option α
  | [], _ => none
  | (k, v) :: r, n => if k = n then some v else j_lk r n
noncomputable def j_at (y pc : Nat) : Option j_I := match j_code[y]? with
  | some c => j_lk c pc
  | none => none
def j_rf (h : j_H) (a k : Nat) : Option Nat := (h.2.1.getD a []).getD k none
/-- what stands ahead of the start and stays: from 1000000 on each text (even: its object, odd: its bytes), then DigitOnes, DigitTens -/
def j_kc (a : Nat) : Option (Nat × Nat) := if a < 1000000 then none else if a < 1000020 then (if a % 2 = 0 then some (0, 4) else (j_tx[(a - 1000000) / 2]?).map (fun t => (34, t.2.2.length))) else if a < 1000022 then some (34, 100) else none
/-- kind and size of a cell, of those too -/
def j_kd (h : j_H) (a : Nat) : Option (Nat × Nat) := match h.1[a]? with
  | some q => some q
  | none => j_kc a
def j_rk1 (h : j_H) (a k : Nat) : Option Nat := match h.1[a]? with
  | some _ => j_rf h a k
  | none => if 1000000 ≤ a ∧ k = 0 then some (a + 1) else none
def j_srf (h : j_H) (a k q : Nat) : List (List (Option Nat)) := h.2.1.set a ((h.2.1.getD a []).set k (some q))
/-- a field's type: 0 int, 1 long, 2 boolean or byte, 3 a reference -/
def j_tc : FieldType → Nat
  | .int => 0
  | .long => 1
  | .boolean => 2
  | .byte => 2
  | _ => 3
def j_ty (c k : Nat) : Nat := match c with
  | 0 => j_tc (tyJ0 k) | 1 => j_tc (tyJ4 k) | 2 => j_tc (tyX0 k) | 3 => j_tc (tyX1 k) | 4 => j_tc (tyX2 k) | 5 => j_tc (tyX3 k) | 6 => j_tc (tyX4 k)
  | 7 => j_tc (tyX5 k) | 8 => j_tc (tyX6 k) | 9 => j_tc (tyX7 k) | 10 => j_tc (tyX8 k) | 11 => j_tc (tyX9 k) | _ => j_tc (tyX10 k)
def j_cz (c : Nat) : Nat := match vwCl[c]? with
  | some q => q.2.2
  | none => 0
def j_isL : j_V → Bool
  | .inr (.inl _) => true
  | _ => false
def j_pre (ls : j_L) (k : Nat) : Bool := match k with
  | 0 => true
  | j + 1 => match ls[j]? with
    | some (some v) => !(j_isL v)
    | _ => true
def j_cat : j_V → Nat
  | .inr (.inl _) => 2
  | _ => 1
def j_ld (ls : j_L) (k : Nat) : Option j_V := match ls[k]? with
  | some o => o
  | none => none
/-- what goes on behind a store of one or two places -/
def j_s1 (ls : j_L) (k : Nat) (v : j_V) : Option j_L := if j_pre ls k = true then (if k < ls.length then some (ls.set k (some v)) else none) else none
def j_s2 (ls : j_L) (k : Nat) (v : j_V) : Option j_L := if j_pre ls k = true then (if k + 1 < ls.length then some ((ls.set k (some v)).set (k + 1) none) else none) else none
def j_ret (y : Nat) : Nat := j_rk.getD y 4
section J1
variable {α : Type}
def j_bI (st : List j_V) (bad : α) (k : Int → Int → List j_V → α) : α := match st with
  | .inl y :: .inl x :: r => k x y r
  | _ => bad
def j_bL (st : List j_V) (bad : α) (k : Int → Int → List j_V → α) : α := match st with
  | .inr (.inl y) :: .inr (.inl x) :: r => k x y r
  | _ => bad
def j_uI (st : List j_V) (bad : α) (k : Int → List j_V → α) : α := match st with
  | .inl x :: r => k x r
  | _ => bad
def j_uL (st : List j_V) (bad : α) (k : Int → List j_V → α) : α := match st with
  | .inr (.inl x) :: r => k x r
  | _ => bad
/-- an element's array and place -/
def j_el (st : List j_V) (bad : α) (k : Nat → Int → List j_V → α) : α := match st with
  | .inl i :: .inr (.inr q) :: r => k q i r
  | _ => bad
def j_sI (st : List j_V) (bad : α) (k : Nat → Int → Int → List j_V → α) : α := match st with
  | .inl x :: .inl i :: .inr (.inr q) :: r => k q i x r
  | _ => bad
def j_sL (st : List j_V) (bad : α) (k : Nat → Int → Int → List j_V → α) : α := match st with
  | .inr (.inl x) :: .inl i :: .inr (.inr q) :: r => k q i x r
  | _ => bad
def j_rg (h : j_H) (q kd : Nat) (i : Int) (bad : α) (k : α) : α := match h.1[q]? with
  | some (c, n) => if c = kd then (if 0 ≤ i ∧ i < n then k else bad) else bad
  | none => bad
def j_ob (h : j_H) (q c : Nat) (bad : α) (k : α) : α := match h.1[q]? with
  | some (d, _) => if d = c then k else bad
  | none => bad
/-- loads: of what stands ahead of the start, too -/
def j_rgk (h : j_H) (q kd : Nat) (i : Int) (bad : α) (k : α) : α := match j_kd h q with
  | some (c, n) => if c = kd then (if 0 ≤ i ∧ i < n then k else bad) else bad
  | none => bad
def j_obk (h : j_H) (q c : Nat) (bad : α) (k : α) : α := match j_kd h q with
  | some (d, _) => if d = c then k else bad
  | none => bad
def j_op {β : Type} (o : Option β) (bad : α) (k : β → α) : α := match o with
  | some b => k b
  | none => bad
def j_new (h : j_H) (c n : Nat) : j_H := (h.1 ++ [(c, n)], h.2.1 ++ [List.replicate (if c < 32 then n else if c = 36 then n else 0) none], j_zero h.2.2 h.1.length)
def j_mul (h : j_H) (n : Nat) : Nat → j_H
  | 0 => h
  | k + 1 => j_new (j_mul h n k) 33 n
/-- new long[k][n] -/
def j_mna (h : j_H) (k n : Nat) : j_H := j_mul (h.1 ++ [(36, k)], h.2.1 ++ [(List.range k).map (fun i => some (h.1.length + 1 + i))], j_zero h.2.2 h.1.length) n k
/-- bytes are bytes -/
def j_byt (m : j_M0) (a sp n : Nat) : Bool := (List.range n).all (fun i => decide (-128 ≤ m a (sp + i) ∧ m a (sp + i) ≤ 127))
/-- fields of what stands ahead of the start: its bytes and their kind alone -/
def j_fk (h : j_H) (a k : Nat) (bad : α) (g : α) : α := match h.1[a]? with
  | some _ => g
  | none => if k ≤ 1 then g else bad
/-- a copy of a row of bytes -/
def j_cln (h : j_H) (a n : Nat) : j_H := (h.1 ++ [(34, n)], h.2.1 ++ [[]], j_cpy (j_zero h.2.2 h.1.length) a 0 h.1.length 0 n)
/-- a special call: of a method that isn't an init the object must be of the class that it is called of -/
noncomputable def j_obs (h : j_H) (a y : Nat) (bad : α) (k : α) : α := match j_meth[y]? with
  | some m => if m.2.2.2.2.2.1 = 2 then k else j_obk h a (j_rcv m.2.2.2.2.1) bad k
  | none => bad
def j_get (h : j_H) (q c k : Nat) (bad : α) (g : j_V → α) : α := match j_ty c k with
  | 0 => g (jI (h.2.2 q k))
  | 1 => g (jL (h.2.2 q k))
  | 2 => g (jI (h.2.2 q k))
  | _ => j_op (j_rk1 h q k) bad (fun a => g (jR a))
def j_put (h : j_H) (q c k : Nat) (v : j_V) (bad : α) (g : j_H → α) : α := match j_ty c k with
  | 0 => (match v with
    | .inl x => g (h.1, h.2.1, j_up h.2.2 q k x)
    | _ => bad)
  | 1 => (match v with
    | .inr (.inl x) => g (h.1, h.2.1, j_up h.2.2 q k x)
    | _ => bad)
  | 2 => (match v with
    | .inl x => if x = 0 ∨ x = 1 then g (h.1, h.2.1, j_up h.2.2 q k x) else bad
    | _ => bad)
  | _ => (match v with
    | .inr (.inr a) => g (h.1, j_srf h q k a, h.2.2)
    | _ => bad)
def j_atc (t : ArrayType) : Nat := match t with
  | .int => 32
  | .long => 33
  | .byte => 34
  | .boolean => 35
  | _ => 99
def j_if (st : List j_V) (bad : α) (c : Int → Prop) [DecidablePred c] (t f : List j_V → α) : α := match st with
  | .inl x :: r => if c x then t r else f r
  | _ => bad
def j_if2 (st : List j_V) (bad : α) (c : Int → Int → Prop) [∀ x y, Decidable (c x y)] (t f : List j_V → α) : α := match st with
  | .inl y :: .inl x :: r => if c x y then t r else f r
  | _ => bad
noncomputable def j_step (y pc : Nat) (ls : j_L) (st : List j_V) (h : j_H) (bad : α) (nx : Nat → j_L → List j_V → j_H → α) (rt : Option j_V → j_H → α) (cl : Nat → List j_V → List j_V → α) : α :=
  j_op (j_at y pc) bad (fun q => match q.1 with
  | .aload_n k => (match j_ld ls k.val with
    | some (.inr (.inr a)) => nx (pc + 1) ls (jR a :: st) h
    | _ => bad)
  | .aload k => (match j_ld ls k with
    | some (.inr (.inr a)) => nx (pc + 2) ls (jR a :: st) h
    | _ => bad)
  | .iload_n k => (match j_ld ls k.val with
    | some (.inl x) => nx (pc + 1) ls (jI x :: st) h
    | _ => bad)
  | .iload k => (match j_ld ls k with
    | some (.inl x) => nx (pc + 2) ls (jI x :: st) h
    | _ => bad)
  | .lload_n k => (match j_ld ls k.val with
    | some (.inr (.inl x)) => nx (pc + 1) ls (jL x :: st) h
    | _ => bad)
  | .lload k => (match j_ld ls k with
    | some (.inr (.inl x)) => nx (pc + 2) ls (jL x :: st) h
    | _ => bad)
  | .istore_n k => j_uI st bad (fun x r => j_op (j_s1 ls k.val (jI x)) bad (fun l => nx (pc + 1) l r h))
  | .istore k => j_uI st bad (fun x r => j_op (j_s1 ls k (jI x)) bad (fun l => nx (pc + 2) l r h))
  | .lstore_n k => j_uL st bad (fun x r => j_op (j_s2 ls k.val (jL x)) bad (fun l => nx (pc + 1) l r h))
  | .lstore k => j_uL st bad (fun x r => j_op (j_s2 ls k (jL x)) bad (fun l => nx (pc + 2) l r h))
  | .astore_n k => (match st with
    | .inr (.inr a) :: r => j_op (j_s1 ls k.val (jR a)) bad (fun l => nx (pc + 1) l r h)
    | _ => bad)
  | .astore k => (match st with
    | .inr (.inr a) :: r => j_op (j_s1 ls k (jR a)) bad (fun l => nx (pc + 2) l r h)
    | _ => bad)
  | .iinc k n => (match j_ld ls k with
    | some (.inl x) => j_op (j_s1 ls k (jI (w32 (x + n)))) bad (fun l => nx (pc + 3) l st h)
    | _ => bad)
  | .iconst _ => nx (pc + 1) ls (jI q.2.2.2 :: st) h
  | .bipush _ => nx (pc + 2) ls (jI q.2.2.2 :: st) h
  | .sipush _ => nx (pc + 3) ls (jI q.2.2.2 :: st) h
  | .lconst _ => nx (pc + 1) ls (jL q.2.2.2 :: st) h
  | .ldc _ => if q.2.1 = 0 then nx (pc + 2) ls (jI q.2.2.2 :: st) h else if q.2.1 = 1 then nx (pc + 2) ls (jR (1000000 + 2 * q.2.2.1) :: st) h else bad
  | .ldc_w _ => if q.2.1 = 0 then nx (pc + 3) ls (jI q.2.2.2 :: st) h else bad
  | .ldc2_w _ => nx (pc + 3) ls (jL q.2.2.2 :: st) h
  | .iadd => j_bI st bad (fun x y r => nx (pc + 1) ls (jI (w32 (x + y)) :: r) h)
  | .isub => j_bI st bad (fun x y r => nx (pc + 1) ls (jI (w32 (x - y)) :: r) h)
  | .imul => j_bI st bad (fun x y r => nx (pc + 1) ls (jI (w32 (x * y)) :: r) h)
  | .idiv => j_bI st bad (fun x y r => if y = 0 then bad else nx (pc + 1) ls (jI (w32 (x.tdiv y)) :: r) h)
  | .irem => j_bI st bad (fun x y r => if y = 0 then bad else nx (pc + 1) ls (jI (x.tmod y) :: r) h)
  | .iand => j_bI st bad (fun x y r => nx (pc + 1) ls (jI (j_and x y) :: r) h)
  | .ishl => j_bI st bad (fun x y r => nx (pc + 1) ls (jI (j_shl x y) :: r) h)
  | .ishr => j_bI st bad (fun x y r => nx (pc + 1) ls (jI (j_shr x y) :: r) h)
  | .ixor => j_bI st bad (fun x y r => nx (pc + 1) ls (jI (j_xor x y) :: r) h)
  | .iushr => j_bI st bad (fun x y r => nx (pc + 1) ls (jI (j_ushr x y) :: r) h)
  | .ineg => j_uI st bad (fun x r => nx (pc + 1) ls (jI (w32 (-x)) :: r) h)
  | .ladd => j_bL st bad (fun x y r => nx (pc + 1) ls (jL (w64 (x + y)) :: r) h)
  | .lsub => j_bL st bad (fun x y r => nx (pc + 1) ls (jL (w64 (x - y)) :: r) h)
  | .lmul => j_bL st bad (fun x y r => nx (pc + 1) ls (jL (w64 (x * y)) :: r) h)
  | .ldiv => j_bL st bad (fun x y r => if y = 0 then bad else nx (pc + 1) ls (jL (w64 (x.tdiv y)) :: r) h)
  | .lrem => j_bL st bad (fun x y r => if y = 0 then bad else nx (pc + 1) ls (jL (x.tmod y) :: r) h)
  | .land => j_bL st bad (fun x y r => nx (pc + 1) ls (jL (j_land x y) :: r) h)
  | .lor => j_bL st bad (fun x y r => nx (pc + 1) ls (jL (j_lor x y) :: r) h)
  | .lxor => j_bL st bad (fun x y r => nx (pc + 1) ls (jL (j_lxor x y) :: r) h)
  | .lneg => j_uL st bad (fun x r => nx (pc + 1) ls (jL (w64 (-x)) :: r) h)
  | .lshl => (match st with
    | .inl y :: .inr (.inl x) :: r => nx (pc + 1) ls (jL (j_lshl x y) :: r) h
    | _ => bad)
  | .lcmp => j_bL st bad (fun x y r => nx (pc + 1) ls (jI (j_cmp x y) :: r) h)
  | .i2l => j_uI st bad (fun x r => nx (pc + 1) ls (jL x :: r) h)
  | .l2i => j_uL st bad (fun x r => nx (pc + 1) ls (jI (w32 x) :: r) h)
  | .i2b => j_uI st bad (fun x r => nx (pc + 1) ls (jI (w8 x) :: r) h)
  | .i2s => j_uI st bad (fun x r => nx (pc + 1) ls (jI (w16 x) :: r) h)
  | .i2c => j_uI st bad (fun x r => nx (pc + 1) ls (jI (j_chr x) :: r) h)
  | .pop => (match st with
    | v :: r => if j_cat v = 1 then nx (pc + 1) ls r h else bad
    | _ => bad)
  | .dup_x1 => (match st with
    | v :: w :: r => if j_cat v = 1 ∧ j_cat w = 1 then nx (pc + 1) ls (v :: w :: v :: r) h else bad
    | _ => bad)
  | .ifnonnull _ => (match st with
    | .inr (.inr _) :: r => nx q.2.1 ls r h
    | _ => bad)
  | .checkcast _ => (match st with
    | .inr (.inr a) :: r => j_ob h a 34 bad (nx (pc + 3) ls (jR a :: r) h)
    | _ => bad)
  | .dup => (match st with
    | v :: r => if j_cat v = 1 then nx (pc + 1) ls (v :: v :: r) h else bad
    | _ => bad)
  | .dup2 => (match st with
    | .inr (.inl x) :: r => nx (pc + 1) ls (jL x :: jL x :: r) h
    | v :: w :: r => if j_cat v = 1 ∧ j_cat w = 1 then nx (pc + 1) ls (v :: w :: v :: w :: r) h else bad
    | _ => bad)
  | .goto _ => nx q.2.1 ls st h
  | .ifCond .eq _ => j_if st bad (fun x => x = 0) (fun r => nx q.2.1 ls r h) (fun r => nx (pc + 3) ls r h)
  | .ifCond .ne _ => j_if st bad (fun x => x = 0) (fun r => nx (pc + 3) ls r h) (fun r => nx q.2.1 ls r h)
  | .ifCond .lt _ => j_if st bad (fun x => x < 0) (fun r => nx q.2.1 ls r h) (fun r => nx (pc + 3) ls r h)
  | .ifCond .ge _ => j_if st bad (fun x => x < 0) (fun r => nx (pc + 3) ls r h) (fun r => nx q.2.1 ls r h)
  | .ifCond .gt _ => j_if st bad (fun x => 0 < x) (fun r => nx q.2.1 ls r h) (fun r => nx (pc + 3) ls r h)
  | .ifCond .le _ => j_if st bad (fun x => 0 < x) (fun r => nx (pc + 3) ls r h) (fun r => nx q.2.1 ls r h)
  | .if_icmp .eq _ => j_if2 st bad (fun x y => x = y) (fun r => nx q.2.1 ls r h) (fun r => nx (pc + 3) ls r h)
  | .if_icmp .ne _ => j_if2 st bad (fun x y => x = y) (fun r => nx (pc + 3) ls r h) (fun r => nx q.2.1 ls r h)
  | .if_icmp .lt _ => j_if2 st bad (fun x y => x < y) (fun r => nx q.2.1 ls r h) (fun r => nx (pc + 3) ls r h)
  | .if_icmp .ge _ => j_if2 st bad (fun x y => x < y) (fun r => nx (pc + 3) ls r h) (fun r => nx q.2.1 ls r h)
  | .if_icmp .gt _ => j_if2 st bad (fun x y => y < x) (fun r => nx q.2.1 ls r h) (fun r => nx (pc + 3) ls r h)
  | .if_icmp .le _ => j_if2 st bad (fun x y => y < x) (fun r => nx (pc + 3) ls r h) (fun r => nx q.2.1 ls r h)
  | .tableswitch d lo hi offs => j_uI st bad (fun x r => if lo ≤ x ∧ x ≤ hi then j_op (offs[(x - lo).toNat]?) bad (fun o => if 0 ≤ (pc : Int) + o then nx ((pc : Int) + o).toNat ls r h else bad) else if 0 ≤ (pc : Int) + d then nx ((pc : Int) + d).toNat ls r h else bad)
  | .iaload => j_el st bad (fun a i r => j_rg h a 32 i bad (nx (pc + 1) ls (jI (h.2.2 a i.toNat) :: r) h))
  | .laload => j_el st bad (fun a i r => j_rg h a 33 i bad (nx (pc + 1) ls (jL (h.2.2 a i.toNat) :: r) h))
  | .baload => j_el st bad (fun a i r => match j_kd h a with
    | some (c, n) => if (c = 34 ∨ c = 35) ∧ 0 ≤ i ∧ i < n then nx (pc + 1) ls (jI (h.2.2 a i.toNat) :: r) h else bad
    | none => bad)
  | .aaload => j_el st bad (fun a i r => j_rg h a 36 i bad (j_op (j_rf h a i.toNat) bad (fun b => nx (pc + 1) ls (jR b :: r) h)))
  | .iastore => j_sI st bad (fun a i x r => if a < 2 then bad else j_rg h a 32 i bad (nx (pc + 1) ls r (h.1, h.2.1, j_up h.2.2 a i.toNat x)))
  | .lastore => j_sL st bad (fun a i x r => if a < 2 then bad else j_rg h a 33 i bad (nx (pc + 1) ls r (h.1, h.2.1, j_up h.2.2 a i.toNat x)))
  | .bastore => j_sI st bad (fun a i x r => if a < 2 then bad else match h.1[a]? with
    | some (c, n) => if 0 ≤ i ∧ i < n then (if c = 34 then nx (pc + 1) ls r (h.1, h.2.1, j_up h.2.2 a i.toNat (w8 x)) else if c = 35 ∧ (x = 0 ∨ x = 1) then nx (pc + 1) ls r (h.1, h.2.1, j_up h.2.2 a i.toNat x) else bad) else bad
    | none => bad)
  | .arraylength => (match st with
    | .inr (.inr a) :: r => (match j_kd h a with
      | some (c, n) => if 32 ≤ c then nx (pc + 1) ls (jI n :: r) h else bad
      | none => bad)
    | _ => bad)
  | .getfield _ => (match st with
    | .inr (.inr a) :: r => j_obk h a q.2.1 bad (j_fk h a q.2.2.1 bad <| j_get h a q.2.1 q.2.2.1 bad (fun v => nx (pc + 3) ls (v :: r) h))
    | _ => bad)
  | .putfield _ => (match st with
    | v :: .inr (.inr a) :: r => j_ob h a q.2.1 bad (j_put h a q.2.1 q.2.2.1 v bad (fun h1 => nx (pc + 3) ls r h1))
    | _ => bad)
  | .getstatic _ => if q.2.1 = 99 then nx (pc + 3) ls (jR 1 :: st) h else if q.2.1 = 98 then nx (pc + 3) ls (jI 1 :: st) h else if q.2.1 = 96 ∨ q.2.1 = 97 then nx (pc + 3) ls (jR (999924 + q.2.1) :: st) h else bad
  | .new _ => if q.2.1 < 13 ∧ h.1.length < 900000 then nx (pc + 3) ls (jR h.1.length :: st) (j_new h q.2.1 (j_cz q.2.1)) else bad
  | .newarray t => j_uI st bad (fun n r => if j_atc t < 36 ∧ 0 ≤ n ∧ n ≤ 100000 ∧ h.1.length < 900000 then nx (pc + 2) ls (jR h.1.length :: r) (j_new h (j_atc t) n.toNat) else bad)
  | .multianewarray _ _ => (match st with
    | .inl n :: .inl k :: r => if (0 ≤ n ∧ n ≤ 1000 ∧ 0 ≤ k ∧ k ≤ 1000 ∧ h.1.length < 900000) ∧ h.1.any (fun q => q.1 == 33) = true then nx (pc + 4) ls (jR h.1.length :: r) (j_mna h k.toNat n.toNat) else bad
    | _ => bad)
  | .invokevirtual _ => (match (st.drop q.2.2.1) with
    | .inr (.inr a) :: r => if q.2.1 = 9996 then (match h.1[a]? with
      | some (c, n) => if (c = 34 ∧ j_byt h.2.2 a 0 n = true) ∧ h.1.length < 900000 ∧ (r.map j_cat).sum ≤ 8 then nx (pc + 3) ls (jR h.1.length :: r) (j_cln h a n) else bad
      | none => bad) else (match j_meth[q.2.1]? with
      | some m => j_obk h a (j_rcv m.2.2.2.2.1) bad (if (r.map j_cat).sum ≤ 8 then cl q.2.1 (jR a :: (st.take q.2.2.1).reverse) r else bad)
      | none => bad)
    | _ => bad)
  | .invokespecial _ => if q.2.1 = 9997 then bad else (match (st.drop q.2.2.1) with
    | .inr (.inr a) :: r => if (r.map j_cat).sum ≤ 8 then (if q.2.1 = 9998 then nx (pc + 3) ls r h else j_obs h a q.2.1 bad (cl q.2.1 (jR a :: (st.take q.2.2.1).reverse) r)) else bad
    | _ => bad)
  | .invokestatic _ => if q.2.1 = 9997 then bad else if q.2.1 = 9999 then (match st with
    | .inl n :: .inl dp :: .inr (.inr b) :: .inl sp :: .inr (.inr a) :: r => (match j_kd h a, h.1[b]? with
      | some (c, n0), some (d, n1) => if (c = 32 ∨ c = 33 ∨ (c = 34 ∧ j_byt h.2.2 a sp.toNat n.toNat = true)) ∧ c = d ∧ 2 ≤ a ∧ 2 ≤ b ∧ (r.map j_cat).sum ≤ 8 then (if 0 ≤ n ∧ 0 ≤ sp ∧ 0 ≤ dp ∧ sp + n ≤ n0 ∧ dp + n ≤ n1 then nx (pc + 3) ls r (h.1, h.2.1, j_cpy h.2.2 a sp.toNat b dp.toNat n.toNat) else bad) else bad
      | _, _ => bad)
    | _ => bad) else if q.2.2.1 ≤ st.length ∧ ((st.drop q.2.2.1).map j_cat).sum ≤ 8 then cl q.2.1 (st.take q.2.2.1).reverse (st.drop q.2.2.1) else bad
  | .ireturn => (match st with
    | [.inl x] => if j_ret y = 1 then rt (some (jI x)) h else if j_ret y = 3 then (if x = 0 ∨ x = 1 then rt (some (jI x)) h else bad) else if j_ret y = 4 then (if -128 ≤ x ∧ x ≤ 127 then rt (some (jI x)) h else bad) else if j_ret y = 5 then (if 0 ≤ x ∧ x ≤ 65535 then rt (some (jI x)) h else bad) else bad
    | _ => bad)
  | .areturn => (match st with
    | [.inr (.inr a)] => if j_ret y = 6 then rt (some (jR a)) h else bad
    | _ => bad)
  | .lreturn => (match st with
    | [.inr (.inl x)] => if j_ret y = 2 then rt (some (jL x)) h else bad
    | _ => bad)
  | .return_ => (match st with
    | [] => if j_ret y = 0 then rt none h else bad
    | _ => bad)
  | _ => bad)
end J1
/-- what a step is: nothing (stuck), or on, or an answer, or a call -/
abbrev j_R : Type := Option ((Nat × j_L × List j_V × j_H) ⊕ ((Option j_V × j_H) ⊕ (Nat × List j_V × List j_V)))
noncomputable def j_res (y pc : Nat) (ls : j_L) (st : List j_V) (h : j_H) : j_R := j_step y pc ls st h none (fun a b c d => some (.inl (a, b, c, d))) (fun v g => some (.inr (.inl (v, g)))) (fun a b c => some (.inr (.inr (a, b, c))))
def j_by {α : Type} (q : j_R) (bad : α) (nx : Nat → j_L → List j_V → j_H → α) (rt : Option j_V → j_H → α) (cl : Nat → List j_V → List j_V → α) : α := match q with
  | none => bad
  | some (.inl (a, b, c, d)) => nx a b c d
  | some (.inr (.inl (v, g))) => rt v g
  | some (.inr (.inr (a, b, c))) => cl a b c
