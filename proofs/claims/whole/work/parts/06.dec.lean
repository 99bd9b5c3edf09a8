/-! Every instruction of every method, decoded and looked up: decided by the kernel, a method at a time (by program). -/
def j_cnm (o : Nat) : String := j_cn.getD o ""
def j_ln (i : Instr) (n : Nat) : Bool := match i with
  | .aload _ => n == 2 | .iload _ => n == 2 | .lload _ => n == 2 | .istore _ => n == 2 | .lstore _ => n == 2 | .bipush _ => n == 2 | .ldc _ => n == 2 | .newarray _ => n == 2
  | .multianewarray _ d => n == 4 && d == 2
  | .tableswitch _ _ _ _ => true
  | .iinc _ _ => n == 3 | .sipush _ => n == 3 | .ldc_w _ => n == 3 | .ldc2_w _ => n == 3 | .goto _ => n == 3 | .ifCond _ _ => n == 3 | .if_icmp _ _ => n == 3
  | .getfield _ => n == 3 | .putfield _ => n == 3 | .getstatic _ => n == 3 | .new _ => n == 3 | .invokevirtual _ => n == 3 | .invokespecial _ => n == 3 | .invokestatic _ => n == 3
  | _ => n == 1
def j_dk (cc : ByteArray) (r : Nat × j_I) : Bool := match decode cc r.1 with
  | .ok (i, n) => decide (i = r.2.1) && j_ln i n
  | _ => false
def j_fin? (ci k : Nat) : Bool := match vwCl[ci]? with
  | some q => (q.2.1 k).2.2.2
  | none => false
/-- of each method: its class, kind, how many it takes -/
def j_kn : List (Nat × Nat × Nat) := [(0, 2, 0), (0, 0, 0), (0, 0, 2), (0, 0, 2), (0, 0, 3), (0, 0, 4), (0, 0, 2), (1, 2, 0), (1, 0, 1), (1, 0, 1), (1, 0, 2), (1, 0, 2), (1, 0, 3), (1, 0, 2), (1, 0, 1), (1, 0, 1), (1, 0, 2), (1, 0, 3), (1, 0, 2), (1, 1, 1), (2, 2, 0), (2, 0, 1), (2, 0, 0), (2, 0, 1), (2, 0, 1), (2, 0, 3), (2, 0, 2), (2, 0, 3), (3, 2, 0), (3, 0, 2), (3, 0, 1), (4, 2, 0), (4, 0, 1), (4, 0, 1), (4, 0, 2), (4, 0, 3), (4, 0, 1), (5, 2, 0), (5, 0, 1), (5, 0, 2), (5, 0, 2), (5, 0, 2), (5, 0, 2), (5, 0, 1), (5, 0, 1), (5, 0, 0), (5, 0, 0), (5, 0, 1), (5, 0, 3), (5, 0, 2), (5, 0, 3), (5, 0, 5), (5, 0, 1), (5, 0, 1), (5, 0, 1), (5, 0, 1), (5, 0, 0), (5, 0, 0), (5, 0, 2), (5, 0, 1), (6, 2, 0), (6, 0, 3), (6, 0, 2), (6, 0, 3), (7, 2, 0), (7, 0, 1), (7, 0, 1), (7, 0, 0), (7, 0, 1), (7, 0, 0), (7, 0, 0), (7, 0, 1), (7, 0, 1), (8, 2, 0), (8, 0, 1), (8, 0, 2), (8, 0, 1), (8, 0, 1), (8, 0, 0), (8, 0, 1), (9, 2, 0), (9, 0, 2), (9, 0, 0), (9, 0, 2), (9, 0, 0), (9, 0, 0), (9, 0, 1), (10, 2, 0), (10, 0, 1), (10, 0, 2), (10, 0, 2), (10, 0, 3), (10, 0, 2), (10, 0, 0), (10, 0, 1), (10, 0, 0), (10, 0, 2), (10, 0, 1), (10, 0, 2), (10, 0, 2), (10, 0, 1), (10, 0, 2), (10, 0, 2), (10, 0, 3), (10, 0, 1), (10, 0, 2), (10, 0, 1), (10, 0, 1), (10, 0, 0), (10, 0, 1), (10, 0, 1), (10, 0, 1), (10, 0, 1), (10, 0, 1), (10, 0, 1), (10, 0, 2), (10, 0, 2), (10, 0, 2), (10, 0, 5), (10, 0, 1), (10, 0, 2), (10, 0, 2), (10, 0, 2), (10, 0, 1), (10, 0, 0), (10, 0, 3), (10, 0, 0), (10, 0, 2), (10, 0, 0), (10, 0, 0), (10, 0, 1), (10, 0, 3), (10, 0, 3), (10, 0, 2), (10, 0, 5), (10, 0, 1), (10, 0, 1), (10, 0, 1), (10, 0, 1), (10, 1, 1), (10, 1, 1), (10, 1, 1), (10, 1, 1), (10, 1, 2), (10, 1, 1), (10, 0, 0), (10, 1, 3), (11, 2, 0), (12, 2, 0), (12, 0, 1), (12, 1, 3), (12, 0, 0), (12, 0, 1), (12, 0, 1), (12, 0, 1), (12, 0, 1), (12, 0, 2), (12, 0, 2), (12, 0, 1), (12, 0, 1), (12, 0, 2), (12, 0, 2), (12, 0, 2), (12, 0, 3), (12, 0, 2), (12, 0, 0), (12, 0, 2), (12, 0, 1), (12, 0, 0), (12, 0, 1), (12, 0, 0), (12, 0, 2), (12, 0, 1), (12, 0, 1), (12, 0, 1), (12, 0, 0), (12, 0, 0), (12, 0, 3), (12, 0, 1), (12, 1, 1), (12, 0, 3), (12, 0, 3), (12, 0, 2), (12, 0, 1), (12, 0, 2), (12, 0, 1), (12, 0, 3), (12, 0, 2), (12, 0, 2), (12, 0, 2), (12, 1, 1), (12, 0, 2), (12, 0, 0), (12, 0, 1), (12, 0, 2), (12, 1, 3), (12, 1, 1), (12, 0, 2), (12, 0, 2), (12, 0, 1), (12, 0, 2), (12, 0, 1), (12, 0, 2), (12, 0, 3), (12, 0, 2), (12, 0, 1), (12, 0, 2), (12, 0, 1), (12, 0, 1), (12, 0, 0), (12, 0, 0), (12, 0, 1), (12, 0, 1), (12, 0, 1), (12, 0, 1), (12, 0, 0), (12, 0, 1), (12, 0, 1), (12, 0, 1), (12, 0, 1), (12, 0, 1), (12, 0, 1), (12, 0, 1), (12, 0, 4), (12, 0, 3), (12, 0, 1), (12, 0, 0), (12, 0, 1), (12, 0, 0), (12, 0, 1), (12, 0, 2), (12, 0, 2), (12, 0, 2), (12, 0, 0), (12, 0, 2), (12, 0, 5), (12, 0, 1), (12, 0, 0), (12, 0, 0), (12, 0, 1), (12, 0, 2), (12, 0, 1), (12, 0, 2), (12, 0, 2), (12, 0, 1), (12, 0, 2), (12, 0, 1), (12, 0, 1), (12, 0, 0), (12, 1, 2), (12, 0, 3), (12, 0, 3), (12, 0, 0), (12, 1, 1), (12, 0, 2), (12, 0, 0), (12, 0, 0), (12, 0, 1), (12, 0, 3), (12, 1, 2), (12, 0, 3), (12, 0, 2), (12, 0, 5), (14, 1, 2), (14, 1, 2), (14, 1, 2), (14, 1, 2), (14, 1, 1), (14, 1, 2), (15, 1, 2), (15, 1, 2), (13, 1, 1)]
theorem j_kn_ok : j_meth.map (fun q => (q.2.2.2.2.1, q.2.2.2.2.2.1, q.2.2.2.2.2.2)) = j_kn := by decide +kernel
theorem j_rk_ok : j_meth.map (fun q => match q.2.2.2.1 with | none => 0 | some .int => 1 | some .long => 2 | some .boolean => 3 | _ => 4) = j_rk := by decide +kernel
def j_cal (a kd np : Nat) : Bool := match j_kn[a]? with
  | some m => m.2.1 == kd && m.2.2 == np && a != 271
  | none => false
def j_ax (o kd : Nat) (r : Nat × j_I) : Bool :=
  let a := r.2.2.1
  let b := r.2.2.2.1
  let z := r.2.2.2.2
  match r.2.1 with
  | .getfield ix => j_ft.any (fun t => t.1 == o && t.2.1 == ix && t.2.2.1 == a && t.2.2.2.1 == b) || j_fn.any (fun t => t.1 == o && t.2.1 == ix && t.2.2.1 == a && t.2.2.2.1 == b)
  | .putfield ix => (j_ft.any (fun t => t.1 == o && t.2.1 == ix && t.2.2.1 == a && t.2.2.2.1 == b) && (!(j_fin? a b) || (kd == 2 && a == o))) || (j_fn.any (fun t => t.1 == o && t.2.1 == ix && t.2.2.1 == a && t.2.2.2.1 == b) && !(j_fin? a b))
  | .getstatic ix => j_fs.any (fun t => t.1 == o && t.2.1 == ix) || j_fsn.any (fun t => t.1 == o && t.2.1 == ix)
  | .invokevirtual ix => j_mt.any (fun t => t.1 == o && t.2.1 == ix && t.2.2.1 == a) && j_cal a 0 b
  | .invokespecial ix => if a == 9998 then j_mt.any (fun t => t.1 == o && t.2.1 == ix && t.2.2.1 == 9998) && b == 0 else (j_mt.any (fun t => t.1 == o && t.2.1 == ix && t.2.2.1 == a) || j_mn.any (fun t => t.1 == o && t.2.1 == ix && t.2.2.1 == a)) && j_cal a 2 b
  | .invokestatic ix => if a == 9999 then j_mt.any (fun t => t.1 == o && t.2.1 == ix && t.2.2.1 == 9999) else (j_mt.any (fun t => t.1 == o && t.2.1 == ix && t.2.2.1 == a) || j_mn.any (fun t => t.1 == o && t.2.1 == ix && t.2.2.1 == a)) && j_cal a 1 b
  | .new ix => j_ct.any (fun t => t.1 == o && t.2.1 == ix && t.2.2.1 == a)
  | .ldc ix => j_kt.any (fun t => t.1 == o && t.2.1 == ix && t.2.2.1 == 0 && t.2.2.2.1 == z)
  | .ldc_w ix => j_kt.any (fun t => t.1 == o && t.2.1 == ix && t.2.2.1 == 0 && t.2.2.2.1 == z)
  | .ldc2_w ix => j_kt.any (fun t => t.1 == o && t.2.1 == ix && t.2.2.1 == 1 && t.2.2.2.1 == z)
  | .iconst n => z == n && (Int32.ofInt n).toInt == z
  | .bipush n => z == n && (Int8.ofInt n).toInt32.toInt == z
  | .sipush n => z == n && (Int16.ofInt n).toInt32.toInt == z
  | .lconst n => z == ((n : Nat) : Int)
  | .goto off => (r.1 : Int) + off == (a : Int)
  | .ifCond _ off => (r.1 : Int) + off == (a : Int)
  | .if_icmp _ off => (r.1 : Int) + off == (a : Int)
  | .multianewarray ix _ => o == 6 && ix == 18
  | .iinc _ n => (Int32.ofInt n).toInt == n
  | _ => true

theorem j_all2 {α : Type} {l : List α} {f : α → Bool} (n : Nat) (h1 : (l.take n).all f = true) (h2 : (l.drop n).all f = true) : l.all f = true := by
  rw [← List.take_append_drop n l, List.all_append, h1, h2]
  rfl
theorem j_dk_0 : k_0.all (fun r => j_dk cX0_init r && j_ax 0 2 r) = true := by decide +kernel
theorem j_dk_1 : k_1.all (fun r => j_dk cX0_clear r && j_ax 0 0 r) = true := by decide +kernel
theorem j_dk_2 : k_2.all (fun r => j_dk cX0_formOf r && j_ax 0 0 r) = true := by decide +kernel
theorem j_dk_3 : k_3.all (fun r => j_dk cX0_weightOf r && j_ax 0 0 r) = true := by decide +kernel
theorem j_dk_4_0 : ((k_4).take 30).all (fun r => j_dk cX0_make r && j_ax 0 0 r) = true := by decide +kernel
theorem j_dk_4_1 : (((k_4).drop 30).take 30).all (fun r => j_dk cX0_make r && j_ax 0 0 r) = true := by decide +kernel
theorem j_dk_4_2 : ((((k_4).drop 30).drop 30).take 30).all (fun r => j_dk cX0_make r && j_ax 0 0 r) = true := by decide +kernel
theorem j_dk_4_3 : ((((k_4).drop 30).drop 30).drop 30).all (fun r => j_dk cX0_make r && j_ax 0 0 r) = true := by decide +kernel
theorem j_dk_4 : k_4.all (fun r => j_dk cX0_make r && j_ax 0 0 r) = true := j_all2 30 j_dk_4_0 (j_all2 30 j_dk_4_1 (j_all2 30 j_dk_4_2 (j_dk_4_3)))
theorem j_dk_5_0 : ((k_5).take 30).all (fun r => j_dk cX0_tellIn r && j_ax 0 0 r) = true := by decide +kernel
theorem j_dk_5_1 : (((k_5).drop 30).take 30).all (fun r => j_dk cX0_tellIn r && j_ax 0 0 r) = true := by decide +kernel
theorem j_dk_5_2 : (((k_5).drop 30).drop 30).all (fun r => j_dk cX0_tellIn r && j_ax 0 0 r) = true := by decide +kernel
theorem j_dk_5 : k_5.all (fun r => j_dk cX0_tellIn r && j_ax 0 0 r) = true := j_all2 30 j_dk_5_0 (j_all2 30 j_dk_5_1 (j_dk_5_2))
theorem j_dk_6_0 : ((k_6).take 30).all (fun r => j_dk cX0_isProved r && j_ax 0 0 r) = true := by decide +kernel
theorem j_dk_6_1 : (((k_6).drop 30).take 30).all (fun r => j_dk cX0_isProved r && j_ax 0 0 r) = true := by decide +kernel
theorem j_dk_6_2 : (((k_6).drop 30).drop 30).all (fun r => j_dk cX0_isProved r && j_ax 0 0 r) = true := by decide +kernel
theorem j_dk_6 : k_6.all (fun r => j_dk cX0_isProved r && j_ax 0 0 r) = true := j_all2 30 j_dk_6_0 (j_all2 30 j_dk_6_1 (j_dk_6_2))
theorem j_dk_7_0 : ((k_7).take 30).all (fun r => j_dk cX1_init r && j_ax 1 2 r) = true := by decide +kernel
theorem j_dk_7_1 : ((k_7).drop 30).all (fun r => j_dk cX1_init r && j_ax 1 2 r) = true := by decide +kernel
theorem j_dk_7 : k_7.all (fun r => j_dk cX1_init r && j_ax 1 2 r) = true := j_all2 30 j_dk_7_0 (j_dk_7_1)
theorem j_dk_8_0 : ((k_8).take 30).all (fun r => j_dk cX1_become r && j_ax 1 0 r) = true := by decide +kernel
theorem j_dk_8_1 : ((k_8).drop 30).all (fun r => j_dk cX1_become r && j_ax 1 0 r) = true := by decide +kernel
theorem j_dk_8 : k_8.all (fun r => j_dk cX1_become r && j_ax 1 0 r) = true := j_all2 30 j_dk_8_0 (j_dk_8_1)
theorem j_dk_9 : k_9.all (fun r => j_dk cX1_startAgain r && j_ax 1 0 r) = true := by decide +kernel
theorem j_dk_10_0 : ((k_10).take 30).all (fun r => j_dk cX1_addRule r && j_ax 1 0 r) = true := by decide +kernel
theorem j_dk_10_1 : ((k_10).drop 30).all (fun r => j_dk cX1_addRule r && j_ax 1 0 r) = true := by decide +kernel
theorem j_dk_10 : k_10.all (fun r => j_dk cX1_addRule r && j_ax 1 0 r) = true := j_all2 30 j_dk_10_0 (j_dk_10_1)
theorem j_dk_11 : k_11.all (fun r => j_dk cX1_factorOf r && j_ax 1 0 r) = true := by decide +kernel
theorem j_dk_12 : k_12.all (fun r => j_dk cX1_setFactor r && j_ax 1 0 r) = true := by decide +kernel
theorem j_dk_13 : k_13.all (fun r => j_dk cX1_formOf r && j_ax 1 0 r) = true := by decide +kernel
theorem j_dk_14 : k_14.all (fun r => j_dk cX1_costOf r && j_ax 1 0 r) = true := by decide +kernel
theorem j_dk_15_0 : ((k_15).take 30).all (fun r => j_dk cX1_firstBroken r && j_ax 1 0 r) = true := by decide +kernel
theorem j_dk_15_1 : ((k_15).drop 30).all (fun r => j_dk cX1_firstBroken r && j_ax 1 0 r) = true := by decide +kernel
theorem j_dk_15 : k_15.all (fun r => j_dk cX1_firstBroken r && j_ax 1 0 r) = true := j_all2 30 j_dk_15_0 (j_dk_15_1)
theorem j_dk_16 : k_16.all (fun r => j_dk cX1_digitOf r && j_ax 1 0 r) = true := by decide +kernel
theorem j_dk_17_0 : ((k_17).take 30).all (fun r => j_dk cX1_change r && j_ax 1 0 r) = true := by decide +kernel
theorem j_dk_17_1 : ((k_17).drop 30).all (fun r => j_dk cX1_change r && j_ax 1 0 r) = true := by decide +kernel
theorem j_dk_17 : k_17.all (fun r => j_dk cX1_change r && j_ax 1 0 r) = true := j_all2 30 j_dk_17_0 (j_dk_17_1)
theorem j_dk_18_0 : ((k_18).take 30).all (fun r => j_dk cX1_drawRules r && j_ax 1 0 r) = true := by decide +kernel
theorem j_dk_18_1 : ((k_18).drop 30).all (fun r => j_dk cX1_drawRules r && j_ax 1 0 r) = true := by decide +kernel
theorem j_dk_18 : k_18.all (fun r => j_dk cX1_drawRules r && j_ax 1 0 r) = true := j_all2 30 j_dk_18_0 (j_dk_18_1)
theorem j_dk_19 : k_19.all (fun r => j_dk cX1_stirred r && j_ax 1 1 r) = true := by decide +kernel
theorem j_dk_20 : k_20.all (fun r => j_dk cX2_init r && j_ax 2 2 r) = true := by decide +kernel
theorem j_dk_21 : k_21.all (fun r => j_dk cX2_become r && j_ax 2 0 r) = true := by decide +kernel
theorem j_dk_22 : k_22.all (fun r => j_dk cX2_clear r && j_ax 2 0 r) = true := by decide +kernel
theorem j_dk_23 : k_23.all (fun r => j_dk cX2_placeOf r && j_ax 2 0 r) = true := by decide +kernel
theorem j_dk_24 : k_24.all (fun r => j_dk cX2_gainOf r && j_ax 2 0 r) = true := by decide +kernel
theorem j_dk_25_0 : ((k_25).take 30).all (fun r => j_dk cX2_insert r && j_ax 2 0 r) = true := by decide +kernel
theorem j_dk_25_1 : (((k_25).drop 30).take 30).all (fun r => j_dk cX2_insert r && j_ax 2 0 r) = true := by decide +kernel
theorem j_dk_25_2 : (((k_25).drop 30).drop 30).all (fun r => j_dk cX2_insert r && j_ax 2 0 r) = true := by decide +kernel
theorem j_dk_25 : k_25.all (fun r => j_dk cX2_insert r && j_ax 2 0 r) = true := j_all2 30 j_dk_25_0 (j_all2 30 j_dk_25_1 (j_dk_25_2))
theorem j_dk_26 : k_26.all (fun r => j_dk cX2_keepIfCheap r && j_ax 2 0 r) = true := by decide +kernel
theorem j_dk_27 : k_27.all (fun r => j_dk cX2_isAhead r && j_ax 2 0 r) = true := by decide +kernel
theorem j_dk_28 : k_28.all (fun r => j_dk cX3_init r && j_ax 3 2 r) = true := by decide +kernel
theorem j_dk_29_0 : ((k_29).take 30).all (fun r => j_dk cX3_work r && j_ax 3 0 r) = true := by decide +kernel
theorem j_dk_29_1 : (((k_29).drop 30).take 30).all (fun r => j_dk cX3_work r && j_ax 3 0 r) = true := by decide +kernel
theorem j_dk_29_2 : (((k_29).drop 30).drop 30).all (fun r => j_dk cX3_work r && j_ax 3 0 r) = true := by decide +kernel
theorem j_dk_29 : k_29.all (fun r => j_dk cX3_work r && j_ax 3 0 r) = true := j_all2 30 j_dk_29_0 (j_all2 30 j_dk_29_1 (j_dk_29_2))
theorem j_dk_30 : k_30.all (fun r => j_dk cX3_worthOf r && j_ax 3 0 r) = true := by decide +kernel
theorem j_dk_31_0 : ((k_31).take 30).all (fun r => j_dk cX4_init r && j_ax 4 2 r) = true := by decide +kernel
theorem j_dk_31_1 : ((k_31).drop 30).all (fun r => j_dk cX4_init r && j_ax 4 2 r) = true := by decide +kernel
theorem j_dk_31 : k_31.all (fun r => j_dk cX4_init r && j_ax 4 2 r) = true := j_all2 30 j_dk_31_0 (j_dk_31_1)
theorem j_dk_32_0 : ((k_32).take 30).all (fun r => j_dk cX4_become r && j_ax 4 0 r) = true := by decide +kernel
theorem j_dk_32_1 : (((k_32).drop 30).take 30).all (fun r => j_dk cX4_become r && j_ax 4 0 r) = true := by decide +kernel
theorem j_dk_32_2 : (((k_32).drop 30).drop 30).all (fun r => j_dk cX4_become r && j_ax 4 0 r) = true := by decide +kernel
theorem j_dk_32 : k_32.all (fun r => j_dk cX4_become r && j_ax 4 0 r) = true := j_all2 30 j_dk_32_0 (j_all2 30 j_dk_32_1 (j_dk_32_2))
theorem j_dk_33 : k_33.all (fun r => j_dk cX4_startAgain r && j_ax 4 0 r) = true := by decide +kernel
theorem j_dk_34 : k_34.all (fun r => j_dk cX4_addSeen r && j_ax 4 0 r) = true := by decide +kernel
theorem j_dk_35 : k_35.all (fun r => j_dk cX4_addPlan r && j_ax 4 0 r) = true := by decide +kernel
theorem j_dk_36_0 : ((k_36).take 30).all (fun r => j_dk cX4_handForm r && j_ax 4 0 r) = true := by decide +kernel
theorem j_dk_36_1 : ((k_36).drop 30).all (fun r => j_dk cX4_handForm r && j_ax 4 0 r) = true := by decide +kernel
theorem j_dk_36 : k_36.all (fun r => j_dk cX4_handForm r && j_ax 4 0 r) = true := j_all2 30 j_dk_36_0 (j_dk_36_1)
theorem j_dk_37_0 : ((k_37).take 30).all (fun r => j_dk cX5_init r && j_ax 5 2 r) = true := by decide +kernel
theorem j_dk_37_1 : ((k_37).drop 30).all (fun r => j_dk cX5_init r && j_ax 5 2 r) = true := by decide +kernel
theorem j_dk_37 : k_37.all (fun r => j_dk cX5_init r && j_ax 5 2 r) = true := j_all2 30 j_dk_37_0 (j_dk_37_1)
theorem j_dk_38_0 : ((k_38).take 30).all (fun r => j_dk cX5_start r && j_ax 5 0 r) = true := by decide +kernel
theorem j_dk_38_1 : (((k_38).drop 30).take 30).all (fun r => j_dk cX5_start r && j_ax 5 0 r) = true := by decide +kernel
theorem j_dk_38_2 : (((k_38).drop 30).drop 30).all (fun r => j_dk cX5_start r && j_ax 5 0 r) = true := by decide +kernel
theorem j_dk_38 : k_38.all (fun r => j_dk cX5_start r && j_ax 5 0 r) = true := j_all2 30 j_dk_38_0 (j_all2 30 j_dk_38_1 (j_dk_38_2))
theorem j_dk_39_0 : ((k_39).take 30).all (fun r => j_dk cX5_addRow r && j_ax 5 0 r) = true := by decide +kernel
theorem j_dk_39_1 : ((k_39).drop 30).all (fun r => j_dk cX5_addRow r && j_ax 5 0 r) = true := by decide +kernel
theorem j_dk_39 : k_39.all (fun r => j_dk cX5_addRow r && j_ax 5 0 r) = true := j_all2 30 j_dk_39_0 (j_dk_39_1)
theorem j_dk_40 : k_40.all (fun r => j_dk cX5_addLeast r && j_ax 5 0 r) = true := by decide +kernel
theorem j_dk_41 : k_41.all (fun r => j_dk cX5_addMost r && j_ax 5 0 r) = true := by decide +kernel
theorem j_dk_42_0 : ((k_42).take 30).all (fun r => j_dk cX5_addCut r && j_ax 5 0 r) = true := by decide +kernel
theorem j_dk_42_1 : ((k_42).drop 30).all (fun r => j_dk cX5_addCut r && j_ax 5 0 r) = true := by decide +kernel
theorem j_dk_42 : k_42.all (fun r => j_dk cX5_addCut r && j_ax 5 0 r) = true := j_all2 30 j_dk_42_0 (j_dk_42_1)
theorem j_dk_43 : k_43.all (fun r => j_dk cX5_restOf r && j_ax 5 0 r) = true := by decide +kernel
theorem j_dk_44 : k_44.all (fun r => j_dk cX5_wholeOf r && j_ax 5 0 r) = true := by decide +kernel
theorem j_dk_45_0 : ((k_45).take 30).all (fun r => j_dk cX5_repair r && j_ax 5 0 r) = true := by decide +kernel
theorem j_dk_45_1 : ((k_45).drop 30).all (fun r => j_dk cX5_repair r && j_ax 5 0 r) = true := by decide +kernel
theorem j_dk_45 : k_45.all (fun r => j_dk cX5_repair r && j_ax 5 0 r) = true := j_all2 30 j_dk_45_0 (j_dk_45_1)
theorem j_dk_46_0 : ((k_46).take 30).all (fun r => j_dk cX5_lowestRow r && j_ax 5 0 r) = true := by decide +kernel
theorem j_dk_46_1 : ((k_46).drop 30).all (fun r => j_dk cX5_lowestRow r && j_ax 5 0 r) = true := by decide +kernel
theorem j_dk_46 : k_46.all (fun r => j_dk cX5_lowestRow r && j_ax 5 0 r) = true := j_all2 30 j_dk_46_0 (j_dk_46_1)
theorem j_dk_47_0 : ((k_47).take 30).all (fun r => j_dk cX5_nearestColumn r && j_ax 5 0 r) = true := by decide +kernel
theorem j_dk_47_1 : ((k_47).drop 30).all (fun r => j_dk cX5_nearestColumn r && j_ax 5 0 r) = true := by decide +kernel
theorem j_dk_47 : k_47.all (fun r => j_dk cX5_nearestColumn r && j_ax 5 0 r) = true := j_all2 30 j_dk_47_0 (j_dk_47_1)
theorem j_dk_48_0 : ((k_48).take 30).all (fun r => j_dk cX5_isNearer r && j_ax 5 0 r) = true := by decide +kernel
theorem j_dk_48_1 : ((k_48).drop 30).all (fun r => j_dk cX5_isNearer r && j_ax 5 0 r) = true := by decide +kernel
theorem j_dk_48 : k_48.all (fun r => j_dk cX5_isNearer r && j_ax 5 0 r) = true := j_all2 30 j_dk_48_0 (j_dk_48_1)
theorem j_dk_49_0 : ((k_49).take 30).all (fun r => j_dk cX5_pivot r && j_ax 5 0 r) = true := by decide +kernel
theorem j_dk_49_1 : (((k_49).drop 30).take 30).all (fun r => j_dk cX5_pivot r && j_ax 5 0 r) = true := by decide +kernel
theorem j_dk_49_2 : ((((k_49).drop 30).drop 30).take 30).all (fun r => j_dk cX5_pivot r && j_ax 5 0 r) = true := by decide +kernel
theorem j_dk_49_3 : (((((k_49).drop 30).drop 30).drop 30).take 30).all (fun r => j_dk cX5_pivot r && j_ax 5 0 r) = true := by decide +kernel
theorem j_dk_49_4 : ((((((k_49).drop 30).drop 30).drop 30).drop 30).take 30).all (fun r => j_dk cX5_pivot r && j_ax 5 0 r) = true := by decide +kernel
theorem j_dk_49_5 : ((((((k_49).drop 30).drop 30).drop 30).drop 30).drop 30).all (fun r => j_dk cX5_pivot r && j_ax 5 0 r) = true := by decide +kernel
theorem j_dk_49 : k_49.all (fun r => j_dk cX5_pivot r && j_ax 5 0 r) = true := j_all2 30 j_dk_49_0 (j_all2 30 j_dk_49_1 (j_all2 30 j_dk_49_2 (j_all2 30 j_dk_49_3 (j_all2 30 j_dk_49_4 (j_dk_49_5)))))
theorem j_dk_50_0 : ((k_50).take 30).all (fun r => j_dk cX5_freshenRow r && j_ax 5 0 r) = true := by decide +kernel
theorem j_dk_50_1 : (((k_50).drop 30).take 30).all (fun r => j_dk cX5_freshenRow r && j_ax 5 0 r) = true := by decide +kernel
theorem j_dk_50_2 : ((((k_50).drop 30).drop 30).take 30).all (fun r => j_dk cX5_freshenRow r && j_ax 5 0 r) = true := by decide +kernel
theorem j_dk_50_3 : ((((k_50).drop 30).drop 30).drop 30).all (fun r => j_dk cX5_freshenRow r && j_ax 5 0 r) = true := by decide +kernel
theorem j_dk_50 : k_50.all (fun r => j_dk cX5_freshenRow r && j_ax 5 0 r) = true := j_all2 30 j_dk_50_0 (j_all2 30 j_dk_50_1 (j_all2 30 j_dk_50_2 (j_dk_50_3)))
theorem j_dk_51 : k_51.all (fun r => j_dk cX5_mixed r && j_ax 5 0 r) = true := by decide +kernel
theorem j_dk_52 : k_52.all (fun r => j_dk cX5_rowOf r && j_ax 5 0 r) = true := by decide +kernel
theorem j_dk_53 : k_53.all (fun r => j_dk cX5_rightOf r && j_ax 5 0 r) = true := by decide +kernel
theorem j_dk_54 : k_54.all (fun r => j_dk cX5_floorOf r && j_ax 5 0 r) = true := by decide +kernel
theorem j_dk_55 : k_55.all (fun r => j_dk cX5_riseOf r && j_ax 5 0 r) = true := by decide +kernel
theorem j_dk_56 : k_56.all (fun r => j_dk cX5_partedRow r && j_ax 5 0 r) = true := by decide +kernel
theorem j_dk_57 : k_57.all (fun r => j_dk cX5_partedPack r && j_ax 5 0 r) = true := by decide +kernel
theorem j_dk_58 : k_58.all (fun r => j_dk cX5_rowNumber r && j_ax 5 0 r) = true := by decide +kernel
theorem j_dk_59 : k_59.all (fun r => j_dk cX5_costNumber r && j_ax 5 0 r) = true := by decide +kernel
theorem j_dk_60_0 : ((k_60).take 30).all (fun r => j_dk cX6_init r && j_ax 6 2 r) = true := by decide +kernel
theorem j_dk_60_1 : ((k_60).drop 30).all (fun r => j_dk cX6_init r && j_ax 6 2 r) = true := by decide +kernel
theorem j_dk_60 : k_60.all (fun r => j_dk cX6_init r && j_ax 6 2 r) = true := j_all2 30 j_dk_60_0 (j_dk_60_1)
theorem j_dk_61 : k_61.all (fun r => j_dk cX6_lay r && j_ax 6 0 r) = true := by decide +kernel
theorem j_dk_62 : k_62.all (fun r => j_dk cX6_trimmed r && j_ax 6 0 r) = true := by decide +kernel
theorem j_dk_63 : k_63.all (fun r => j_dk cX6_holds r && j_ax 6 0 r) = true := by decide +kernel
theorem j_dk_64 : k_64.all (fun r => j_dk cX7_init r && j_ax 7 2 r) = true := by decide +kernel
theorem j_dk_65_0 : ((k_65).take 30).all (fun r => j_dk cX7_findFault r && j_ax 7 0 r) = true := by decide +kernel
theorem j_dk_65_1 : ((k_65).drop 30).all (fun r => j_dk cX7_findFault r && j_ax 7 0 r) = true := by decide +kernel
theorem j_dk_65 : k_65.all (fun r => j_dk cX7_findFault r && j_ax 7 0 r) = true := j_all2 30 j_dk_65_0 (j_dk_65_1)
theorem j_dk_66_0 : ((k_66).take 30).all (fun r => j_dk cX7_addRulesTo r && j_ax 7 0 r) = true := by decide +kernel
theorem j_dk_66_1 : ((k_66).drop 30).all (fun r => j_dk cX7_addRulesTo r && j_ax 7 0 r) = true := by decide +kernel
theorem j_dk_66 : k_66.all (fun r => j_dk cX7_addRulesTo r && j_ax 7 0 r) = true := j_all2 30 j_dk_66_0 (j_dk_66_1)
theorem j_dk_67 : k_67.all (fun r => j_dk cX7_here r && j_ax 7 0 r) = true := by decide +kernel
theorem j_dk_68 : k_68.all (fun r => j_dk cX7_skip r && j_ax 7 0 r) = true := by decide +kernel
theorem j_dk_69 : k_69.all (fun r => j_dk cX7_atDigit r && j_ax 7 0 r) = true := by decide +kernel
theorem j_dk_70_0 : ((k_70).take 30).all (fun r => j_dk cX7_readClause r && j_ax 7 0 r) = true := by decide +kernel
theorem j_dk_70_1 : (((k_70).drop 30).take 30).all (fun r => j_dk cX7_readClause r && j_ax 7 0 r) = true := by decide +kernel
theorem j_dk_70_2 : ((((k_70).drop 30).drop 30).take 30).all (fun r => j_dk cX7_readClause r && j_ax 7 0 r) = true := by decide +kernel
theorem j_dk_70_3 : ((((k_70).drop 30).drop 30).drop 30).all (fun r => j_dk cX7_readClause r && j_ax 7 0 r) = true := by decide +kernel
theorem j_dk_70 : k_70.all (fun r => j_dk cX7_readClause r && j_ax 7 0 r) = true := j_all2 30 j_dk_70_0 (j_all2 30 j_dk_70_1 (j_all2 30 j_dk_70_2 (j_dk_70_3)))
theorem j_dk_71_0 : ((k_71).take 30).all (fun r => j_dk cX7_readTerm r && j_ax 7 0 r) = true := by decide +kernel
theorem j_dk_71_1 : (((k_71).drop 30).take 30).all (fun r => j_dk cX7_readTerm r && j_ax 7 0 r) = true := by decide +kernel
theorem j_dk_71_2 : (((k_71).drop 30).drop 30).all (fun r => j_dk cX7_readTerm r && j_ax 7 0 r) = true := by decide +kernel
theorem j_dk_71 : k_71.all (fun r => j_dk cX7_readTerm r && j_ax 7 0 r) = true := j_all2 30 j_dk_71_0 (j_all2 30 j_dk_71_1 (j_dk_71_2))
theorem j_dk_72_0 : ((k_72).take 30).all (fun r => j_dk cX7_readBound r && j_ax 7 0 r) = true := by decide +kernel
theorem j_dk_72_1 : ((k_72).drop 30).all (fun r => j_dk cX7_readBound r && j_ax 7 0 r) = true := by decide +kernel
theorem j_dk_72 : k_72.all (fun r => j_dk cX7_readBound r && j_ax 7 0 r) = true := j_all2 30 j_dk_72_0 (j_dk_72_1)
theorem j_dk_73_0 : ((k_73).take 30).all (fun r => j_dk cX8_init r && j_ax 8 2 r) = true := by decide +kernel
theorem j_dk_73_1 : ((k_73).drop 30).all (fun r => j_dk cX8_init r && j_ax 8 2 r) = true := by decide +kernel
theorem j_dk_73 : k_73.all (fun r => j_dk cX8_init r && j_ax 8 2 r) = true := j_all2 30 j_dk_73_0 (j_dk_73_1)
theorem j_dk_74_0 : ((k_74).take 30).all (fun r => j_dk cX8_grow r && j_ax 8 0 r) = true := by decide +kernel
theorem j_dk_74_1 : (((k_74).drop 30).take 30).all (fun r => j_dk cX8_grow r && j_ax 8 0 r) = true := by decide +kernel
theorem j_dk_74_2 : (((k_74).drop 30).drop 30).all (fun r => j_dk cX8_grow r && j_ax 8 0 r) = true := by decide +kernel
theorem j_dk_74 : k_74.all (fun r => j_dk cX8_grow r && j_ax 8 0 r) = true := j_all2 30 j_dk_74_0 (j_all2 30 j_dk_74_1 (j_dk_74_2))
theorem j_dk_75_0 : ((k_75).take 30).all (fun r => j_dk cX8_split r && j_ax 8 0 r) = true := by decide +kernel
theorem j_dk_75_1 : (((k_75).drop 30).take 30).all (fun r => j_dk cX8_split r && j_ax 8 0 r) = true := by decide +kernel
theorem j_dk_75_2 : (((k_75).drop 30).drop 30).all (fun r => j_dk cX8_split r && j_ax 8 0 r) = true := by decide +kernel
theorem j_dk_75 : k_75.all (fun r => j_dk cX8_split r && j_ax 8 0 r) = true := j_all2 30 j_dk_75_0 (j_all2 30 j_dk_75_1 (j_dk_75_2))
theorem j_dk_76_0 : ((k_76).take 30).all (fun r => j_dk cX8_inherit r && j_ax 8 0 r) = true := by decide +kernel
theorem j_dk_76_1 : ((k_76).drop 30).all (fun r => j_dk cX8_inherit r && j_ax 8 0 r) = true := by decide +kernel
theorem j_dk_76 : k_76.all (fun r => j_dk cX8_inherit r && j_ax 8 0 r) = true := j_all2 30 j_dk_76_0 (j_dk_76_1)
theorem j_dk_77_0 : ((k_77).take 30).all (fun r => j_dk cX8_relax r && j_ax 8 0 r) = true := by decide +kernel
theorem j_dk_77_1 : (((k_77).drop 30).take 30).all (fun r => j_dk cX8_relax r && j_ax 8 0 r) = true := by decide +kernel
theorem j_dk_77_2 : ((((k_77).drop 30).drop 30).take 30).all (fun r => j_dk cX8_relax r && j_ax 8 0 r) = true := by decide +kernel
theorem j_dk_77_3 : (((((k_77).drop 30).drop 30).drop 30).take 30).all (fun r => j_dk cX8_relax r && j_ax 8 0 r) = true := by decide +kernel
theorem j_dk_77_4 : (((((k_77).drop 30).drop 30).drop 30).drop 30).all (fun r => j_dk cX8_relax r && j_ax 8 0 r) = true := by decide +kernel
theorem j_dk_77 : k_77.all (fun r => j_dk cX8_relax r && j_ax 8 0 r) = true := j_all2 30 j_dk_77_0 (j_all2 30 j_dk_77_1 (j_all2 30 j_dk_77_2 (j_all2 30 j_dk_77_3 (j_dk_77_4))))
theorem j_dk_78_0 : ((k_78).take 30).all (fun r => j_dk cX8_mostHopeful r && j_ax 8 0 r) = true := by decide +kernel
theorem j_dk_78_1 : ((k_78).drop 30).all (fun r => j_dk cX8_mostHopeful r && j_ax 8 0 r) = true := by decide +kernel
theorem j_dk_78 : k_78.all (fun r => j_dk cX8_mostHopeful r && j_ax 8 0 r) = true := j_all2 30 j_dk_78_0 (j_dk_78_1)
theorem j_dk_79 : k_79.all (fun r => j_dk cX8_valueOf r && j_ax 8 0 r) = true := by decide +kernel
theorem j_dk_80 : k_80.all (fun r => j_dk cX9_init r && j_ax 9 2 r) = true := by decide +kernel
theorem j_dk_81_0 : ((k_81).take 30).all (fun r => j_dk cX9_start r && j_ax 9 0 r) = true := by decide +kernel
theorem j_dk_81_1 : ((k_81).drop 30).all (fun r => j_dk cX9_start r && j_ax 9 0 r) = true := by decide +kernel
theorem j_dk_81 : k_81.all (fun r => j_dk cX9_start r && j_ax 9 0 r) = true := j_all2 30 j_dk_81_0 (j_dk_81_1)
theorem j_dk_82_0 : ((k_82).take 30).all (fun r => j_dk cX9_step r && j_ax 9 0 r) = true := by decide +kernel
theorem j_dk_82_1 : ((k_82).drop 30).all (fun r => j_dk cX9_step r && j_ax 9 0 r) = true := by decide +kernel
theorem j_dk_82 : k_82.all (fun r => j_dk cX9_step r && j_ax 9 0 r) = true := j_all2 30 j_dk_82_0 (j_dk_82_1)
theorem j_dk_83_0 : ((k_83).take 30).all (fun r => j_dk cX9_move r && j_ax 9 0 r) = true := by decide +kernel
theorem j_dk_83_1 : ((k_83).drop 30).all (fun r => j_dk cX9_move r && j_ax 9 0 r) = true := by decide +kernel
theorem j_dk_83 : k_83.all (fun r => j_dk cX9_move r && j_ax 9 0 r) = true := j_all2 30 j_dk_83_0 (j_dk_83_1)
theorem j_dk_84 : k_84.all (fun r => j_dk cX9_obeys r && j_ax 9 0 r) = true := by decide +kernel
theorem j_dk_85 : k_85.all (fun r => j_dk cX9_broken r && j_ax 9 0 r) = true := by decide +kernel
theorem j_dk_86_0 : ((k_86).take 30).all (fun r => j_dk cX9_isBeyond r && j_ax 9 0 r) = true := by decide +kernel
theorem j_dk_86_1 : ((k_86).drop 30).all (fun r => j_dk cX9_isBeyond r && j_ax 9 0 r) = true := by decide +kernel
theorem j_dk_86 : k_86.all (fun r => j_dk cX9_isBeyond r && j_ax 9 0 r) = true := j_all2 30 j_dk_86_0 (j_dk_86_1)
theorem j_dk_87_0 : ((k_87).take 30).all (fun r => j_dk cX10_init r && j_ax 10 2 r) = true := by decide +kernel
theorem j_dk_87_1 : ((k_87).drop 30).all (fun r => j_dk cX10_init r && j_ax 10 2 r) = true := by decide +kernel
theorem j_dk_87 : k_87.all (fun r => j_dk cX10_init r && j_ax 10 2 r) = true := j_all2 30 j_dk_87_0 (j_dk_87_1)
theorem j_dk_88 : k_88.all (fun r => j_dk cX10_size r && j_ax 10 0 r) = true := by decide +kernel
theorem j_dk_89_0 : ((k_89).take 30).all (fun r => j_dk cX10_cost r && j_ax 10 0 r) = true := by decide +kernel
theorem j_dk_89_1 : ((k_89).drop 30).all (fun r => j_dk cX10_cost r && j_ax 10 0 r) = true := by decide +kernel
theorem j_dk_89 : k_89.all (fun r => j_dk cX10_cost r && j_ax 10 0 r) = true := j_all2 30 j_dk_89_0 (j_dk_89_1)
theorem j_dk_90_0 : ((k_90).take 30).all (fun r => j_dk cX10_rule r && j_ax 10 0 r) = true := by decide +kernel
theorem j_dk_90_1 : ((k_90).drop 30).all (fun r => j_dk cX10_rule r && j_ax 10 0 r) = true := by decide +kernel
theorem j_dk_90 : k_90.all (fun r => j_dk cX10_rule r && j_ax 10 0 r) = true := j_all2 30 j_dk_90_0 (j_dk_90_1)
theorem j_dk_91_0 : ((k_91).take 30).all (fun r => j_dk cX10_factor r && j_ax 10 0 r) = true := by decide +kernel
theorem j_dk_91_1 : ((k_91).drop 30).all (fun r => j_dk cX10_factor r && j_ax 10 0 r) = true := by decide +kernel
theorem j_dk_91 : k_91.all (fun r => j_dk cX10_factor r && j_ax 10 0 r) = true := j_all2 30 j_dk_91_0 (j_dk_91_1)
theorem j_dk_92_0 : ((k_92).take 30).all (fun r => j_dk cX10_bound r && j_ax 10 0 r) = true := by decide +kernel
theorem j_dk_92_1 : ((k_92).drop 30).all (fun r => j_dk cX10_bound r && j_ax 10 0 r) = true := by decide +kernel
theorem j_dk_92 : k_92.all (fun r => j_dk cX10_bound r && j_ax 10 0 r) = true := j_all2 30 j_dk_92_0 (j_dk_92_1)
theorem j_dk_93_0 : ((k_93).take 30).all (fun r => j_dk cX10_less r && j_ax 10 0 r) = true := by decide +kernel
theorem j_dk_93_1 : ((k_93).drop 30).all (fun r => j_dk cX10_less r && j_ax 10 0 r) = true := by decide +kernel
theorem j_dk_93 : k_93.all (fun r => j_dk cX10_less r && j_ax 10 0 r) = true := j_all2 30 j_dk_93_0 (j_dk_93_1)
theorem j_dk_94_0 : ((k_94).take 30).all (fun r => j_dk cX10_feed r && j_ax 10 0 r) = true := by decide +kernel
theorem j_dk_94_1 : ((k_94).drop 30).all (fun r => j_dk cX10_feed r && j_ax 10 0 r) = true := by decide +kernel
theorem j_dk_94 : k_94.all (fun r => j_dk cX10_feed r && j_ax 10 0 r) = true := j_all2 30 j_dk_94_0 (j_dk_94_1)
theorem j_dk_95_0 : ((k_95).take 30).all (fun r => j_dk cX10_read r && j_ax 10 0 r) = true := by decide +kernel
theorem j_dk_95_1 : ((k_95).drop 30).all (fun r => j_dk cX10_read r && j_ax 10 0 r) = true := by decide +kernel
theorem j_dk_95 : k_95.all (fun r => j_dk cX10_read r && j_ax 10 0 r) = true := j_all2 30 j_dk_95_0 (j_dk_95_1)
theorem j_dk_96_0 : ((k_96).take 30).all (fun r => j_dk cX10_ruleOf r && j_ax 10 0 r) = true := by decide +kernel
theorem j_dk_96_1 : ((k_96).drop 30).all (fun r => j_dk cX10_ruleOf r && j_ax 10 0 r) = true := by decide +kernel
theorem j_dk_96 : k_96.all (fun r => j_dk cX10_ruleOf r && j_ax 10 0 r) = true := j_all2 30 j_dk_96_0 (j_dk_96_1)
theorem j_dk_97 : k_97.all (fun r => j_dk cX10_solve r && j_ax 10 0 r) = true := by decide +kernel
theorem j_dk_98_0 : ((k_98).take 30).all (fun r => j_dk cX10_entry r && j_ax 10 0 r) = true := by decide +kernel
theorem j_dk_98_1 : ((k_98).drop 30).all (fun r => j_dk cX10_entry r && j_ax 10 0 r) = true := by decide +kernel
theorem j_dk_98 : k_98.all (fun r => j_dk cX10_entry r && j_ax 10 0 r) = true := j_all2 30 j_dk_98_0 (j_dk_98_1)
theorem j_dk_99 : k_99.all (fun r => j_dk cX10_amount r && j_ax 10 0 r) = true := by decide +kernel
theorem j_dk_100 : k_100.all (fun r => j_dk cX10_value r && j_ax 10 0 r) = true := by decide +kernel
theorem j_dk_101 : k_101.all (fun r => j_dk cX10_price r && j_ax 10 0 r) = true := by decide +kernel
theorem j_dk_102 : k_102.all (fun r => j_dk cX10_cut r && j_ax 10 0 r) = true := by decide +kernel
theorem j_dk_103_0 : ((k_103).take 30).all (fun r => j_dk cX10_weight r && j_ax 10 0 r) = true := by decide +kernel
theorem j_dk_103_1 : ((k_103).drop 30).all (fun r => j_dk cX10_weight r && j_ax 10 0 r) = true := by decide +kernel
theorem j_dk_103 : k_103.all (fun r => j_dk cX10_weight r && j_ax 10 0 r) = true := j_all2 30 j_dk_103_0 (j_dk_103_1)
theorem j_dk_104 : k_104.all (fun r => j_dk cX10_proved r && j_ax 10 0 r) = true := by decide +kernel
theorem j_dk_105 : k_105.all (fun r => j_dk cX10_hand r && j_ax 10 0 r) = true := by decide +kernel
theorem j_dk_106 : k_106.all (fun r => j_dk cX10_by r && j_ax 10 0 r) = true := by decide +kernel
theorem j_dk_107 : k_107.all (fun r => j_dk cX10_points r && j_ax 10 0 r) = true := by decide +kernel
theorem j_dk_108_0 : ((k_108).take 30).all (fun r => j_dk cX10_bites r && j_ax 10 0 r) = true := by decide +kernel
theorem j_dk_108_1 : ((k_108).drop 30).all (fun r => j_dk cX10_bites r && j_ax 10 0 r) = true := by decide +kernel
theorem j_dk_108 : k_108.all (fun r => j_dk cX10_bites r && j_ax 10 0 r) = true := j_all2 30 j_dk_108_0 (j_dk_108_1)
theorem j_dk_109 : k_109.all (fun r => j_dk cX10_box r && j_ax 10 0 r) = true := by decide +kernel
theorem j_dk_110_0 : ((k_110).take 30).all (fun r => j_dk cX10_nth r && j_ax 10 0 r) = true := by decide +kernel
theorem j_dk_110_1 : ((k_110).drop 30).all (fun r => j_dk cX10_nth r && j_ax 10 0 r) = true := by decide +kernel
theorem j_dk_110 : k_110.all (fun r => j_dk cX10_nth r && j_ax 10 0 r) = true := j_all2 30 j_dk_110_0 (j_dk_110_1)
theorem j_dk_111_0 : ((k_111).take 30).all (fun r => j_dk cX10_many r && j_ax 10 0 r) = true := by decide +kernel
theorem j_dk_111_1 : ((k_111).drop 30).all (fun r => j_dk cX10_many r && j_ax 10 0 r) = true := by decide +kernel
theorem j_dk_111 : k_111.all (fun r => j_dk cX10_many r && j_ax 10 0 r) = true := j_all2 30 j_dk_111_0 (j_dk_111_1)
theorem j_dk_112 : k_112.all (fun r => j_dk cX10_breaks r && j_ax 10 0 r) = true := by decide +kernel
theorem j_dk_113_0 : ((k_113).take 30).all (fun r => j_dk cX10_lost r && j_ax 10 0 r) = true := by decide +kernel
theorem j_dk_113_1 : (((k_113).drop 30).take 30).all (fun r => j_dk cX10_lost r && j_ax 10 0 r) = true := by decide +kernel
theorem j_dk_113_2 : (((k_113).drop 30).drop 30).all (fun r => j_dk cX10_lost r && j_ax 10 0 r) = true := by decide +kernel
theorem j_dk_113 : k_113.all (fun r => j_dk cX10_lost r && j_ax 10 0 r) = true := j_all2 30 j_dk_113_0 (j_all2 30 j_dk_113_1 (j_dk_113_2))
theorem j_dk_114_0 : ((k_114).take 30).all (fun r => j_dk cX10_branch r && j_ax 10 0 r) = true := by decide +kernel
theorem j_dk_114_1 : (((k_114).drop 30).take 30).all (fun r => j_dk cX10_branch r && j_ax 10 0 r) = true := by decide +kernel
theorem j_dk_114_2 : (((k_114).drop 30).drop 30).all (fun r => j_dk cX10_branch r && j_ax 10 0 r) = true := by decide +kernel
theorem j_dk_114 : k_114.all (fun r => j_dk cX10_branch r && j_ax 10 0 r) = true := j_all2 30 j_dk_114_0 (j_all2 30 j_dk_114_1 (j_dk_114_2))
theorem j_dk_115 : k_115.all (fun r => j_dk cX10_would r && j_ax 10 0 r) = true := by decide +kernel
theorem j_dk_116_0 : ((k_116).take 30).all (fun r => j_dk cX10_see r && j_ax 10 0 r) = true := by decide +kernel
theorem j_dk_116_1 : ((k_116).drop 30).all (fun r => j_dk cX10_see r && j_ax 10 0 r) = true := by decide +kernel
theorem j_dk_116 : k_116.all (fun r => j_dk cX10_see r && j_ax 10 0 r) = true := j_all2 30 j_dk_116_0 (j_dk_116_1)
theorem j_dk_117_0 : ((k_117).take 30).all (fun r => j_dk cX10_fits r && j_ax 10 0 r) = true := by decide +kernel
theorem j_dk_117_1 : ((k_117).drop 30).all (fun r => j_dk cX10_fits r && j_ax 10 0 r) = true := by decide +kernel
theorem j_dk_117 : k_117.all (fun r => j_dk cX10_fits r && j_ax 10 0 r) = true := j_all2 30 j_dk_117_0 (j_dk_117_1)
theorem j_dk_118_0 : ((k_118).take 30).all (fun r => j_dk cX10_odds r && j_ax 10 0 r) = true := by decide +kernel
theorem j_dk_118_1 : (((k_118).drop 30).take 30).all (fun r => j_dk cX10_odds r && j_ax 10 0 r) = true := by decide +kernel
theorem j_dk_118_2 : (((k_118).drop 30).drop 30).all (fun r => j_dk cX10_odds r && j_ax 10 0 r) = true := by decide +kernel
theorem j_dk_118 : k_118.all (fun r => j_dk cX10_odds r && j_ax 10 0 r) = true := j_all2 30 j_dk_118_0 (j_all2 30 j_dk_118_1 (j_dk_118_2))
theorem j_dk_119_0 : ((k_119).take 30).all (fun r => j_dk cX10_mean r && j_ax 10 0 r) = true := by decide +kernel
theorem j_dk_119_1 : ((k_119).drop 30).all (fun r => j_dk cX10_mean r && j_ax 10 0 r) = true := by decide +kernel
theorem j_dk_119 : k_119.all (fun r => j_dk cX10_mean r && j_ax 10 0 r) = true := j_all2 30 j_dk_119_0 (j_dk_119_1)
theorem j_dk_120 : k_120.all (fun r => j_dk cX10_drawn r && j_ax 10 0 r) = true := by decide +kernel
theorem j_dk_121_0 : ((k_121).take 30).all (fun r => j_dk cX10_offer r && j_ax 10 0 r) = true := by decide +kernel
theorem j_dk_121_1 : ((k_121).drop 30).all (fun r => j_dk cX10_offer r && j_ax 10 0 r) = true := by decide +kernel
theorem j_dk_121 : k_121.all (fun r => j_dk cX10_offer r && j_ax 10 0 r) = true := j_all2 30 j_dk_121_0 (j_dk_121_1)
theorem j_dk_122_0 : ((k_122).take 30).all (fun r => j_dk cX10_offered r && j_ax 10 0 r) = true := by decide +kernel
theorem j_dk_122_1 : ((k_122).drop 30).all (fun r => j_dk cX10_offered r && j_ax 10 0 r) = true := by decide +kernel
theorem j_dk_122 : k_122.all (fun r => j_dk cX10_offered r && j_ax 10 0 r) = true := j_all2 30 j_dk_122_0 (j_dk_122_1)
theorem j_dk_123 : k_123.all (fun r => j_dk cX10_upTo r && j_ax 10 0 r) = true := by decide +kernel
theorem j_dk_124_0 : ((k_124).take 30).all (fun r => j_dk cX10_dearest r && j_ax 10 0 r) = true := by decide +kernel
theorem j_dk_124_1 : ((k_124).drop 30).all (fun r => j_dk cX10_dearest r && j_ax 10 0 r) = true := by decide +kernel
theorem j_dk_124 : k_124.all (fun r => j_dk cX10_dearest r && j_ax 10 0 r) = true := j_all2 30 j_dk_124_0 (j_dk_124_1)
theorem j_dk_125_0 : ((k_125).take 30).all (fun r => j_dk cX10_plan r && j_ax 10 0 r) = true := by decide +kernel
theorem j_dk_125_1 : ((k_125).drop 30).all (fun r => j_dk cX10_plan r && j_ax 10 0 r) = true := by decide +kernel
theorem j_dk_125 : k_125.all (fun r => j_dk cX10_plan r && j_ax 10 0 r) = true := j_all2 30 j_dk_125_0 (j_dk_125_1)
theorem j_dk_126_0 : ((k_126).take 30).all (fun r => j_dk cX10_ends r && j_ax 10 0 r) = true := by decide +kernel
theorem j_dk_126_1 : ((k_126).drop 30).all (fun r => j_dk cX10_ends r && j_ax 10 0 r) = true := by decide +kernel
theorem j_dk_126 : k_126.all (fun r => j_dk cX10_ends r && j_ax 10 0 r) = true := j_all2 30 j_dk_126_0 (j_dk_126_1)
theorem j_dk_127_0 : ((k_127).take 30).all (fun r => j_dk cX10_judge r && j_ax 10 0 r) = true := by decide +kernel
theorem j_dk_127_1 : (((k_127).drop 30).take 30).all (fun r => j_dk cX10_judge r && j_ax 10 0 r) = true := by decide +kernel
theorem j_dk_127_2 : ((((k_127).drop 30).drop 30).take 30).all (fun r => j_dk cX10_judge r && j_ax 10 0 r) = true := by decide +kernel
theorem j_dk_127_3 : ((((k_127).drop 30).drop 30).drop 30).all (fun r => j_dk cX10_judge r && j_ax 10 0 r) = true := by decide +kernel
theorem j_dk_127 : k_127.all (fun r => j_dk cX10_judge r && j_ax 10 0 r) = true := j_all2 30 j_dk_127_0 (j_all2 30 j_dk_127_1 (j_all2 30 j_dk_127_2 (j_dk_127_3)))
theorem j_dk_128 : k_128.all (fun r => j_dk cX10_image r && j_ax 10 0 r) = true := by decide +kernel
theorem j_dk_129 : k_129.all (fun r => j_dk cX10_undo r && j_ax 10 0 r) = true := by decide +kernel
theorem j_dk_130_0 : ((k_130).take 30).all (fun r => j_dk cX10_count r && j_ax 10 0 r) = true := by decide +kernel
theorem j_dk_130_1 : (((k_130).drop 30).take 30).all (fun r => j_dk cX10_count r && j_ax 10 0 r) = true := by decide +kernel
theorem j_dk_130_2 : (((k_130).drop 30).drop 30).all (fun r => j_dk cX10_count r && j_ax 10 0 r) = true := by decide +kernel
theorem j_dk_130 : k_130.all (fun r => j_dk cX10_count r && j_ax 10 0 r) = true := j_all2 30 j_dk_130_0 (j_all2 30 j_dk_130_1 (j_dk_130_2))
theorem j_dk_131_0 : ((k_131).take 30).all (fun r => j_dk cX10_tape r && j_ax 10 0 r) = true := by decide +kernel
theorem j_dk_131_1 : ((k_131).drop 30).all (fun r => j_dk cX10_tape r && j_ax 10 0 r) = true := by decide +kernel
theorem j_dk_131 : k_131.all (fun r => j_dk cX10_tape r && j_ax 10 0 r) = true := j_all2 30 j_dk_131_0 (j_dk_131_1)
theorem j_dk_132_0 : ((k_132).take 30).all (fun r => j_dk cX10_item r && j_ax 10 0 r) = true := by decide +kernel
theorem j_dk_132_1 : ((k_132).drop 30).all (fun r => j_dk cX10_item r && j_ax 10 0 r) = true := by decide +kernel
theorem j_dk_132 : k_132.all (fun r => j_dk cX10_item r && j_ax 10 0 r) = true := j_all2 30 j_dk_132_0 (j_dk_132_1)
theorem j_dk_133 : k_133.all (fun r => j_dk cX10_peek r && j_ax 10 0 r) = true := by decide +kernel
theorem j_dk_134_0 : ((k_134).take 30).all (fun r => j_dk cX10_shift r && j_ax 10 0 r) = true := by decide +kernel
theorem j_dk_134_1 : (((k_134).drop 30).take 30).all (fun r => j_dk cX10_shift r && j_ax 10 0 r) = true := by decide +kernel
theorem j_dk_134_2 : (((k_134).drop 30).drop 30).all (fun r => j_dk cX10_shift r && j_ax 10 0 r) = true := by decide +kernel
theorem j_dk_134 : k_134.all (fun r => j_dk cX10_shift r && j_ax 10 0 r) = true := j_all2 30 j_dk_134_0 (j_all2 30 j_dk_134_1 (j_dk_134_2))
theorem j_dk_135 : k_135.all (fun r => j_dk cX10_isPack r && j_ax 10 0 r) = true := by decide +kernel
theorem j_dk_136 : k_136.all (fun r => j_dk cX10_isRule r && j_ax 10 0 r) = true := by decide +kernel
theorem j_dk_137 : k_137.all (fun r => j_dk cX10_isCut r && j_ax 10 0 r) = true := by decide +kernel
theorem j_dk_138 : k_138.all (fun r => j_dk cX10_isCode r && j_ax 10 0 r) = true := by decide +kernel
theorem j_dk_139 : k_139.all (fun r => j_dk cX10_isBound r && j_ax 10 1 r) = true := by decide +kernel
theorem j_dk_140 : k_140.all (fun r => j_dk cX10_isFactor r && j_ax 10 1 r) = true := by decide +kernel
theorem j_dk_141 : k_141.all (fun r => j_dk cX10_isPart r && j_ax 10 1 r) = true := by decide +kernel
theorem j_dk_142 : k_142.all (fun r => j_dk cX10_isTape r && j_ax 10 1 r) = true := by decide +kernel
theorem j_dk_143 : k_143.all (fun r => j_dk cX10_isPlanned r && j_ax 10 1 r) = true := by decide +kernel
theorem j_dk_144 : k_144.all (fun r => j_dk cX10_isNear r && j_ax 10 1 r) = true := by decide +kernel
theorem j_dk_145_0 : ((k_145).take 30).all (fun r => j_dk cX10_isSeenSo r && j_ax 10 0 r) = true := by decide +kernel
theorem j_dk_145_1 : ((k_145).drop 30).all (fun r => j_dk cX10_isSeenSo r && j_ax 10 0 r) = true := by decide +kernel
theorem j_dk_145 : k_145.all (fun r => j_dk cX10_isSeenSo r && j_ax 10 0 r) = true := j_all2 30 j_dk_145_0 (j_dk_145_1)
theorem j_dk_146_0 : ((k_146).take 30).all (fun r => j_dk cX10_lowest r && j_ax 10 1 r) = true := by decide +kernel
theorem j_dk_146_1 : ((k_146).drop 30).all (fun r => j_dk cX10_lowest r && j_ax 10 1 r) = true := by decide +kernel
theorem j_dk_146 : k_146.all (fun r => j_dk cX10_lowest r && j_ax 10 1 r) = true := j_all2 30 j_dk_146_0 (j_dk_146_1)
theorem j_dk_147_0 : ((k_147).take 30).all (fun r => j_dk cX11_init r && j_ax 11 2 r) = true := by decide +kernel
theorem j_dk_147_1 : ((k_147).drop 30).all (fun r => j_dk cX11_init r && j_ax 11 2 r) = true := by decide +kernel
theorem j_dk_147 : k_147.all (fun r => j_dk cX11_init r && j_ax 11 2 r) = true := j_all2 30 j_dk_147_0 (j_dk_147_1)
theorem j_dk_148_0 : ((k_148).take 30).all (fun r => j_dk cX12_init r && j_ax 12 2 r) = true := by decide +kernel
theorem j_dk_148_1 : (((k_148).drop 30).take 30).all (fun r => j_dk cX12_init r && j_ax 12 2 r) = true := by decide +kernel
theorem j_dk_148_2 : ((((k_148).drop 30).drop 30).take 30).all (fun r => j_dk cX12_init r && j_ax 12 2 r) = true := by decide +kernel
theorem j_dk_148_3 : ((((k_148).drop 30).drop 30).drop 30).all (fun r => j_dk cX12_init r && j_ax 12 2 r) = true := by decide +kernel
theorem j_dk_148 : k_148.all (fun r => j_dk cX12_init r && j_ax 12 2 r) = true := j_all2 30 j_dk_148_0 (j_all2 30 j_dk_148_1 (j_all2 30 j_dk_148_2 (j_dk_148_3)))
theorem j_dk_149_0 : ((k_149).take 30).all (fun r => j_dk cX12_begins r && j_ax 12 0 r) = true := by decide +kernel
theorem j_dk_149_1 : ((k_149).drop 30).all (fun r => j_dk cX12_begins r && j_ax 12 0 r) = true := by decide +kernel
theorem j_dk_149 : k_149.all (fun r => j_dk cX12_begins r && j_ax 12 0 r) = true := j_all2 30 j_dk_149_0 (j_dk_149_1)
theorem j_dk_150 : k_150.all (fun r => j_dk cX12_isIn r && j_ax 12 1 r) = true := by decide +kernel
theorem j_dk_151 : k_151.all (fun r => j_dk cX12_n r && j_ax 12 0 r) = true := by decide +kernel
theorem j_dk_152 : k_152.all (fun r => j_dk cX12_isPack r && j_ax 12 0 r) = true := by decide +kernel
theorem j_dk_153 : k_153.all (fun r => j_dk cX12_isRule r && j_ax 12 0 r) = true := by decide +kernel
theorem j_dk_154 : k_154.all (fun r => j_dk cX12_sortOf r && j_ax 12 0 r) = true := by decide +kernel
theorem j_dk_155 : k_155.all (fun r => j_dk cX12_boundOf r && j_ax 12 0 r) = true := by decide +kernel
theorem j_dk_156 : k_156.all (fun r => j_dk cX12_factorOf r && j_ax 12 0 r) = true := by decide +kernel
theorem j_dk_157 : k_157.all (fun r => j_dk cX12_pointOf r && j_ax 12 0 r) = true := by decide +kernel
theorem j_dk_158 : k_158.all (fun r => j_dk cX12_limitOf r && j_ax 12 0 r) = true := by decide +kernel
theorem j_dk_159 : k_159.all (fun r => j_dk cX12_size r && j_ax 12 0 r) = true := by decide +kernel
theorem j_dk_160_0 : ((k_160).take 30).all (fun r => j_dk cX12_cost r && j_ax 12 0 r) = true := by decide +kernel
theorem j_dk_160_1 : ((k_160).drop 30).all (fun r => j_dk cX12_cost r && j_ax 12 0 r) = true := by decide +kernel
theorem j_dk_160 : k_160.all (fun r => j_dk cX12_cost r && j_ax 12 0 r) = true := j_all2 30 j_dk_160_0 (j_dk_160_1)
theorem j_dk_161_0 : ((k_161).take 30).all (fun r => j_dk cX12_addsRule r && j_ax 12 0 r) = true := by decide +kernel
theorem j_dk_161_1 : ((k_161).drop 30).all (fun r => j_dk cX12_addsRule r && j_ax 12 0 r) = true := by decide +kernel
theorem j_dk_161 : k_161.all (fun r => j_dk cX12_addsRule r && j_ax 12 0 r) = true := j_all2 30 j_dk_161_0 (j_dk_161_1)
theorem j_dk_162_0 : ((k_162).take 30).all (fun r => j_dk cX12_rule r && j_ax 12 0 r) = true := by decide +kernel
theorem j_dk_162_1 : ((k_162).drop 30).all (fun r => j_dk cX12_rule r && j_ax 12 0 r) = true := by decide +kernel
theorem j_dk_162 : k_162.all (fun r => j_dk cX12_rule r && j_ax 12 0 r) = true := j_all2 30 j_dk_162_0 (j_dk_162_1)
theorem j_dk_163_0 : ((k_163).take 30).all (fun r => j_dk cX12_factor r && j_ax 12 0 r) = true := by decide +kernel
theorem j_dk_163_1 : ((k_163).drop 30).all (fun r => j_dk cX12_factor r && j_ax 12 0 r) = true := by decide +kernel
theorem j_dk_163 : k_163.all (fun r => j_dk cX12_factor r && j_ax 12 0 r) = true := j_all2 30 j_dk_163_0 (j_dk_163_1)
theorem j_dk_164_0 : ((k_164).take 30).all (fun r => j_dk cX12_bound r && j_ax 12 0 r) = true := by decide +kernel
theorem j_dk_164_1 : ((k_164).drop 30).all (fun r => j_dk cX12_bound r && j_ax 12 0 r) = true := by decide +kernel
theorem j_dk_164 : k_164.all (fun r => j_dk cX12_bound r && j_ax 12 0 r) = true := j_all2 30 j_dk_164_0 (j_dk_164_1)
theorem j_dk_165_0 : ((k_165).take 30).all (fun r => j_dk cX12_less r && j_ax 12 0 r) = true := by decide +kernel
theorem j_dk_165_1 : ((k_165).drop 30).all (fun r => j_dk cX12_less r && j_ax 12 0 r) = true := by decide +kernel
theorem j_dk_165 : k_165.all (fun r => j_dk cX12_less r && j_ax 12 0 r) = true := j_all2 30 j_dk_165_0 (j_dk_165_1)
theorem j_dk_166 : k_166.all (fun r => j_dk cX12_ruleOf r && j_ax 12 0 r) = true := by decide +kernel
theorem j_dk_167 : k_167.all (fun r => j_dk cX12_feed r && j_ax 12 0 r) = true := by decide +kernel
theorem j_dk_168 : k_168.all (fun r => j_dk cX12_here r && j_ax 12 0 r) = true := by decide +kernel
theorem j_dk_169 : k_169.all (fun r => j_dk cX12_takes r && j_ax 12 0 r) = true := by decide +kernel
theorem j_dk_170 : k_170.all (fun r => j_dk cX12_isDigit r && j_ax 12 0 r) = true := by decide +kernel
theorem j_dk_171_0 : ((k_171).take 30).all (fun r => j_dk cX12_readsTerm r && j_ax 12 0 r) = true := by decide +kernel
theorem j_dk_171_1 : (((k_171).drop 30).take 30).all (fun r => j_dk cX12_readsTerm r && j_ax 12 0 r) = true := by decide +kernel
theorem j_dk_171_2 : (((k_171).drop 30).drop 30).all (fun r => j_dk cX12_readsTerm r && j_ax 12 0 r) = true := by decide +kernel
theorem j_dk_171 : k_171.all (fun r => j_dk cX12_readsTerm r && j_ax 12 0 r) = true := j_all2 30 j_dk_171_0 (j_all2 30 j_dk_171_1 (j_dk_171_2))
theorem j_dk_172_0 : ((k_172).take 30).all (fun r => j_dk cX12_readsSum r && j_ax 12 0 r) = true := by decide +kernel
theorem j_dk_172_1 : ((k_172).drop 30).all (fun r => j_dk cX12_readsSum r && j_ax 12 0 r) = true := by decide +kernel
theorem j_dk_172 : k_172.all (fun r => j_dk cX12_readsSum r && j_ax 12 0 r) = true := j_all2 30 j_dk_172_0 (j_dk_172_1)
theorem j_dk_173_0 : ((k_173).take 30).all (fun r => j_dk cX12_readsBound r && j_ax 12 0 r) = true := by decide +kernel
theorem j_dk_173_1 : ((k_173).drop 30).all (fun r => j_dk cX12_readsBound r && j_ax 12 0 r) = true := by decide +kernel
theorem j_dk_173 : k_173.all (fun r => j_dk cX12_readsBound r && j_ax 12 0 r) = true := j_all2 30 j_dk_173_0 (j_dk_173_1)
theorem j_dk_174_0 : ((k_174).take 30).all (fun r => j_dk cX12_readsClause r && j_ax 12 0 r) = true := by decide +kernel
theorem j_dk_174_1 : ((k_174).drop 30).all (fun r => j_dk cX12_readsClause r && j_ax 12 0 r) = true := by decide +kernel
theorem j_dk_174 : k_174.all (fun r => j_dk cX12_readsClause r && j_ax 12 0 r) = true := j_all2 30 j_dk_174_0 (j_dk_174_1)
theorem j_dk_175_0 : ((k_175).take 30).all (fun r => j_dk cX12_readsAll r && j_ax 12 0 r) = true := by decide +kernel
theorem j_dk_175_1 : ((k_175).drop 30).all (fun r => j_dk cX12_readsAll r && j_ax 12 0 r) = true := by decide +kernel
theorem j_dk_175 : k_175.all (fun r => j_dk cX12_readsAll r && j_ax 12 0 r) = true := j_all2 30 j_dk_175_0 (j_dk_175_1)
theorem j_dk_176_0 : ((k_176).take 30).all (fun r => j_dk cX12_read r && j_ax 12 0 r) = true := by decide +kernel
theorem j_dk_176_1 : (((k_176).drop 30).take 30).all (fun r => j_dk cX12_read r && j_ax 12 0 r) = true := by decide +kernel
theorem j_dk_176_2 : (((k_176).drop 30).drop 30).all (fun r => j_dk cX12_read r && j_ax 12 0 r) = true := by decide +kernel
theorem j_dk_176 : k_176.all (fun r => j_dk cX12_read r && j_ax 12 0 r) = true := j_all2 30 j_dk_176_0 (j_all2 30 j_dk_176_1 (j_dk_176_2))
theorem j_dk_177_0 : ((k_177).take 30).all (fun r => j_dk cX12_addsRow r && j_ax 12 0 r) = true := by decide +kernel
theorem j_dk_177_1 : ((k_177).drop 30).all (fun r => j_dk cX12_addsRow r && j_ax 12 0 r) = true := by decide +kernel
theorem j_dk_177 : k_177.all (fun r => j_dk cX12_addsRow r && j_ax 12 0 r) = true := j_all2 30 j_dk_177_0 (j_dk_177_1)
theorem j_dk_178_0 : ((k_178).take 30).all (fun r => j_dk cX12_first r && j_ax 12 0 r) = true := by decide +kernel
theorem j_dk_178_1 : (((k_178).drop 30).take 30).all (fun r => j_dk cX12_first r && j_ax 12 0 r) = true := by decide +kernel
theorem j_dk_178_2 : (((k_178).drop 30).drop 30).all (fun r => j_dk cX12_first r && j_ax 12 0 r) = true := by decide +kernel
theorem j_dk_178 : k_178.all (fun r => j_dk cX12_first r && j_ax 12 0 r) = true := j_all2 30 j_dk_178_0 (j_all2 30 j_dk_178_1 (j_dk_178_2))
theorem j_dk_179 : k_179.all (fun r => j_dk cX12_isNear r && j_ax 12 1 r) = true := by decide +kernel
theorem j_dk_180_0 : ((k_180).take 30).all (fun r => j_dk cX12_tries r && j_ax 12 0 r) = true := by decide +kernel
theorem j_dk_180_1 : (((k_180).drop 30).take 30).all (fun r => j_dk cX12_tries r && j_ax 12 0 r) = true := by decide +kernel
theorem j_dk_180_2 : ((((k_180).drop 30).drop 30).take 30).all (fun r => j_dk cX12_tries r && j_ax 12 0 r) = true := by decide +kernel
theorem j_dk_180_3 : (((((k_180).drop 30).drop 30).drop 30).take 30).all (fun r => j_dk cX12_tries r && j_ax 12 0 r) = true := by decide +kernel
theorem j_dk_180_4 : ((((((k_180).drop 30).drop 30).drop 30).drop 30).take 30).all (fun r => j_dk cX12_tries r && j_ax 12 0 r) = true := by decide +kernel
theorem j_dk_180_5 : (((((((k_180).drop 30).drop 30).drop 30).drop 30).drop 30).take 30).all (fun r => j_dk cX12_tries r && j_ax 12 0 r) = true := by decide +kernel
theorem j_dk_180_6 : ((((((((k_180).drop 30).drop 30).drop 30).drop 30).drop 30).drop 30).take 30).all (fun r => j_dk cX12_tries r && j_ax 12 0 r) = true := by decide +kernel
theorem j_dk_180_7 : ((((((((k_180).drop 30).drop 30).drop 30).drop 30).drop 30).drop 30).drop 30).all (fun r => j_dk cX12_tries r && j_ax 12 0 r) = true := by decide +kernel
theorem j_dk_180 : k_180.all (fun r => j_dk cX12_tries r && j_ax 12 0 r) = true := j_all2 30 j_dk_180_0 (j_all2 30 j_dk_180_1 (j_all2 30 j_dk_180_2 (j_all2 30 j_dk_180_3 (j_all2 30 j_dk_180_4 (j_all2 30 j_dk_180_5 (j_all2 30 j_dk_180_6 (j_dk_180_7)))))))
theorem j_dk_181_0 : ((k_181).take 30).all (fun r => j_dk cX12_pivots r && j_ax 12 0 r) = true := by decide +kernel
theorem j_dk_181_1 : (((k_181).drop 30).take 30).all (fun r => j_dk cX12_pivots r && j_ax 12 0 r) = true := by decide +kernel
theorem j_dk_181_2 : ((((k_181).drop 30).drop 30).take 30).all (fun r => j_dk cX12_pivots r && j_ax 12 0 r) = true := by decide +kernel
theorem j_dk_181_3 : ((((k_181).drop 30).drop 30).drop 30).all (fun r => j_dk cX12_pivots r && j_ax 12 0 r) = true := by decide +kernel
theorem j_dk_181 : k_181.all (fun r => j_dk cX12_pivots r && j_ax 12 0 r) = true := j_all2 30 j_dk_181_0 (j_all2 30 j_dk_181_1 (j_all2 30 j_dk_181_2 (j_dk_181_3)))
theorem j_dk_182_0 : ((k_182).take 30).all (fun r => j_dk cX12_columnFor r && j_ax 12 0 r) = true := by decide +kernel
theorem j_dk_182_1 : (((k_182).drop 30).take 30).all (fun r => j_dk cX12_columnFor r && j_ax 12 0 r) = true := by decide +kernel
theorem j_dk_182_2 : (((k_182).drop 30).drop 30).all (fun r => j_dk cX12_columnFor r && j_ax 12 0 r) = true := by decide +kernel
theorem j_dk_182 : k_182.all (fun r => j_dk cX12_columnFor r && j_ax 12 0 r) = true := j_all2 30 j_dk_182_0 (j_all2 30 j_dk_182_1 (j_dk_182_2))
theorem j_dk_183_0 : ((k_183).take 30).all (fun r => j_dk cX12_repairs r && j_ax 12 0 r) = true := by decide +kernel
theorem j_dk_183_1 : ((k_183).drop 30).all (fun r => j_dk cX12_repairs r && j_ax 12 0 r) = true := by decide +kernel
theorem j_dk_183 : k_183.all (fun r => j_dk cX12_repairs r && j_ax 12 0 r) = true := j_all2 30 j_dk_183_0 (j_dk_183_1)
theorem j_dk_184 : k_184.all (fun r => j_dk cX12_rowOf r && j_ax 12 0 r) = true := by decide +kernel
theorem j_dk_185 : k_185.all (fun r => j_dk cX12_partly r && j_ax 12 0 r) = true := by decide +kernel
theorem j_dk_186 : k_186.all (fun r => j_dk cX12_leftPoint r && j_ax 12 0 r) = true := by decide +kernel
theorem j_dk_187 : k_187.all (fun r => j_dk cX12_leftLimit r && j_ax 12 0 r) = true := by decide +kernel
theorem j_dk_188_0 : ((k_188).take 30).all (fun r => j_dk cX12_tells r && j_ax 12 0 r) = true := by decide +kernel
theorem j_dk_188_1 : (((k_188).drop 30).take 30).all (fun r => j_dk cX12_tells r && j_ax 12 0 r) = true := by decide +kernel
theorem j_dk_188_2 : ((((k_188).drop 30).drop 30).take 30).all (fun r => j_dk cX12_tells r && j_ax 12 0 r) = true := by decide +kernel
theorem j_dk_188_3 : (((((k_188).drop 30).drop 30).drop 30).take 30).all (fun r => j_dk cX12_tells r && j_ax 12 0 r) = true := by decide +kernel
theorem j_dk_188_4 : (((((k_188).drop 30).drop 30).drop 30).drop 30).all (fun r => j_dk cX12_tells r && j_ax 12 0 r) = true := by decide +kernel
theorem j_dk_188 : k_188.all (fun r => j_dk cX12_tells r && j_ax 12 0 r) = true := j_all2 30 j_dk_188_0 (j_all2 30 j_dk_188_1 (j_all2 30 j_dk_188_2 (j_all2 30 j_dk_188_3 (j_dk_188_4))))
theorem j_dk_189_0 : ((k_189).take 30).all (fun r => j_dk cX12_cuts r && j_ax 12 0 r) = true := by decide +kernel
theorem j_dk_189_1 : (((k_189).drop 30).take 30).all (fun r => j_dk cX12_cuts r && j_ax 12 0 r) = true := by decide +kernel
theorem j_dk_189_2 : ((((k_189).drop 30).drop 30).take 30).all (fun r => j_dk cX12_cuts r && j_ax 12 0 r) = true := by decide +kernel
theorem j_dk_189_3 : ((((k_189).drop 30).drop 30).drop 30).all (fun r => j_dk cX12_cuts r && j_ax 12 0 r) = true := by decide +kernel
theorem j_dk_189 : k_189.all (fun r => j_dk cX12_cuts r && j_ax 12 0 r) = true := j_all2 30 j_dk_189_0 (j_all2 30 j_dk_189_1 (j_all2 30 j_dk_189_2 (j_dk_189_3)))
theorem j_dk_190 : k_190.all (fun r => j_dk cX12_slot r && j_ax 12 1 r) = true := by decide +kernel
theorem j_dk_191_0 : ((k_191).take 30).all (fun r => j_dk cX12_solves r && j_ax 12 0 r) = true := by decide +kernel
theorem j_dk_191_1 : ((k_191).drop 30).all (fun r => j_dk cX12_solves r && j_ax 12 0 r) = true := by decide +kernel
theorem j_dk_191 : k_191.all (fun r => j_dk cX12_solves r && j_ax 12 0 r) = true := j_all2 30 j_dk_191_0 (j_dk_191_1)
theorem j_dk_192 : k_192.all (fun r => j_dk cX12_worth r && j_ax 12 0 r) = true := by decide +kernel
theorem j_dk_193 : k_193.all (fun r => j_dk cX12_solve r && j_ax 12 0 r) = true := by decide +kernel
theorem j_dk_194_0 : ((k_194).take 30).all (fun r => j_dk cX12_entry r && j_ax 12 0 r) = true := by decide +kernel
theorem j_dk_194_1 : (((k_194).drop 30).take 30).all (fun r => j_dk cX12_entry r && j_ax 12 0 r) = true := by decide +kernel
theorem j_dk_194_2 : ((((k_194).drop 30).drop 30).take 30).all (fun r => j_dk cX12_entry r && j_ax 12 0 r) = true := by decide +kernel
theorem j_dk_194_3 : ((((k_194).drop 30).drop 30).drop 30).all (fun r => j_dk cX12_entry r && j_ax 12 0 r) = true := by decide +kernel
theorem j_dk_194 : k_194.all (fun r => j_dk cX12_entry r && j_ax 12 0 r) = true := j_all2 30 j_dk_194_0 (j_all2 30 j_dk_194_1 (j_all2 30 j_dk_194_2 (j_dk_194_3)))
theorem j_dk_195_0 : ((k_195).take 30).all (fun r => j_dk cX12_lowest r && j_ax 12 1 r) = true := by decide +kernel
theorem j_dk_195_1 : ((k_195).drop 30).all (fun r => j_dk cX12_lowest r && j_ax 12 1 r) = true := by decide +kernel
theorem j_dk_195 : k_195.all (fun r => j_dk cX12_lowest r && j_ax 12 1 r) = true := j_all2 30 j_dk_195_0 (j_dk_195_1)
theorem j_dk_196 : k_196.all (fun r => j_dk cX12_isPart r && j_ax 12 1 r) = true := by decide +kernel
theorem j_dk_197 : k_197.all (fun r => j_dk cX12_amountIn r && j_ax 12 0 r) = true := by decide +kernel
theorem j_dk_198 : k_198.all (fun r => j_dk cX12_amount r && j_ax 12 0 r) = true := by decide +kernel
theorem j_dk_199 : k_199.all (fun r => j_dk cX12_value r && j_ax 12 0 r) = true := by decide +kernel
theorem j_dk_200_0 : ((k_200).take 30).all (fun r => j_dk cX12_price r && j_ax 12 0 r) = true := by decide +kernel
theorem j_dk_200_1 : ((k_200).drop 30).all (fun r => j_dk cX12_price r && j_ax 12 0 r) = true := by decide +kernel
theorem j_dk_200 : k_200.all (fun r => j_dk cX12_price r && j_ax 12 0 r) = true := j_all2 30 j_dk_200_0 (j_dk_200_1)
theorem j_dk_201 : k_201.all (fun r => j_dk cX12_isCut r && j_ax 12 0 r) = true := by decide +kernel
theorem j_dk_202_0 : ((k_202).take 30).all (fun r => j_dk cX12_cut r && j_ax 12 0 r) = true := by decide +kernel
theorem j_dk_202_1 : ((k_202).drop 30).all (fun r => j_dk cX12_cut r && j_ax 12 0 r) = true := by decide +kernel
theorem j_dk_202 : k_202.all (fun r => j_dk cX12_cut r && j_ax 12 0 r) = true := j_all2 30 j_dk_202_0 (j_dk_202_1)
theorem j_dk_203_0 : ((k_203).take 30).all (fun r => j_dk cX12_weight r && j_ax 12 0 r) = true := by decide +kernel
theorem j_dk_203_1 : ((k_203).drop 30).all (fun r => j_dk cX12_weight r && j_ax 12 0 r) = true := by decide +kernel
theorem j_dk_203 : k_203.all (fun r => j_dk cX12_weight r && j_ax 12 0 r) = true := j_all2 30 j_dk_203_0 (j_dk_203_1)
theorem j_dk_204_0 : ((k_204).take 30).all (fun r => j_dk cX12_weighed r && j_ax 12 0 r) = true := by decide +kernel
theorem j_dk_204_1 : (((k_204).drop 30).take 30).all (fun r => j_dk cX12_weighed r && j_ax 12 0 r) = true := by decide +kernel
theorem j_dk_204_2 : (((k_204).drop 30).drop 30).all (fun r => j_dk cX12_weighed r && j_ax 12 0 r) = true := by decide +kernel
theorem j_dk_204 : k_204.all (fun r => j_dk cX12_weighed r && j_ax 12 0 r) = true := j_all2 30 j_dk_204_0 (j_all2 30 j_dk_204_1 (j_dk_204_2))
theorem j_dk_205_0 : ((k_205).take 30).all (fun r => j_dk cX12_proved r && j_ax 12 0 r) = true := by decide +kernel
theorem j_dk_205_1 : ((k_205).drop 30).all (fun r => j_dk cX12_proved r && j_ax 12 0 r) = true := by decide +kernel
theorem j_dk_205 : k_205.all (fun r => j_dk cX12_proved r && j_ax 12 0 r) = true := j_all2 30 j_dk_205_0 (j_dk_205_1)
theorem j_dk_206 : k_206.all (fun r => j_dk cX12_hand r && j_ax 12 0 r) = true := by decide +kernel
theorem j_dk_207 : k_207.all (fun r => j_dk cX12_by r && j_ax 12 0 r) = true := by decide +kernel
theorem j_dk_208_0 : ((k_208).take 30).all (fun r => j_dk cX12_points r && j_ax 12 0 r) = true := by decide +kernel
theorem j_dk_208_1 : ((k_208).drop 30).all (fun r => j_dk cX12_points r && j_ax 12 0 r) = true := by decide +kernel
theorem j_dk_208 : k_208.all (fun r => j_dk cX12_points r && j_ax 12 0 r) = true := j_all2 30 j_dk_208_0 (j_dk_208_1)
theorem j_dk_209_0 : ((k_209).take 30).all (fun r => j_dk cX12_bites r && j_ax 12 0 r) = true := by decide +kernel
theorem j_dk_209_1 : ((k_209).drop 30).all (fun r => j_dk cX12_bites r && j_ax 12 0 r) = true := by decide +kernel
theorem j_dk_209 : k_209.all (fun r => j_dk cX12_bites r && j_ax 12 0 r) = true := j_all2 30 j_dk_209_0 (j_dk_209_1)
theorem j_dk_210 : k_210.all (fun r => j_dk cX12_codes r && j_ax 12 0 r) = true := by decide +kernel
theorem j_dk_211 : k_211.all (fun r => j_dk cX12_isCode r && j_ax 12 0 r) = true := by decide +kernel
theorem j_dk_212 : k_212.all (fun r => j_dk cX12_mixes r && j_ax 12 0 r) = true := by decide +kernel
theorem j_dk_213 : k_213.all (fun r => j_dk cX12_costOf r && j_ax 12 0 r) = true := by decide +kernel
theorem j_dk_214_0 : ((k_214).take 30).all (fun r => j_dk cX12_isBroken r && j_ax 12 0 r) = true := by decide +kernel
theorem j_dk_214_1 : ((k_214).drop 30).all (fun r => j_dk cX12_isBroken r && j_ax 12 0 r) = true := by decide +kernel
theorem j_dk_214 : k_214.all (fun r => j_dk cX12_isBroken r && j_ax 12 0 r) = true := j_all2 30 j_dk_214_0 (j_dk_214_1)
theorem j_dk_215 : k_215.all (fun r => j_dk cX12_broken r && j_ax 12 0 r) = true := by decide +kernel
theorem j_dk_216_0 : ((k_216).take 30).all (fun r => j_dk cX12_nextCode r && j_ax 12 0 r) = true := by decide +kernel
theorem j_dk_216_1 : ((k_216).drop 30).all (fun r => j_dk cX12_nextCode r && j_ax 12 0 r) = true := by decide +kernel
theorem j_dk_216 : k_216.all (fun r => j_dk cX12_nextCode r && j_ax 12 0 r) = true := j_all2 30 j_dk_216_0 (j_dk_216_1)
theorem j_dk_217 : k_217.all (fun r => j_dk cX12_box r && j_ax 12 0 r) = true := by decide +kernel
theorem j_dk_218_0 : ((k_218).take 30).all (fun r => j_dk cX12_nth r && j_ax 12 0 r) = true := by decide +kernel
theorem j_dk_218_1 : (((k_218).drop 30).take 30).all (fun r => j_dk cX12_nth r && j_ax 12 0 r) = true := by decide +kernel
theorem j_dk_218_2 : ((((k_218).drop 30).drop 30).take 30).all (fun r => j_dk cX12_nth r && j_ax 12 0 r) = true := by decide +kernel
theorem j_dk_218_3 : ((((k_218).drop 30).drop 30).drop 30).all (fun r => j_dk cX12_nth r && j_ax 12 0 r) = true := by decide +kernel
theorem j_dk_218 : k_218.all (fun r => j_dk cX12_nth r && j_ax 12 0 r) = true := j_all2 30 j_dk_218_0 (j_all2 30 j_dk_218_1 (j_all2 30 j_dk_218_2 (j_dk_218_3)))
theorem j_dk_219_0 : ((k_219).take 30).all (fun r => j_dk cX12_many r && j_ax 12 0 r) = true := by decide +kernel
theorem j_dk_219_1 : ((k_219).drop 30).all (fun r => j_dk cX12_many r && j_ax 12 0 r) = true := by decide +kernel
theorem j_dk_219 : k_219.all (fun r => j_dk cX12_many r && j_ax 12 0 r) = true := j_all2 30 j_dk_219_0 (j_dk_219_1)
theorem j_dk_220 : k_220.all (fun r => j_dk cX12_breaks r && j_ax 12 0 r) = true := by decide +kernel
theorem j_dk_221_0 : ((k_221).take 30).all (fun r => j_dk cX12_isLost r && j_ax 12 0 r) = true := by decide +kernel
theorem j_dk_221_1 : ((k_221).drop 30).all (fun r => j_dk cX12_isLost r && j_ax 12 0 r) = true := by decide +kernel
theorem j_dk_221 : k_221.all (fun r => j_dk cX12_isLost r && j_ax 12 0 r) = true := j_all2 30 j_dk_221_0 (j_dk_221_1)
theorem j_dk_222_0 : ((k_222).take 30).all (fun r => j_dk cX12_lost r && j_ax 12 0 r) = true := by decide +kernel
theorem j_dk_222_1 : ((k_222).drop 30).all (fun r => j_dk cX12_lost r && j_ax 12 0 r) = true := by decide +kernel
theorem j_dk_222 : k_222.all (fun r => j_dk cX12_lost r && j_ax 12 0 r) = true := j_all2 30 j_dk_222_0 (j_dk_222_1)
theorem j_dk_223_0 : ((k_223).take 30).all (fun r => j_dk cX12_comes r && j_ax 12 0 r) = true := by decide +kernel
theorem j_dk_223_1 : (((k_223).drop 30).take 30).all (fun r => j_dk cX12_comes r && j_ax 12 0 r) = true := by decide +kernel
theorem j_dk_223_2 : ((((k_223).drop 30).drop 30).take 30).all (fun r => j_dk cX12_comes r && j_ax 12 0 r) = true := by decide +kernel
theorem j_dk_223_3 : ((((k_223).drop 30).drop 30).drop 30).all (fun r => j_dk cX12_comes r && j_ax 12 0 r) = true := by decide +kernel
theorem j_dk_223 : k_223.all (fun r => j_dk cX12_comes r && j_ax 12 0 r) = true := j_all2 30 j_dk_223_0 (j_all2 30 j_dk_223_1 (j_all2 30 j_dk_223_2 (j_dk_223_3)))
theorem j_dk_224_0 : ((k_224).take 30).all (fun r => j_dk cX12_bounds r && j_ax 12 0 r) = true := by decide +kernel
theorem j_dk_224_1 : (((k_224).drop 30).take 30).all (fun r => j_dk cX12_bounds r && j_ax 12 0 r) = true := by decide +kernel
theorem j_dk_224_2 : (((k_224).drop 30).drop 30).all (fun r => j_dk cX12_bounds r && j_ax 12 0 r) = true := by decide +kernel
theorem j_dk_224 : k_224.all (fun r => j_dk cX12_bounds r && j_ax 12 0 r) = true := j_all2 30 j_dk_224_0 (j_all2 30 j_dk_224_1 (j_dk_224_2))
theorem j_dk_225_0 : ((k_225).take 30).all (fun r => j_dk cX12_relaxes r && j_ax 12 0 r) = true := by decide +kernel
theorem j_dk_225_1 : (((k_225).drop 30).take 30).all (fun r => j_dk cX12_relaxes r && j_ax 12 0 r) = true := by decide +kernel
theorem j_dk_225_2 : (((k_225).drop 30).drop 30).all (fun r => j_dk cX12_relaxes r && j_ax 12 0 r) = true := by decide +kernel
theorem j_dk_225 : k_225.all (fun r => j_dk cX12_relaxes r && j_ax 12 0 r) = true := j_all2 30 j_dk_225_0 (j_all2 30 j_dk_225_1 (j_dk_225_2))
theorem j_dk_226_0 : ((k_226).take 30).all (fun r => j_dk cX12_hopeful r && j_ax 12 0 r) = true := by decide +kernel
theorem j_dk_226_1 : ((k_226).drop 30).all (fun r => j_dk cX12_hopeful r && j_ax 12 0 r) = true := by decide +kernel
theorem j_dk_226 : k_226.all (fun r => j_dk cX12_hopeful r && j_ax 12 0 r) = true := j_all2 30 j_dk_226_0 (j_dk_226_1)
theorem j_dk_227 : k_227.all (fun r => j_dk cX12_partlyOf r && j_ax 12 0 r) = true := by decide +kernel
theorem j_dk_228_0 : ((k_228).take 30).all (fun r => j_dk cX12_branches r && j_ax 12 0 r) = true := by decide +kernel
theorem j_dk_228_1 : (((k_228).drop 30).take 30).all (fun r => j_dk cX12_branches r && j_ax 12 0 r) = true := by decide +kernel
theorem j_dk_228_2 : (((k_228).drop 30).drop 30).all (fun r => j_dk cX12_branches r && j_ax 12 0 r) = true := by decide +kernel
theorem j_dk_228 : k_228.all (fun r => j_dk cX12_branches r && j_ax 12 0 r) = true := j_all2 30 j_dk_228_0 (j_all2 30 j_dk_228_1 (j_dk_228_2))
theorem j_dk_229_0 : ((k_229).take 30).all (fun r => j_dk cX12_branch r && j_ax 12 0 r) = true := by decide +kernel
theorem j_dk_229_1 : (((k_229).drop 30).take 30).all (fun r => j_dk cX12_branch r && j_ax 12 0 r) = true := by decide +kernel
theorem j_dk_229_2 : (((k_229).drop 30).drop 30).all (fun r => j_dk cX12_branch r && j_ax 12 0 r) = true := by decide +kernel
theorem j_dk_229 : k_229.all (fun r => j_dk cX12_branch r && j_ax 12 0 r) = true := j_all2 30 j_dk_229_0 (j_all2 30 j_dk_229_1 (j_dk_229_2))
theorem j_dk_230 : k_230.all (fun r => j_dk cX12_worthWith r && j_ax 12 0 r) = true := by decide +kernel
theorem j_dk_231 : k_231.all (fun r => j_dk cX12_would r && j_ax 12 0 r) = true := by decide +kernel
theorem j_dk_232_0 : ((k_232).take 30).all (fun r => j_dk cX12_see r && j_ax 12 0 r) = true := by decide +kernel
theorem j_dk_232_1 : (((k_232).drop 30).take 30).all (fun r => j_dk cX12_see r && j_ax 12 0 r) = true := by decide +kernel
theorem j_dk_232_2 : (((k_232).drop 30).drop 30).all (fun r => j_dk cX12_see r && j_ax 12 0 r) = true := by decide +kernel
theorem j_dk_232 : k_232.all (fun r => j_dk cX12_see r && j_ax 12 0 r) = true := j_all2 30 j_dk_232_0 (j_all2 30 j_dk_232_1 (j_dk_232_2))
theorem j_dk_233_0 : ((k_233).take 30).all (fun r => j_dk cX12_isSeen r && j_ax 12 0 r) = true := by decide +kernel
theorem j_dk_233_1 : ((k_233).drop 30).all (fun r => j_dk cX12_isSeen r && j_ax 12 0 r) = true := by decide +kernel
theorem j_dk_233 : k_233.all (fun r => j_dk cX12_isSeen r && j_ax 12 0 r) = true := j_all2 30 j_dk_233_0 (j_dk_233_1)
theorem j_dk_234_0 : ((k_234).take 30).all (fun r => j_dk cX12_fits r && j_ax 12 0 r) = true := by decide +kernel
theorem j_dk_234_1 : ((k_234).drop 30).all (fun r => j_dk cX12_fits r && j_ax 12 0 r) = true := by decide +kernel
theorem j_dk_234 : k_234.all (fun r => j_dk cX12_fits r && j_ax 12 0 r) = true := j_all2 30 j_dk_234_0 (j_dk_234_1)
theorem j_dk_235_0 : ((k_235).take 30).all (fun r => j_dk cX12_odds r && j_ax 12 0 r) = true := by decide +kernel
theorem j_dk_235_1 : (((k_235).drop 30).take 30).all (fun r => j_dk cX12_odds r && j_ax 12 0 r) = true := by decide +kernel
theorem j_dk_235_2 : (((k_235).drop 30).drop 30).all (fun r => j_dk cX12_odds r && j_ax 12 0 r) = true := by decide +kernel
theorem j_dk_235 : k_235.all (fun r => j_dk cX12_odds r && j_ax 12 0 r) = true := j_all2 30 j_dk_235_0 (j_all2 30 j_dk_235_1 (j_dk_235_2))
theorem j_dk_236_0 : ((k_236).take 30).all (fun r => j_dk cX12_mean r && j_ax 12 0 r) = true := by decide +kernel
theorem j_dk_236_1 : ((k_236).drop 30).all (fun r => j_dk cX12_mean r && j_ax 12 0 r) = true := by decide +kernel
theorem j_dk_236 : k_236.all (fun r => j_dk cX12_mean r && j_ax 12 0 r) = true := j_all2 30 j_dk_236_0 (j_dk_236_1)
theorem j_dk_237 : k_237.all (fun r => j_dk cX12_lends r && j_ax 12 0 r) = true := by decide +kernel
theorem j_dk_238 : k_238.all (fun r => j_dk cX12_takesBack r && j_ax 12 0 r) = true := by decide +kernel
theorem j_dk_239 : k_239.all (fun r => j_dk cX12_draws r && j_ax 12 0 r) = true := by decide +kernel
theorem j_dk_240_0 : ((k_240).take 30).all (fun r => j_dk cX12_drawn r && j_ax 12 0 r) = true := by decide +kernel
theorem j_dk_240_1 : (((k_240).drop 30).take 30).all (fun r => j_dk cX12_drawn r && j_ax 12 0 r) = true := by decide +kernel
theorem j_dk_240_2 : (((k_240).drop 30).drop 30).all (fun r => j_dk cX12_drawn r && j_ax 12 0 r) = true := by decide +kernel
theorem j_dk_240 : k_240.all (fun r => j_dk cX12_drawn r && j_ax 12 0 r) = true := j_all2 30 j_dk_240_0 (j_all2 30 j_dk_240_1 (j_dk_240_2))
theorem j_dk_241 : k_241.all (fun r => j_dk cX12_offerOf r && j_ax 12 0 r) = true := by decide +kernel
theorem j_dk_242_0 : ((k_242).take 30).all (fun r => j_dk cX12_offer r && j_ax 12 0 r) = true := by decide +kernel
theorem j_dk_242_1 : (((k_242).drop 30).take 30).all (fun r => j_dk cX12_offer r && j_ax 12 0 r) = true := by decide +kernel
theorem j_dk_242_2 : (((k_242).drop 30).drop 30).all (fun r => j_dk cX12_offer r && j_ax 12 0 r) = true := by decide +kernel
theorem j_dk_242 : k_242.all (fun r => j_dk cX12_offer r && j_ax 12 0 r) = true := j_all2 30 j_dk_242_0 (j_all2 30 j_dk_242_1 (j_dk_242_2))
theorem j_dk_243_0 : ((k_243).take 30).all (fun r => j_dk cX12_isAhead r && j_ax 12 0 r) = true := by decide +kernel
theorem j_dk_243_1 : ((k_243).drop 30).all (fun r => j_dk cX12_isAhead r && j_ax 12 0 r) = true := by decide +kernel
theorem j_dk_243 : k_243.all (fun r => j_dk cX12_isAhead r && j_ax 12 0 r) = true := j_all2 30 j_dk_243_0 (j_dk_243_1)
theorem j_dk_244 : k_244.all (fun r => j_dk cX12_place r && j_ax 12 0 r) = true := by decide +kernel
theorem j_dk_245_0 : ((k_245).take 30).all (fun r => j_dk cX12_offered r && j_ax 12 0 r) = true := by decide +kernel
theorem j_dk_245_1 : ((k_245).drop 30).all (fun r => j_dk cX12_offered r && j_ax 12 0 r) = true := by decide +kernel
theorem j_dk_245 : k_245.all (fun r => j_dk cX12_offered r && j_ax 12 0 r) = true := j_all2 30 j_dk_245_0 (j_dk_245_1)
theorem j_dk_246_0 : ((k_246).take 30).all (fun r => j_dk cX12_upTo r && j_ax 12 0 r) = true := by decide +kernel
theorem j_dk_246_1 : ((k_246).drop 30).all (fun r => j_dk cX12_upTo r && j_ax 12 0 r) = true := by decide +kernel
theorem j_dk_246 : k_246.all (fun r => j_dk cX12_upTo r && j_ax 12 0 r) = true := j_all2 30 j_dk_246_0 (j_dk_246_1)
theorem j_dk_247 : k_247.all (fun r => j_dk cX12_gain r && j_ax 12 0 r) = true := by decide +kernel
theorem j_dk_248_0 : ((k_248).take 30).all (fun r => j_dk cX12_dearest r && j_ax 12 0 r) = true := by decide +kernel
theorem j_dk_248_1 : ((k_248).drop 30).all (fun r => j_dk cX12_dearest r && j_ax 12 0 r) = true := by decide +kernel
theorem j_dk_248 : k_248.all (fun r => j_dk cX12_dearest r && j_ax 12 0 r) = true := j_all2 30 j_dk_248_0 (j_dk_248_1)
theorem j_dk_249 : k_249.all (fun r => j_dk cX12_isStep r && j_ax 12 1 r) = true := by decide +kernel
theorem j_dk_250_0 : ((k_250).take 30).all (fun r => j_dk cX12_plan r && j_ax 12 0 r) = true := by decide +kernel
theorem j_dk_250_1 : (((k_250).drop 30).take 30).all (fun r => j_dk cX12_plan r && j_ax 12 0 r) = true := by decide +kernel
theorem j_dk_250_2 : (((k_250).drop 30).drop 30).all (fun r => j_dk cX12_plan r && j_ax 12 0 r) = true := by decide +kernel
theorem j_dk_250 : k_250.all (fun r => j_dk cX12_plan r && j_ax 12 0 r) = true := j_all2 30 j_dk_250_0 (j_all2 30 j_dk_250_1 (j_dk_250_2))
theorem j_dk_251_0 : ((k_251).take 30).all (fun r => j_dk cX12_goes r && j_ax 12 0 r) = true := by decide +kernel
theorem j_dk_251_1 : ((k_251).drop 30).all (fun r => j_dk cX12_goes r && j_ax 12 0 r) = true := by decide +kernel
theorem j_dk_251 : k_251.all (fun r => j_dk cX12_goes r && j_ax 12 0 r) = true := j_all2 30 j_dk_251_0 (j_dk_251_1)
theorem j_dk_252_0 : ((k_252).take 30).all (fun r => j_dk cX12_ends r && j_ax 12 0 r) = true := by decide +kernel
theorem j_dk_252_1 : ((k_252).drop 30).all (fun r => j_dk cX12_ends r && j_ax 12 0 r) = true := by decide +kernel
theorem j_dk_252 : k_252.all (fun r => j_dk cX12_ends r && j_ax 12 0 r) = true := j_all2 30 j_dk_252_0 (j_dk_252_1)
theorem j_dk_253 : k_253.all (fun r => j_dk cX12_isTape r && j_ax 12 1 r) = true := by decide +kernel
theorem j_dk_254_0 : ((k_254).take 30).all (fun r => j_dk cX12_judge r && j_ax 12 0 r) = true := by decide +kernel
theorem j_dk_254_1 : (((k_254).drop 30).take 30).all (fun r => j_dk cX12_judge r && j_ax 12 0 r) = true := by decide +kernel
theorem j_dk_254_2 : (((k_254).drop 30).drop 30).all (fun r => j_dk cX12_judge r && j_ax 12 0 r) = true := by decide +kernel
theorem j_dk_254 : k_254.all (fun r => j_dk cX12_judge r && j_ax 12 0 r) = true := j_all2 30 j_dk_254_0 (j_all2 30 j_dk_254_1 (j_dk_254_2))
theorem j_dk_255 : k_255.all (fun r => j_dk cX12_image r && j_ax 12 0 r) = true := by decide +kernel
theorem j_dk_256 : k_256.all (fun r => j_dk cX12_undo r && j_ax 12 0 r) = true := by decide +kernel
theorem j_dk_257_0 : ((k_257).take 30).all (fun r => j_dk cX12_count r && j_ax 12 0 r) = true := by decide +kernel
theorem j_dk_257_1 : (((k_257).drop 30).take 30).all (fun r => j_dk cX12_count r && j_ax 12 0 r) = true := by decide +kernel
theorem j_dk_257_2 : (((k_257).drop 30).drop 30).all (fun r => j_dk cX12_count r && j_ax 12 0 r) = true := by decide +kernel
theorem j_dk_257 : k_257.all (fun r => j_dk cX12_count r && j_ax 12 0 r) = true := j_all2 30 j_dk_257_0 (j_all2 30 j_dk_257_1 (j_dk_257_2))
theorem j_dk_258_0 : ((k_258).take 30).all (fun r => j_dk cX12_tape r && j_ax 12 0 r) = true := by decide +kernel
theorem j_dk_258_1 : ((k_258).drop 30).all (fun r => j_dk cX12_tape r && j_ax 12 0 r) = true := by decide +kernel
theorem j_dk_258 : k_258.all (fun r => j_dk cX12_tape r && j_ax 12 0 r) = true := j_all2 30 j_dk_258_0 (j_dk_258_1)
theorem j_dk_259 : k_259.all (fun r => j_dk cX12_held r && j_ax 12 1 r) = true := by decide +kernel
theorem j_dk_260_0 : ((k_260).take 30).all (fun r => j_dk cX12_item r && j_ax 12 0 r) = true := by decide +kernel
theorem j_dk_260_1 : ((k_260).drop 30).all (fun r => j_dk cX12_item r && j_ax 12 0 r) = true := by decide +kernel
theorem j_dk_260 : k_260.all (fun r => j_dk cX12_item r && j_ax 12 0 r) = true := j_all2 30 j_dk_260_0 (j_dk_260_1)
theorem j_dk_261_0 : ((k_261).take 30).all (fun r => j_dk cX12_peek r && j_ax 12 0 r) = true := by decide +kernel
theorem j_dk_261_1 : ((k_261).drop 30).all (fun r => j_dk cX12_peek r && j_ax 12 0 r) = true := by decide +kernel
theorem j_dk_261 : k_261.all (fun r => j_dk cX12_peek r && j_ax 12 0 r) = true := j_all2 30 j_dk_261_0 (j_dk_261_1)
theorem j_dk_262_0 : ((k_262).take 30).all (fun r => j_dk cX12_shift r && j_ax 12 0 r) = true := by decide +kernel
theorem j_dk_262_1 : (((k_262).drop 30).take 30).all (fun r => j_dk cX12_shift r && j_ax 12 0 r) = true := by decide +kernel
theorem j_dk_262_2 : ((((k_262).drop 30).drop 30).take 30).all (fun r => j_dk cX12_shift r && j_ax 12 0 r) = true := by decide +kernel
theorem j_dk_262_3 : ((((k_262).drop 30).drop 30).drop 30).all (fun r => j_dk cX12_shift r && j_ax 12 0 r) = true := by decide +kernel
theorem j_dk_262 : k_262.all (fun r => j_dk cX12_shift r && j_ax 12 0 r) = true := j_all2 30 j_dk_262_0 (j_all2 30 j_dk_262_1 (j_all2 30 j_dk_262_2 (j_dk_262_3)))
theorem j_dk_263 : k_263.all (fun r => j_dk cJ9_floorDiv_7cf53 r && j_ax 14 1 r) = true := by decide +kernel
theorem j_dk_264 : k_264.all (fun r => j_dk cJ9_floorDiv_b2ac5 r && j_ax 14 1 r) = true := by decide +kernel
theorem j_dk_265 : k_265.all (fun r => j_dk cJ9_floorDiv_f86c9 r && j_ax 14 1 r) = true := by decide +kernel
theorem j_dk_266 : k_266.all (fun r => j_dk cJ9_floorMod_f86c9 r && j_ax 14 1 r) = true := by decide +kernel
theorem j_dk_267 : k_267.all (fun r => j_dk cJ9_abs_067f4 r && j_ax 14 1 r) = true := by decide +kernel
theorem j_dk_268 : k_268.all (fun r => j_dk cJ9_min_7cf53 r && j_ax 14 1 r) = true := by decide +kernel
theorem j_dk_269 : k_269.all (fun r => j_dk cJ7_fill_d0a16 r && j_ax 15 1 r) = true := by decide +kernel
theorem j_dk_270 : k_270.all (fun r => j_dk cJ7_fill_53178 r && j_ax 15 1 r) = true := by decide +kernel
theorem j_dk_271_0 : ((k_271).take 30).all (fun r => j_dk cL_law r && j_ax 13 1 r) = true := by decide +kernel
theorem j_dk_271_1 : (((k_271).drop 30).take 30).all (fun r => j_dk cL_law r && j_ax 13 1 r) = true := by decide +kernel
theorem j_dk_271_2 : ((((k_271).drop 30).drop 30).take 30).all (fun r => j_dk cL_law r && j_ax 13 1 r) = true := by decide +kernel
theorem j_dk_271_3 : (((((k_271).drop 30).drop 30).drop 30).take 30).all (fun r => j_dk cL_law r && j_ax 13 1 r) = true := by decide +kernel
theorem j_dk_271_4 : ((((((k_271).drop 30).drop 30).drop 30).drop 30).take 30).all (fun r => j_dk cL_law r && j_ax 13 1 r) = true := by decide +kernel
theorem j_dk_271_5 : (((((((k_271).drop 30).drop 30).drop 30).drop 30).drop 30).take 30).all (fun r => j_dk cL_law r && j_ax 13 1 r) = true := by decide +kernel
theorem j_dk_271_6 : ((((((((k_271).drop 30).drop 30).drop 30).drop 30).drop 30).drop 30).take 30).all (fun r => j_dk cL_law r && j_ax 13 1 r) = true := by decide +kernel
theorem j_dk_271_7 : (((((((((k_271).drop 30).drop 30).drop 30).drop 30).drop 30).drop 30).drop 30).take 30).all (fun r => j_dk cL_law r && j_ax 13 1 r) = true := by decide +kernel
theorem j_dk_271_8 : ((((((((((k_271).drop 30).drop 30).drop 30).drop 30).drop 30).drop 30).drop 30).drop 30).take 30).all (fun r => j_dk cL_law r && j_ax 13 1 r) = true := by decide +kernel
theorem j_dk_271_9 : (((((((((((k_271).drop 30).drop 30).drop 30).drop 30).drop 30).drop 30).drop 30).drop 30).drop 30).take 30).all (fun r => j_dk cL_law r && j_ax 13 1 r) = true := by decide +kernel
theorem j_dk_271_10 : ((((((((((((k_271).drop 30).drop 30).drop 30).drop 30).drop 30).drop 30).drop 30).drop 30).drop 30).drop 30).take 30).all (fun r => j_dk cL_law r && j_ax 13 1 r) = true := by decide +kernel
theorem j_dk_271_11 : (((((((((((((k_271).drop 30).drop 30).drop 30).drop 30).drop 30).drop 30).drop 30).drop 30).drop 30).drop 30).drop 30).take 30).all (fun r => j_dk cL_law r && j_ax 13 1 r) = true := by decide +kernel
theorem j_dk_271_12 : ((((((((((((((k_271).drop 30).drop 30).drop 30).drop 30).drop 30).drop 30).drop 30).drop 30).drop 30).drop 30).drop 30).drop 30).take 30).all (fun r => j_dk cL_law r && j_ax 13 1 r) = true := by decide +kernel
theorem j_dk_271_13 : (((((((((((((((k_271).drop 30).drop 30).drop 30).drop 30).drop 30).drop 30).drop 30).drop 30).drop 30).drop 30).drop 30).drop 30).drop 30).take 30).all (fun r => j_dk cL_law r && j_ax 13 1 r) = true := by decide +kernel
theorem j_dk_271_14 : ((((((((((((((((k_271).drop 30).drop 30).drop 30).drop 30).drop 30).drop 30).drop 30).drop 30).drop 30).drop 30).drop 30).drop 30).drop 30).drop 30).take 30).all (fun r => j_dk cL_law r && j_ax 13 1 r) = true := by decide +kernel
theorem j_dk_271_15 : (((((((((((((((((k_271).drop 30).drop 30).drop 30).drop 30).drop 30).drop 30).drop 30).drop 30).drop 30).drop 30).drop 30).drop 30).drop 30).drop 30).drop 30).take 30).all (fun r => j_dk cL_law r && j_ax 13 1 r) = true := by decide +kernel
theorem j_dk_271_16 : ((((((((((((((((((k_271).drop 30).drop 30).drop 30).drop 30).drop 30).drop 30).drop 30).drop 30).drop 30).drop 30).drop 30).drop 30).drop 30).drop 30).drop 30).drop 30).take 30).all (fun r => j_dk cL_law r && j_ax 13 1 r) = true := by decide +kernel
theorem j_dk_271_17 : (((((((((((((((((((k_271).drop 30).drop 30).drop 30).drop 30).drop 30).drop 30).drop 30).drop 30).drop 30).drop 30).drop 30).drop 30).drop 30).drop 30).drop 30).drop 30).drop 30).take 30).all (fun r => j_dk cL_law r && j_ax 13 1 r) = true := by decide +kernel
theorem j_dk_271_18 : ((((((((((((((((((((k_271).drop 30).drop 30).drop 30).drop 30).drop 30).drop 30).drop 30).drop 30).drop 30).drop 30).drop 30).drop 30).drop 30).drop 30).drop 30).drop 30).drop 30).drop 30).take 30).all (fun r => j_dk cL_law r && j_ax 13 1 r) = true := by decide +kernel
theorem j_dk_271_19 : (((((((((((((((((((((k_271).drop 30).drop 30).drop 30).drop 30).drop 30).drop 30).drop 30).drop 30).drop 30).drop 30).drop 30).drop 30).drop 30).drop 30).drop 30).drop 30).drop 30).drop 30).drop 30).take 30).all (fun r => j_dk cL_law r && j_ax 13 1 r) = true := by decide +kernel
theorem j_dk_271_20 : ((((((((((((((((((((((k_271).drop 30).drop 30).drop 30).drop 30).drop 30).drop 30).drop 30).drop 30).drop 30).drop 30).drop 30).drop 30).drop 30).drop 30).drop 30).drop 30).drop 30).drop 30).drop 30).drop 30).take 30).all (fun r => j_dk cL_law r && j_ax 13 1 r) = true := by decide +kernel
theorem j_dk_271_21 : (((((((((((((((((((((((k_271).drop 30).drop 30).drop 30).drop 30).drop 30).drop 30).drop 30).drop 30).drop 30).drop 30).drop 30).drop 30).drop 30).drop 30).drop 30).drop 30).drop 30).drop 30).drop 30).drop 30).drop 30).take 30).all (fun r => j_dk cL_law r && j_ax 13 1 r) = true := by decide +kernel
theorem j_dk_271_22 : ((((((((((((((((((((((((k_271).drop 30).drop 30).drop 30).drop 30).drop 30).drop 30).drop 30).drop 30).drop 30).drop 30).drop 30).drop 30).drop 30).drop 30).drop 30).drop 30).drop 30).drop 30).drop 30).drop 30).drop 30).drop 30).take 30).all (fun r => j_dk cL_law r && j_ax 13 1 r) = true := by decide +kernel
theorem j_dk_271_23 : (((((((((((((((((((((((((k_271).drop 30).drop 30).drop 30).drop 30).drop 30).drop 30).drop 30).drop 30).drop 30).drop 30).drop 30).drop 30).drop 30).drop 30).drop 30).drop 30).drop 30).drop 30).drop 30).drop 30).drop 30).drop 30).drop 30).take 30).all (fun r => j_dk cL_law r && j_ax 13 1 r) = true := by decide +kernel
theorem j_dk_271_24 : ((((((((((((((((((((((((((k_271).drop 30).drop 30).drop 30).drop 30).drop 30).drop 30).drop 30).drop 30).drop 30).drop 30).drop 30).drop 30).drop 30).drop 30).drop 30).drop 30).drop 30).drop 30).drop 30).drop 30).drop 30).drop 30).drop 30).drop 30).take 30).all (fun r => j_dk cL_law r && j_ax 13 1 r) = true := by decide +kernel
theorem j_dk_271_25 : (((((((((((((((((((((((((((k_271).drop 30).drop 30).drop 30).drop 30).drop 30).drop 30).drop 30).drop 30).drop 30).drop 30).drop 30).drop 30).drop 30).drop 30).drop 30).drop 30).drop 30).drop 30).drop 30).drop 30).drop 30).drop 30).drop 30).drop 30).drop 30).take 30).all (fun r => j_dk cL_law r && j_ax 13 1 r) = true := by decide +kernel
theorem j_dk_271_26 : ((((((((((((((((((((((((((((k_271).drop 30).drop 30).drop 30).drop 30).drop 30).drop 30).drop 30).drop 30).drop 30).drop 30).drop 30).drop 30).drop 30).drop 30).drop 30).drop 30).drop 30).drop 30).drop 30).drop 30).drop 30).drop 30).drop 30).drop 30).drop 30).drop 30).take 30).all (fun r => j_dk cL_law r && j_ax 13 1 r) = true := by decide +kernel
theorem j_dk_271_27 : (((((((((((((((((((((((((((((k_271).drop 30).drop 30).drop 30).drop 30).drop 30).drop 30).drop 30).drop 30).drop 30).drop 30).drop 30).drop 30).drop 30).drop 30).drop 30).drop 30).drop 30).drop 30).drop 30).drop 30).drop 30).drop 30).drop 30).drop 30).drop 30).drop 30).drop 30).take 30).all (fun r => j_dk cL_law r && j_ax 13 1 r) = true := by decide +kernel
theorem j_dk_271_28 : ((((((((((((((((((((((((((((((k_271).drop 30).drop 30).drop 30).drop 30).drop 30).drop 30).drop 30).drop 30).drop 30).drop 30).drop 30).drop 30).drop 30).drop 30).drop 30).drop 30).drop 30).drop 30).drop 30).drop 30).drop 30).drop 30).drop 30).drop 30).drop 30).drop 30).drop 30).drop 30).take 30).all (fun r => j_dk cL_law r && j_ax 13 1 r) = true := by decide +kernel
theorem j_dk_271_29 : (((((((((((((((((((((((((((((((k_271).drop 30).drop 30).drop 30).drop 30).drop 30).drop 30).drop 30).drop 30).drop 30).drop 30).drop 30).drop 30).drop 30).drop 30).drop 30).drop 30).drop 30).drop 30).drop 30).drop 30).drop 30).drop 30).drop 30).drop 30).drop 30).drop 30).drop 30).drop 30).drop 30).take 30).all (fun r => j_dk cL_law r && j_ax 13 1 r) = true := by decide +kernel
theorem j_dk_271_30 : ((((((((((((((((((((((((((((((((k_271).drop 30).drop 30).drop 30).drop 30).drop 30).drop 30).drop 30).drop 30).drop 30).drop 30).drop 30).drop 30).drop 30).drop 30).drop 30).drop 30).drop 30).drop 30).drop 30).drop 30).drop 30).drop 30).drop 30).drop 30).drop 30).drop 30).drop 30).drop 30).drop 30).drop 30).take 30).all (fun r => j_dk cL_law r && j_ax 13 1 r) = true := by decide +kernel
theorem j_dk_271_31 : (((((((((((((((((((((((((((((((((k_271).drop 30).drop 30).drop 30).drop 30).drop 30).drop 30).drop 30).drop 30).drop 30).drop 30).drop 30).drop 30).drop 30).drop 30).drop 30).drop 30).drop 30).drop 30).drop 30).drop 30).drop 30).drop 30).drop 30).drop 30).drop 30).drop 30).drop 30).drop 30).drop 30).drop 30).drop 30).take 30).all (fun r => j_dk cL_law r && j_ax 13 1 r) = true := by decide +kernel
theorem j_dk_271_32 : ((((((((((((((((((((((((((((((((((k_271).drop 30).drop 30).drop 30).drop 30).drop 30).drop 30).drop 30).drop 30).drop 30).drop 30).drop 30).drop 30).drop 30).drop 30).drop 30).drop 30).drop 30).drop 30).drop 30).drop 30).drop 30).drop 30).drop 30).drop 30).drop 30).drop 30).drop 30).drop 30).drop 30).drop 30).drop 30).drop 30).take 30).all (fun r => j_dk cL_law r && j_ax 13 1 r) = true := by decide +kernel
theorem j_dk_271_33 : (((((((((((((((((((((((((((((((((((k_271).drop 30).drop 30).drop 30).drop 30).drop 30).drop 30).drop 30).drop 30).drop 30).drop 30).drop 30).drop 30).drop 30).drop 30).drop 30).drop 30).drop 30).drop 30).drop 30).drop 30).drop 30).drop 30).drop 30).drop 30).drop 30).drop 30).drop 30).drop 30).drop 30).drop 30).drop 30).drop 30).drop 30).take 30).all (fun r => j_dk cL_law r && j_ax 13 1 r) = true := by decide +kernel
theorem j_dk_271_34 : ((((((((((((((((((((((((((((((((((((k_271).drop 30).drop 30).drop 30).drop 30).drop 30).drop 30).drop 30).drop 30).drop 30).drop 30).drop 30).drop 30).drop 30).drop 30).drop 30).drop 30).drop 30).drop 30).drop 30).drop 30).drop 30).drop 30).drop 30).drop 30).drop 30).drop 30).drop 30).drop 30).drop 30).drop 30).drop 30).drop 30).drop 30).drop 30).take 30).all (fun r => j_dk cL_law r && j_ax 13 1 r) = true := by decide +kernel
theorem j_dk_271_35 : (((((((((((((((((((((((((((((((((((((k_271).drop 30).drop 30).drop 30).drop 30).drop 30).drop 30).drop 30).drop 30).drop 30).drop 30).drop 30).drop 30).drop 30).drop 30).drop 30).drop 30).drop 30).drop 30).drop 30).drop 30).drop 30).drop 30).drop 30).drop 30).drop 30).drop 30).drop 30).drop 30).drop 30).drop 30).drop 30).drop 30).drop 30).drop 30).drop 30).take 30).all (fun r => j_dk cL_law r && j_ax 13 1 r) = true := by decide +kernel
theorem j_dk_271_36 : ((((((((((((((((((((((((((((((((((((((k_271).drop 30).drop 30).drop 30).drop 30).drop 30).drop 30).drop 30).drop 30).drop 30).drop 30).drop 30).drop 30).drop 30).drop 30).drop 30).drop 30).drop 30).drop 30).drop 30).drop 30).drop 30).drop 30).drop 30).drop 30).drop 30).drop 30).drop 30).drop 30).drop 30).drop 30).drop 30).drop 30).drop 30).drop 30).drop 30).drop 30).take 30).all (fun r => j_dk cL_law r && j_ax 13 1 r) = true := by decide +kernel
theorem j_dk_271_37 : ((((((((((((((((((((((((((((((((((((((k_271).drop 30).drop 30).drop 30).drop 30).drop 30).drop 30).drop 30).drop 30).drop 30).drop 30).drop 30).drop 30).drop 30).drop 30).drop 30).drop 30).drop 30).drop 30).drop 30).drop 30).drop 30).drop 30).drop 30).drop 30).drop 30).drop 30).drop 30).drop 30).drop 30).drop 30).drop 30).drop 30).drop 30).drop 30).drop 30).drop 30).drop 30).all (fun r => j_dk cL_law r && j_ax 13 1 r) = true := by decide +kernel
theorem j_dk_271 : k_271.all (fun r => j_dk cL_law r && j_ax 13 1 r) = true := j_all2 30 j_dk_271_0 (j_all2 30 j_dk_271_1 (j_all2 30 j_dk_271_2 (j_all2 30 j_dk_271_3 (j_all2 30 j_dk_271_4 (j_all2 30 j_dk_271_5 (j_all2 30 j_dk_271_6 (j_all2 30 j_dk_271_7 (j_all2 30 j_dk_271_8 (j_all2 30 j_dk_271_9 (j_all2 30 j_dk_271_10 (j_all2 30 j_dk_271_11 (j_all2 30 j_dk_271_12 (j_all2 30 j_dk_271_13 (j_all2 30 j_dk_271_14 (j_all2 30 j_dk_271_15 (j_all2 30 j_dk_271_16 (j_all2 30 j_dk_271_17 (j_all2 30 j_dk_271_18 (j_all2 30 j_dk_271_19 (j_all2 30 j_dk_271_20 (j_all2 30 j_dk_271_21 (j_all2 30 j_dk_271_22 (j_all2 30 j_dk_271_23 (j_all2 30 j_dk_271_24 (j_all2 30 j_dk_271_25 (j_all2 30 j_dk_271_26 (j_all2 30 j_dk_271_27 (j_all2 30 j_dk_271_28 (j_all2 30 j_dk_271_29 (j_all2 30 j_dk_271_30 (j_all2 30 j_dk_271_31 (j_all2 30 j_dk_271_32 (j_all2 30 j_dk_271_33 (j_all2 30 j_dk_271_34 (j_all2 30 j_dk_271_35 (j_all2 30 j_dk_271_36 (j_dk_271_37)))))))))))))))))))))))))))))))))))))
/-- every instruction is decoded so, and its entries are what stands beside it -/
def j_good (y : Nat) : Prop := ∀ (q : j_M) (c : List (Nat × j_I)), j_meth[y]? = some q → j_code[y]? = some c → c.all (fun r => j_dk q.2.1 r && j_ax q.2.2.2.2.1 q.2.2.2.2.2.1 r) = true
theorem j_good_0 : j_good 0 := fun q c h1 h2 => by cases Option.some.inj ((rfl : j_meth[0]? = some _).symm.trans h1); cases Option.some.inj ((rfl : j_code[0]? = some _).symm.trans h2); exact j_dk_0
theorem j_good_1 : j_good 1 := fun q c h1 h2 => by cases Option.some.inj ((rfl : j_meth[1]? = some _).symm.trans h1); cases Option.some.inj ((rfl : j_code[1]? = some _).symm.trans h2); exact j_dk_1
theorem j_good_2 : j_good 2 := fun q c h1 h2 => by cases Option.some.inj ((rfl : j_meth[2]? = some _).symm.trans h1); cases Option.some.inj ((rfl : j_code[2]? = some _).symm.trans h2); exact j_dk_2
theorem j_good_3 : j_good 3 := fun q c h1 h2 => by cases Option.some.inj ((rfl : j_meth[3]? = some _).symm.trans h1); cases Option.some.inj ((rfl : j_code[3]? = some _).symm.trans h2); exact j_dk_3
theorem j_good_4 : j_good 4 := fun q c h1 h2 => by cases Option.some.inj ((rfl : j_meth[4]? = some _).symm.trans h1); cases Option.some.inj ((rfl : j_code[4]? = some _).symm.trans h2); exact j_dk_4
theorem j_good_5 : j_good 5 := fun q c h1 h2 => by cases Option.some.inj ((rfl : j_meth[5]? = some _).symm.trans h1); cases Option.some.inj ((rfl : j_code[5]? = some _).symm.trans h2); exact j_dk_5
theorem j_good_6 : j_good 6 := fun q c h1 h2 => by cases Option.some.inj ((rfl : j_meth[6]? = some _).symm.trans h1); cases Option.some.inj ((rfl : j_code[6]? = some _).symm.trans h2); exact j_dk_6
theorem j_good_7 : j_good 7 := fun q c h1 h2 => by cases Option.some.inj ((rfl : j_meth[7]? = some _).symm.trans h1); cases Option.some.inj ((rfl : j_code[7]? = some _).symm.trans h2); exact j_dk_7
theorem j_good_8 : j_good 8 := fun q c h1 h2 => by cases Option.some.inj ((rfl : j_meth[8]? = some _).symm.trans h1); cases Option.some.inj ((rfl : j_code[8]? = some _).symm.trans h2); exact j_dk_8
theorem j_good_9 : j_good 9 := fun q c h1 h2 => by cases Option.some.inj ((rfl : j_meth[9]? = some _).symm.trans h1); cases Option.some.inj ((rfl : j_code[9]? = some _).symm.trans h2); exact j_dk_9
theorem j_good_10 : j_good 10 := fun q c h1 h2 => by cases Option.some.inj ((rfl : j_meth[10]? = some _).symm.trans h1); cases Option.some.inj ((rfl : j_code[10]? = some _).symm.trans h2); exact j_dk_10
theorem j_good_11 : j_good 11 := fun q c h1 h2 => by cases Option.some.inj ((rfl : j_meth[11]? = some _).symm.trans h1); cases Option.some.inj ((rfl : j_code[11]? = some _).symm.trans h2); exact j_dk_11
theorem j_good_12 : j_good 12 := fun q c h1 h2 => by cases Option.some.inj ((rfl : j_meth[12]? = some _).symm.trans h1); cases Option.some.inj ((rfl : j_code[12]? = some _).symm.trans h2); exact j_dk_12
theorem j_good_13 : j_good 13 := fun q c h1 h2 => by cases Option.some.inj ((rfl : j_meth[13]? = some _).symm.trans h1); cases Option.some.inj ((rfl : j_code[13]? = some _).symm.trans h2); exact j_dk_13
theorem j_good_14 : j_good 14 := fun q c h1 h2 => by cases Option.some.inj ((rfl : j_meth[14]? = some _).symm.trans h1); cases Option.some.inj ((rfl : j_code[14]? = some _).symm.trans h2); exact j_dk_14
theorem j_good_15 : j_good 15 := fun q c h1 h2 => by cases Option.some.inj ((rfl : j_meth[15]? = some _).symm.trans h1); cases Option.some.inj ((rfl : j_code[15]? = some _).symm.trans h2); exact j_dk_15
theorem j_good_16 : j_good 16 := fun q c h1 h2 => by cases Option.some.inj ((rfl : j_meth[16]? = some _).symm.trans h1); cases Option.some.inj ((rfl : j_code[16]? = some _).symm.trans h2); exact j_dk_16
theorem j_good_17 : j_good 17 := fun q c h1 h2 => by cases Option.some.inj ((rfl : j_meth[17]? = some _).symm.trans h1); cases Option.some.inj ((rfl : j_code[17]? = some _).symm.trans h2); exact j_dk_17
theorem j_good_18 : j_good 18 := fun q c h1 h2 => by cases Option.some.inj ((rfl : j_meth[18]? = some _).symm.trans h1); cases Option.some.inj ((rfl : j_code[18]? = some _).symm.trans h2); exact j_dk_18
theorem j_good_19 : j_good 19 := fun q c h1 h2 => by cases Option.some.inj ((rfl : j_meth[19]? = some _).symm.trans h1); cases Option.some.inj ((rfl : j_code[19]? = some _).symm.trans h2); exact j_dk_19
theorem j_good_20 : j_good 20 := fun q c h1 h2 => by cases Option.some.inj ((rfl : j_meth[20]? = some _).symm.trans h1); cases Option.some.inj ((rfl : j_code[20]? = some _).symm.trans h2); exact j_dk_20
theorem j_good_21 : j_good 21 := fun q c h1 h2 => by cases Option.some.inj ((rfl : j_meth[21]? = some _).symm.trans h1); cases Option.some.inj ((rfl : j_code[21]? = some _).symm.trans h2); exact j_dk_21
theorem j_good_22 : j_good 22 := fun q c h1 h2 => by cases Option.some.inj ((rfl : j_meth[22]? = some _).symm.trans h1); cases Option.some.inj ((rfl : j_code[22]? = some _).symm.trans h2); exact j_dk_22
theorem j_good_23 : j_good 23 := fun q c h1 h2 => by cases Option.some.inj ((rfl : j_meth[23]? = some _).symm.trans h1); cases Option.some.inj ((rfl : j_code[23]? = some _).symm.trans h2); exact j_dk_23
theorem j_good_24 : j_good 24 := fun q c h1 h2 => by cases Option.some.inj ((rfl : j_meth[24]? = some _).symm.trans h1); cases Option.some.inj ((rfl : j_code[24]? = some _).symm.trans h2); exact j_dk_24
theorem j_good_25 : j_good 25 := fun q c h1 h2 => by cases Option.some.inj ((rfl : j_meth[25]? = some _).symm.trans h1); cases Option.some.inj ((rfl : j_code[25]? = some _).symm.trans h2); exact j_dk_25
theorem j_good_26 : j_good 26 := fun q c h1 h2 => by cases Option.some.inj ((rfl : j_meth[26]? = some _).symm.trans h1); cases Option.some.inj ((rfl : j_code[26]? = some _).symm.trans h2); exact j_dk_26
theorem j_good_27 : j_good 27 := fun q c h1 h2 => by cases Option.some.inj ((rfl : j_meth[27]? = some _).symm.trans h1); cases Option.some.inj ((rfl : j_code[27]? = some _).symm.trans h2); exact j_dk_27
theorem j_good_28 : j_good 28 := fun q c h1 h2 => by cases Option.some.inj ((rfl : j_meth[28]? = some _).symm.trans h1); cases Option.some.inj ((rfl : j_code[28]? = some _).symm.trans h2); exact j_dk_28
theorem j_good_29 : j_good 29 := fun q c h1 h2 => by cases Option.some.inj ((rfl : j_meth[29]? = some _).symm.trans h1); cases Option.some.inj ((rfl : j_code[29]? = some _).symm.trans h2); exact j_dk_29
theorem j_good_30 : j_good 30 := fun q c h1 h2 => by cases Option.some.inj ((rfl : j_meth[30]? = some _).symm.trans h1); cases Option.some.inj ((rfl : j_code[30]? = some _).symm.trans h2); exact j_dk_30
theorem j_good_31 : j_good 31 := fun q c h1 h2 => by cases Option.some.inj ((rfl : j_meth[31]? = some _).symm.trans h1); cases Option.some.inj ((rfl : j_code[31]? = some _).symm.trans h2); exact j_dk_31
theorem j_good_32 : j_good 32 := fun q c h1 h2 => by cases Option.some.inj ((rfl : j_meth[32]? = some _).symm.trans h1); cases Option.some.inj ((rfl : j_code[32]? = some _).symm.trans h2); exact j_dk_32
theorem j_good_33 : j_good 33 := fun q c h1 h2 => by cases Option.some.inj ((rfl : j_meth[33]? = some _).symm.trans h1); cases Option.some.inj ((rfl : j_code[33]? = some _).symm.trans h2); exact j_dk_33
theorem j_good_34 : j_good 34 := fun q c h1 h2 => by cases Option.some.inj ((rfl : j_meth[34]? = some _).symm.trans h1); cases Option.some.inj ((rfl : j_code[34]? = some _).symm.trans h2); exact j_dk_34
theorem j_good_35 : j_good 35 := fun q c h1 h2 => by cases Option.some.inj ((rfl : j_meth[35]? = some _).symm.trans h1); cases Option.some.inj ((rfl : j_code[35]? = some _).symm.trans h2); exact j_dk_35
theorem j_good_36 : j_good 36 := fun q c h1 h2 => by cases Option.some.inj ((rfl : j_meth[36]? = some _).symm.trans h1); cases Option.some.inj ((rfl : j_code[36]? = some _).symm.trans h2); exact j_dk_36
theorem j_good_37 : j_good 37 := fun q c h1 h2 => by cases Option.some.inj ((rfl : j_meth[37]? = some _).symm.trans h1); cases Option.some.inj ((rfl : j_code[37]? = some _).symm.trans h2); exact j_dk_37
theorem j_good_38 : j_good 38 := fun q c h1 h2 => by cases Option.some.inj ((rfl : j_meth[38]? = some _).symm.trans h1); cases Option.some.inj ((rfl : j_code[38]? = some _).symm.trans h2); exact j_dk_38
theorem j_good_39 : j_good 39 := fun q c h1 h2 => by cases Option.some.inj ((rfl : j_meth[39]? = some _).symm.trans h1); cases Option.some.inj ((rfl : j_code[39]? = some _).symm.trans h2); exact j_dk_39
theorem j_good_40 : j_good 40 := fun q c h1 h2 => by cases Option.some.inj ((rfl : j_meth[40]? = some _).symm.trans h1); cases Option.some.inj ((rfl : j_code[40]? = some _).symm.trans h2); exact j_dk_40
theorem j_good_41 : j_good 41 := fun q c h1 h2 => by cases Option.some.inj ((rfl : j_meth[41]? = some _).symm.trans h1); cases Option.some.inj ((rfl : j_code[41]? = some _).symm.trans h2); exact j_dk_41
theorem j_good_42 : j_good 42 := fun q c h1 h2 => by cases Option.some.inj ((rfl : j_meth[42]? = some _).symm.trans h1); cases Option.some.inj ((rfl : j_code[42]? = some _).symm.trans h2); exact j_dk_42
theorem j_good_43 : j_good 43 := fun q c h1 h2 => by cases Option.some.inj ((rfl : j_meth[43]? = some _).symm.trans h1); cases Option.some.inj ((rfl : j_code[43]? = some _).symm.trans h2); exact j_dk_43
theorem j_good_44 : j_good 44 := fun q c h1 h2 => by cases Option.some.inj ((rfl : j_meth[44]? = some _).symm.trans h1); cases Option.some.inj ((rfl : j_code[44]? = some _).symm.trans h2); exact j_dk_44
theorem j_good_45 : j_good 45 := fun q c h1 h2 => by cases Option.some.inj ((rfl : j_meth[45]? = some _).symm.trans h1); cases Option.some.inj ((rfl : j_code[45]? = some _).symm.trans h2); exact j_dk_45
theorem j_good_46 : j_good 46 := fun q c h1 h2 => by cases Option.some.inj ((rfl : j_meth[46]? = some _).symm.trans h1); cases Option.some.inj ((rfl : j_code[46]? = some _).symm.trans h2); exact j_dk_46
theorem j_good_47 : j_good 47 := fun q c h1 h2 => by cases Option.some.inj ((rfl : j_meth[47]? = some _).symm.trans h1); cases Option.some.inj ((rfl : j_code[47]? = some _).symm.trans h2); exact j_dk_47
theorem j_good_48 : j_good 48 := fun q c h1 h2 => by cases Option.some.inj ((rfl : j_meth[48]? = some _).symm.trans h1); cases Option.some.inj ((rfl : j_code[48]? = some _).symm.trans h2); exact j_dk_48
theorem j_good_49 : j_good 49 := fun q c h1 h2 => by cases Option.some.inj ((rfl : j_meth[49]? = some _).symm.trans h1); cases Option.some.inj ((rfl : j_code[49]? = some _).symm.trans h2); exact j_dk_49
theorem j_good_50 : j_good 50 := fun q c h1 h2 => by cases Option.some.inj ((rfl : j_meth[50]? = some _).symm.trans h1); cases Option.some.inj ((rfl : j_code[50]? = some _).symm.trans h2); exact j_dk_50
theorem j_good_51 : j_good 51 := fun q c h1 h2 => by cases Option.some.inj ((rfl : j_meth[51]? = some _).symm.trans h1); cases Option.some.inj ((rfl : j_code[51]? = some _).symm.trans h2); exact j_dk_51
theorem j_good_52 : j_good 52 := fun q c h1 h2 => by cases Option.some.inj ((rfl : j_meth[52]? = some _).symm.trans h1); cases Option.some.inj ((rfl : j_code[52]? = some _).symm.trans h2); exact j_dk_52
theorem j_good_53 : j_good 53 := fun q c h1 h2 => by cases Option.some.inj ((rfl : j_meth[53]? = some _).symm.trans h1); cases Option.some.inj ((rfl : j_code[53]? = some _).symm.trans h2); exact j_dk_53
theorem j_good_54 : j_good 54 := fun q c h1 h2 => by cases Option.some.inj ((rfl : j_meth[54]? = some _).symm.trans h1); cases Option.some.inj ((rfl : j_code[54]? = some _).symm.trans h2); exact j_dk_54
theorem j_good_55 : j_good 55 := fun q c h1 h2 => by cases Option.some.inj ((rfl : j_meth[55]? = some _).symm.trans h1); cases Option.some.inj ((rfl : j_code[55]? = some _).symm.trans h2); exact j_dk_55
theorem j_good_56 : j_good 56 := fun q c h1 h2 => by cases Option.some.inj ((rfl : j_meth[56]? = some _).symm.trans h1); cases Option.some.inj ((rfl : j_code[56]? = some _).symm.trans h2); exact j_dk_56
theorem j_good_57 : j_good 57 := fun q c h1 h2 => by cases Option.some.inj ((rfl : j_meth[57]? = some _).symm.trans h1); cases Option.some.inj ((rfl : j_code[57]? = some _).symm.trans h2); exact j_dk_57
theorem j_good_58 : j_good 58 := fun q c h1 h2 => by cases Option.some.inj ((rfl : j_meth[58]? = some _).symm.trans h1); cases Option.some.inj ((rfl : j_code[58]? = some _).symm.trans h2); exact j_dk_58
theorem j_good_59 : j_good 59 := fun q c h1 h2 => by cases Option.some.inj ((rfl : j_meth[59]? = some _).symm.trans h1); cases Option.some.inj ((rfl : j_code[59]? = some _).symm.trans h2); exact j_dk_59
theorem j_good_60 : j_good 60 := fun q c h1 h2 => by cases Option.some.inj ((rfl : j_meth[60]? = some _).symm.trans h1); cases Option.some.inj ((rfl : j_code[60]? = some _).symm.trans h2); exact j_dk_60
theorem j_good_61 : j_good 61 := fun q c h1 h2 => by cases Option.some.inj ((rfl : j_meth[61]? = some _).symm.trans h1); cases Option.some.inj ((rfl : j_code[61]? = some _).symm.trans h2); exact j_dk_61
theorem j_good_62 : j_good 62 := fun q c h1 h2 => by cases Option.some.inj ((rfl : j_meth[62]? = some _).symm.trans h1); cases Option.some.inj ((rfl : j_code[62]? = some _).symm.trans h2); exact j_dk_62
theorem j_good_63 : j_good 63 := fun q c h1 h2 => by cases Option.some.inj ((rfl : j_meth[63]? = some _).symm.trans h1); cases Option.some.inj ((rfl : j_code[63]? = some _).symm.trans h2); exact j_dk_63
theorem j_good_64 : j_good 64 := fun q c h1 h2 => by cases Option.some.inj ((rfl : j_meth[64]? = some _).symm.trans h1); cases Option.some.inj ((rfl : j_code[64]? = some _).symm.trans h2); exact j_dk_64
theorem j_good_65 : j_good 65 := fun q c h1 h2 => by cases Option.some.inj ((rfl : j_meth[65]? = some _).symm.trans h1); cases Option.some.inj ((rfl : j_code[65]? = some _).symm.trans h2); exact j_dk_65
theorem j_good_66 : j_good 66 := fun q c h1 h2 => by cases Option.some.inj ((rfl : j_meth[66]? = some _).symm.trans h1); cases Option.some.inj ((rfl : j_code[66]? = some _).symm.trans h2); exact j_dk_66
theorem j_good_67 : j_good 67 := fun q c h1 h2 => by cases Option.some.inj ((rfl : j_meth[67]? = some _).symm.trans h1); cases Option.some.inj ((rfl : j_code[67]? = some _).symm.trans h2); exact j_dk_67
theorem j_good_68 : j_good 68 := fun q c h1 h2 => by cases Option.some.inj ((rfl : j_meth[68]? = some _).symm.trans h1); cases Option.some.inj ((rfl : j_code[68]? = some _).symm.trans h2); exact j_dk_68
theorem j_good_69 : j_good 69 := fun q c h1 h2 => by cases Option.some.inj ((rfl : j_meth[69]? = some _).symm.trans h1); cases Option.some.inj ((rfl : j_code[69]? = some _).symm.trans h2); exact j_dk_69
theorem j_good_70 : j_good 70 := fun q c h1 h2 => by cases Option.some.inj ((rfl : j_meth[70]? = some _).symm.trans h1); cases Option.some.inj ((rfl : j_code[70]? = some _).symm.trans h2); exact j_dk_70
theorem j_good_71 : j_good 71 := fun q c h1 h2 => by cases Option.some.inj ((rfl : j_meth[71]? = some _).symm.trans h1); cases Option.some.inj ((rfl : j_code[71]? = some _).symm.trans h2); exact j_dk_71
theorem j_good_72 : j_good 72 := fun q c h1 h2 => by cases Option.some.inj ((rfl : j_meth[72]? = some _).symm.trans h1); cases Option.some.inj ((rfl : j_code[72]? = some _).symm.trans h2); exact j_dk_72
theorem j_good_73 : j_good 73 := fun q c h1 h2 => by cases Option.some.inj ((rfl : j_meth[73]? = some _).symm.trans h1); cases Option.some.inj ((rfl : j_code[73]? = some _).symm.trans h2); exact j_dk_73
theorem j_good_74 : j_good 74 := fun q c h1 h2 => by cases Option.some.inj ((rfl : j_meth[74]? = some _).symm.trans h1); cases Option.some.inj ((rfl : j_code[74]? = some _).symm.trans h2); exact j_dk_74
theorem j_good_75 : j_good 75 := fun q c h1 h2 => by cases Option.some.inj ((rfl : j_meth[75]? = some _).symm.trans h1); cases Option.some.inj ((rfl : j_code[75]? = some _).symm.trans h2); exact j_dk_75
theorem j_good_76 : j_good 76 := fun q c h1 h2 => by cases Option.some.inj ((rfl : j_meth[76]? = some _).symm.trans h1); cases Option.some.inj ((rfl : j_code[76]? = some _).symm.trans h2); exact j_dk_76
theorem j_good_77 : j_good 77 := fun q c h1 h2 => by cases Option.some.inj ((rfl : j_meth[77]? = some _).symm.trans h1); cases Option.some.inj ((rfl : j_code[77]? = some _).symm.trans h2); exact j_dk_77
theorem j_good_78 : j_good 78 := fun q c h1 h2 => by cases Option.some.inj ((rfl : j_meth[78]? = some _).symm.trans h1); cases Option.some.inj ((rfl : j_code[78]? = some _).symm.trans h2); exact j_dk_78
theorem j_good_79 : j_good 79 := fun q c h1 h2 => by cases Option.some.inj ((rfl : j_meth[79]? = some _).symm.trans h1); cases Option.some.inj ((rfl : j_code[79]? = some _).symm.trans h2); exact j_dk_79
theorem j_good_80 : j_good 80 := fun q c h1 h2 => by cases Option.some.inj ((rfl : j_meth[80]? = some _).symm.trans h1); cases Option.some.inj ((rfl : j_code[80]? = some _).symm.trans h2); exact j_dk_80
theorem j_good_81 : j_good 81 := fun q c h1 h2 => by cases Option.some.inj ((rfl : j_meth[81]? = some _).symm.trans h1); cases Option.some.inj ((rfl : j_code[81]? = some _).symm.trans h2); exact j_dk_81
theorem j_good_82 : j_good 82 := fun q c h1 h2 => by cases Option.some.inj ((rfl : j_meth[82]? = some _).symm.trans h1); cases Option.some.inj ((rfl : j_code[82]? = some _).symm.trans h2); exact j_dk_82
theorem j_good_83 : j_good 83 := fun q c h1 h2 => by cases Option.some.inj ((rfl : j_meth[83]? = some _).symm.trans h1); cases Option.some.inj ((rfl : j_code[83]? = some _).symm.trans h2); exact j_dk_83
theorem j_good_84 : j_good 84 := fun q c h1 h2 => by cases Option.some.inj ((rfl : j_meth[84]? = some _).symm.trans h1); cases Option.some.inj ((rfl : j_code[84]? = some _).symm.trans h2); exact j_dk_84
theorem j_good_85 : j_good 85 := fun q c h1 h2 => by cases Option.some.inj ((rfl : j_meth[85]? = some _).symm.trans h1); cases Option.some.inj ((rfl : j_code[85]? = some _).symm.trans h2); exact j_dk_85
theorem j_good_86 : j_good 86 := fun q c h1 h2 => by cases Option.some.inj ((rfl : j_meth[86]? = some _).symm.trans h1); cases Option.some.inj ((rfl : j_code[86]? = some _).symm.trans h2); exact j_dk_86
theorem j_good_87 : j_good 87 := fun q c h1 h2 => by cases Option.some.inj ((rfl : j_meth[87]? = some _).symm.trans h1); cases Option.some.inj ((rfl : j_code[87]? = some _).symm.trans h2); exact j_dk_87
theorem j_good_88 : j_good 88 := fun q c h1 h2 => by cases Option.some.inj ((rfl : j_meth[88]? = some _).symm.trans h1); cases Option.some.inj ((rfl : j_code[88]? = some _).symm.trans h2); exact j_dk_88
theorem j_good_89 : j_good 89 := fun q c h1 h2 => by cases Option.some.inj ((rfl : j_meth[89]? = some _).symm.trans h1); cases Option.some.inj ((rfl : j_code[89]? = some _).symm.trans h2); exact j_dk_89
theorem j_good_90 : j_good 90 := fun q c h1 h2 => by cases Option.some.inj ((rfl : j_meth[90]? = some _).symm.trans h1); cases Option.some.inj ((rfl : j_code[90]? = some _).symm.trans h2); exact j_dk_90
theorem j_good_91 : j_good 91 := fun q c h1 h2 => by cases Option.some.inj ((rfl : j_meth[91]? = some _).symm.trans h1); cases Option.some.inj ((rfl : j_code[91]? = some _).symm.trans h2); exact j_dk_91
theorem j_good_92 : j_good 92 := fun q c h1 h2 => by cases Option.some.inj ((rfl : j_meth[92]? = some _).symm.trans h1); cases Option.some.inj ((rfl : j_code[92]? = some _).symm.trans h2); exact j_dk_92
theorem j_good_93 : j_good 93 := fun q c h1 h2 => by cases Option.some.inj ((rfl : j_meth[93]? = some _).symm.trans h1); cases Option.some.inj ((rfl : j_code[93]? = some _).symm.trans h2); exact j_dk_93
theorem j_good_94 : j_good 94 := fun q c h1 h2 => by cases Option.some.inj ((rfl : j_meth[94]? = some _).symm.trans h1); cases Option.some.inj ((rfl : j_code[94]? = some _).symm.trans h2); exact j_dk_94
theorem j_good_95 : j_good 95 := fun q c h1 h2 => by cases Option.some.inj ((rfl : j_meth[95]? = some _).symm.trans h1); cases Option.some.inj ((rfl : j_code[95]? = some _).symm.trans h2); exact j_dk_95
theorem j_good_96 : j_good 96 := fun q c h1 h2 => by cases Option.some.inj ((rfl : j_meth[96]? = some _).symm.trans h1); cases Option.some.inj ((rfl : j_code[96]? = some _).symm.trans h2); exact j_dk_96
theorem j_good_97 : j_good 97 := fun q c h1 h2 => by cases Option.some.inj ((rfl : j_meth[97]? = some _).symm.trans h1); cases Option.some.inj ((rfl : j_code[97]? = some _).symm.trans h2); exact j_dk_97
theorem j_good_98 : j_good 98 := fun q c h1 h2 => by cases Option.some.inj ((rfl : j_meth[98]? = some _).symm.trans h1); cases Option.some.inj ((rfl : j_code[98]? = some _).symm.trans h2); exact j_dk_98
theorem j_good_99 : j_good 99 := fun q c h1 h2 => by cases Option.some.inj ((rfl : j_meth[99]? = some _).symm.trans h1); cases Option.some.inj ((rfl : j_code[99]? = some _).symm.trans h2); exact j_dk_99
theorem j_good_100 : j_good 100 := fun q c h1 h2 => by cases Option.some.inj ((rfl : j_meth[100]? = some _).symm.trans h1); cases Option.some.inj ((rfl : j_code[100]? = some _).symm.trans h2); exact j_dk_100
theorem j_good_101 : j_good 101 := fun q c h1 h2 => by cases Option.some.inj ((rfl : j_meth[101]? = some _).symm.trans h1); cases Option.some.inj ((rfl : j_code[101]? = some _).symm.trans h2); exact j_dk_101
theorem j_good_102 : j_good 102 := fun q c h1 h2 => by cases Option.some.inj ((rfl : j_meth[102]? = some _).symm.trans h1); cases Option.some.inj ((rfl : j_code[102]? = some _).symm.trans h2); exact j_dk_102
theorem j_good_103 : j_good 103 := fun q c h1 h2 => by cases Option.some.inj ((rfl : j_meth[103]? = some _).symm.trans h1); cases Option.some.inj ((rfl : j_code[103]? = some _).symm.trans h2); exact j_dk_103
theorem j_good_104 : j_good 104 := fun q c h1 h2 => by cases Option.some.inj ((rfl : j_meth[104]? = some _).symm.trans h1); cases Option.some.inj ((rfl : j_code[104]? = some _).symm.trans h2); exact j_dk_104
theorem j_good_105 : j_good 105 := fun q c h1 h2 => by cases Option.some.inj ((rfl : j_meth[105]? = some _).symm.trans h1); cases Option.some.inj ((rfl : j_code[105]? = some _).symm.trans h2); exact j_dk_105
theorem j_good_106 : j_good 106 := fun q c h1 h2 => by cases Option.some.inj ((rfl : j_meth[106]? = some _).symm.trans h1); cases Option.some.inj ((rfl : j_code[106]? = some _).symm.trans h2); exact j_dk_106
theorem j_good_107 : j_good 107 := fun q c h1 h2 => by cases Option.some.inj ((rfl : j_meth[107]? = some _).symm.trans h1); cases Option.some.inj ((rfl : j_code[107]? = some _).symm.trans h2); exact j_dk_107
theorem j_good_108 : j_good 108 := fun q c h1 h2 => by cases Option.some.inj ((rfl : j_meth[108]? = some _).symm.trans h1); cases Option.some.inj ((rfl : j_code[108]? = some _).symm.trans h2); exact j_dk_108
theorem j_good_109 : j_good 109 := fun q c h1 h2 => by cases Option.some.inj ((rfl : j_meth[109]? = some _).symm.trans h1); cases Option.some.inj ((rfl : j_code[109]? = some _).symm.trans h2); exact j_dk_109
theorem j_good_110 : j_good 110 := fun q c h1 h2 => by cases Option.some.inj ((rfl : j_meth[110]? = some _).symm.trans h1); cases Option.some.inj ((rfl : j_code[110]? = some _).symm.trans h2); exact j_dk_110
theorem j_good_111 : j_good 111 := fun q c h1 h2 => by cases Option.some.inj ((rfl : j_meth[111]? = some _).symm.trans h1); cases Option.some.inj ((rfl : j_code[111]? = some _).symm.trans h2); exact j_dk_111
theorem j_good_112 : j_good 112 := fun q c h1 h2 => by cases Option.some.inj ((rfl : j_meth[112]? = some _).symm.trans h1); cases Option.some.inj ((rfl : j_code[112]? = some _).symm.trans h2); exact j_dk_112
theorem j_good_113 : j_good 113 := fun q c h1 h2 => by cases Option.some.inj ((rfl : j_meth[113]? = some _).symm.trans h1); cases Option.some.inj ((rfl : j_code[113]? = some _).symm.trans h2); exact j_dk_113
theorem j_good_114 : j_good 114 := fun q c h1 h2 => by cases Option.some.inj ((rfl : j_meth[114]? = some _).symm.trans h1); cases Option.some.inj ((rfl : j_code[114]? = some _).symm.trans h2); exact j_dk_114
theorem j_good_115 : j_good 115 := fun q c h1 h2 => by cases Option.some.inj ((rfl : j_meth[115]? = some _).symm.trans h1); cases Option.some.inj ((rfl : j_code[115]? = some _).symm.trans h2); exact j_dk_115
theorem j_good_116 : j_good 116 := fun q c h1 h2 => by cases Option.some.inj ((rfl : j_meth[116]? = some _).symm.trans h1); cases Option.some.inj ((rfl : j_code[116]? = some _).symm.trans h2); exact j_dk_116
theorem j_good_117 : j_good 117 := fun q c h1 h2 => by cases Option.some.inj ((rfl : j_meth[117]? = some _).symm.trans h1); cases Option.some.inj ((rfl : j_code[117]? = some _).symm.trans h2); exact j_dk_117
theorem j_good_118 : j_good 118 := fun q c h1 h2 => by cases Option.some.inj ((rfl : j_meth[118]? = some _).symm.trans h1); cases Option.some.inj ((rfl : j_code[118]? = some _).symm.trans h2); exact j_dk_118
theorem j_good_119 : j_good 119 := fun q c h1 h2 => by cases Option.some.inj ((rfl : j_meth[119]? = some _).symm.trans h1); cases Option.some.inj ((rfl : j_code[119]? = some _).symm.trans h2); exact j_dk_119
theorem j_good_120 : j_good 120 := fun q c h1 h2 => by cases Option.some.inj ((rfl : j_meth[120]? = some _).symm.trans h1); cases Option.some.inj ((rfl : j_code[120]? = some _).symm.trans h2); exact j_dk_120
theorem j_good_121 : j_good 121 := fun q c h1 h2 => by cases Option.some.inj ((rfl : j_meth[121]? = some _).symm.trans h1); cases Option.some.inj ((rfl : j_code[121]? = some _).symm.trans h2); exact j_dk_121
theorem j_good_122 : j_good 122 := fun q c h1 h2 => by cases Option.some.inj ((rfl : j_meth[122]? = some _).symm.trans h1); cases Option.some.inj ((rfl : j_code[122]? = some _).symm.trans h2); exact j_dk_122
theorem j_good_123 : j_good 123 := fun q c h1 h2 => by cases Option.some.inj ((rfl : j_meth[123]? = some _).symm.trans h1); cases Option.some.inj ((rfl : j_code[123]? = some _).symm.trans h2); exact j_dk_123
theorem j_good_124 : j_good 124 := fun q c h1 h2 => by cases Option.some.inj ((rfl : j_meth[124]? = some _).symm.trans h1); cases Option.some.inj ((rfl : j_code[124]? = some _).symm.trans h2); exact j_dk_124
theorem j_good_125 : j_good 125 := fun q c h1 h2 => by cases Option.some.inj ((rfl : j_meth[125]? = some _).symm.trans h1); cases Option.some.inj ((rfl : j_code[125]? = some _).symm.trans h2); exact j_dk_125
theorem j_good_126 : j_good 126 := fun q c h1 h2 => by cases Option.some.inj ((rfl : j_meth[126]? = some _).symm.trans h1); cases Option.some.inj ((rfl : j_code[126]? = some _).symm.trans h2); exact j_dk_126
theorem j_good_127 : j_good 127 := fun q c h1 h2 => by cases Option.some.inj ((rfl : j_meth[127]? = some _).symm.trans h1); cases Option.some.inj ((rfl : j_code[127]? = some _).symm.trans h2); exact j_dk_127
theorem j_good_128 : j_good 128 := fun q c h1 h2 => by cases Option.some.inj ((rfl : j_meth[128]? = some _).symm.trans h1); cases Option.some.inj ((rfl : j_code[128]? = some _).symm.trans h2); exact j_dk_128
theorem j_good_129 : j_good 129 := fun q c h1 h2 => by cases Option.some.inj ((rfl : j_meth[129]? = some _).symm.trans h1); cases Option.some.inj ((rfl : j_code[129]? = some _).symm.trans h2); exact j_dk_129
theorem j_good_130 : j_good 130 := fun q c h1 h2 => by cases Option.some.inj ((rfl : j_meth[130]? = some _).symm.trans h1); cases Option.some.inj ((rfl : j_code[130]? = some _).symm.trans h2); exact j_dk_130
theorem j_good_131 : j_good 131 := fun q c h1 h2 => by cases Option.some.inj ((rfl : j_meth[131]? = some _).symm.trans h1); cases Option.some.inj ((rfl : j_code[131]? = some _).symm.trans h2); exact j_dk_131
theorem j_good_132 : j_good 132 := fun q c h1 h2 => by cases Option.some.inj ((rfl : j_meth[132]? = some _).symm.trans h1); cases Option.some.inj ((rfl : j_code[132]? = some _).symm.trans h2); exact j_dk_132
theorem j_good_133 : j_good 133 := fun q c h1 h2 => by cases Option.some.inj ((rfl : j_meth[133]? = some _).symm.trans h1); cases Option.some.inj ((rfl : j_code[133]? = some _).symm.trans h2); exact j_dk_133
theorem j_good_134 : j_good 134 := fun q c h1 h2 => by cases Option.some.inj ((rfl : j_meth[134]? = some _).symm.trans h1); cases Option.some.inj ((rfl : j_code[134]? = some _).symm.trans h2); exact j_dk_134
theorem j_good_135 : j_good 135 := fun q c h1 h2 => by cases Option.some.inj ((rfl : j_meth[135]? = some _).symm.trans h1); cases Option.some.inj ((rfl : j_code[135]? = some _).symm.trans h2); exact j_dk_135
theorem j_good_136 : j_good 136 := fun q c h1 h2 => by cases Option.some.inj ((rfl : j_meth[136]? = some _).symm.trans h1); cases Option.some.inj ((rfl : j_code[136]? = some _).symm.trans h2); exact j_dk_136
theorem j_good_137 : j_good 137 := fun q c h1 h2 => by cases Option.some.inj ((rfl : j_meth[137]? = some _).symm.trans h1); cases Option.some.inj ((rfl : j_code[137]? = some _).symm.trans h2); exact j_dk_137
theorem j_good_138 : j_good 138 := fun q c h1 h2 => by cases Option.some.inj ((rfl : j_meth[138]? = some _).symm.trans h1); cases Option.some.inj ((rfl : j_code[138]? = some _).symm.trans h2); exact j_dk_138
theorem j_good_139 : j_good 139 := fun q c h1 h2 => by cases Option.some.inj ((rfl : j_meth[139]? = some _).symm.trans h1); cases Option.some.inj ((rfl : j_code[139]? = some _).symm.trans h2); exact j_dk_139
theorem j_good_140 : j_good 140 := fun q c h1 h2 => by cases Option.some.inj ((rfl : j_meth[140]? = some _).symm.trans h1); cases Option.some.inj ((rfl : j_code[140]? = some _).symm.trans h2); exact j_dk_140
theorem j_good_141 : j_good 141 := fun q c h1 h2 => by cases Option.some.inj ((rfl : j_meth[141]? = some _).symm.trans h1); cases Option.some.inj ((rfl : j_code[141]? = some _).symm.trans h2); exact j_dk_141
theorem j_good_142 : j_good 142 := fun q c h1 h2 => by cases Option.some.inj ((rfl : j_meth[142]? = some _).symm.trans h1); cases Option.some.inj ((rfl : j_code[142]? = some _).symm.trans h2); exact j_dk_142
theorem j_good_143 : j_good 143 := fun q c h1 h2 => by cases Option.some.inj ((rfl : j_meth[143]? = some _).symm.trans h1); cases Option.some.inj ((rfl : j_code[143]? = some _).symm.trans h2); exact j_dk_143
theorem j_good_144 : j_good 144 := fun q c h1 h2 => by cases Option.some.inj ((rfl : j_meth[144]? = some _).symm.trans h1); cases Option.some.inj ((rfl : j_code[144]? = some _).symm.trans h2); exact j_dk_144
theorem j_good_145 : j_good 145 := fun q c h1 h2 => by cases Option.some.inj ((rfl : j_meth[145]? = some _).symm.trans h1); cases Option.some.inj ((rfl : j_code[145]? = some _).symm.trans h2); exact j_dk_145
theorem j_good_146 : j_good 146 := fun q c h1 h2 => by cases Option.some.inj ((rfl : j_meth[146]? = some _).symm.trans h1); cases Option.some.inj ((rfl : j_code[146]? = some _).symm.trans h2); exact j_dk_146
theorem j_good_147 : j_good 147 := fun q c h1 h2 => by cases Option.some.inj ((rfl : j_meth[147]? = some _).symm.trans h1); cases Option.some.inj ((rfl : j_code[147]? = some _).symm.trans h2); exact j_dk_147
theorem j_good_148 : j_good 148 := fun q c h1 h2 => by cases Option.some.inj ((rfl : j_meth[148]? = some _).symm.trans h1); cases Option.some.inj ((rfl : j_code[148]? = some _).symm.trans h2); exact j_dk_148
theorem j_good_149 : j_good 149 := fun q c h1 h2 => by cases Option.some.inj ((rfl : j_meth[149]? = some _).symm.trans h1); cases Option.some.inj ((rfl : j_code[149]? = some _).symm.trans h2); exact j_dk_149
theorem j_good_150 : j_good 150 := fun q c h1 h2 => by cases Option.some.inj ((rfl : j_meth[150]? = some _).symm.trans h1); cases Option.some.inj ((rfl : j_code[150]? = some _).symm.trans h2); exact j_dk_150
theorem j_good_151 : j_good 151 := fun q c h1 h2 => by cases Option.some.inj ((rfl : j_meth[151]? = some _).symm.trans h1); cases Option.some.inj ((rfl : j_code[151]? = some _).symm.trans h2); exact j_dk_151
theorem j_good_152 : j_good 152 := fun q c h1 h2 => by cases Option.some.inj ((rfl : j_meth[152]? = some _).symm.trans h1); cases Option.some.inj ((rfl : j_code[152]? = some _).symm.trans h2); exact j_dk_152
theorem j_good_153 : j_good 153 := fun q c h1 h2 => by cases Option.some.inj ((rfl : j_meth[153]? = some _).symm.trans h1); cases Option.some.inj ((rfl : j_code[153]? = some _).symm.trans h2); exact j_dk_153
theorem j_good_154 : j_good 154 := fun q c h1 h2 => by cases Option.some.inj ((rfl : j_meth[154]? = some _).symm.trans h1); cases Option.some.inj ((rfl : j_code[154]? = some _).symm.trans h2); exact j_dk_154
theorem j_good_155 : j_good 155 := fun q c h1 h2 => by cases Option.some.inj ((rfl : j_meth[155]? = some _).symm.trans h1); cases Option.some.inj ((rfl : j_code[155]? = some _).symm.trans h2); exact j_dk_155
theorem j_good_156 : j_good 156 := fun q c h1 h2 => by cases Option.some.inj ((rfl : j_meth[156]? = some _).symm.trans h1); cases Option.some.inj ((rfl : j_code[156]? = some _).symm.trans h2); exact j_dk_156
theorem j_good_157 : j_good 157 := fun q c h1 h2 => by cases Option.some.inj ((rfl : j_meth[157]? = some _).symm.trans h1); cases Option.some.inj ((rfl : j_code[157]? = some _).symm.trans h2); exact j_dk_157
theorem j_good_158 : j_good 158 := fun q c h1 h2 => by cases Option.some.inj ((rfl : j_meth[158]? = some _).symm.trans h1); cases Option.some.inj ((rfl : j_code[158]? = some _).symm.trans h2); exact j_dk_158
theorem j_good_159 : j_good 159 := fun q c h1 h2 => by cases Option.some.inj ((rfl : j_meth[159]? = some _).symm.trans h1); cases Option.some.inj ((rfl : j_code[159]? = some _).symm.trans h2); exact j_dk_159
theorem j_good_160 : j_good 160 := fun q c h1 h2 => by cases Option.some.inj ((rfl : j_meth[160]? = some _).symm.trans h1); cases Option.some.inj ((rfl : j_code[160]? = some _).symm.trans h2); exact j_dk_160
theorem j_good_161 : j_good 161 := fun q c h1 h2 => by cases Option.some.inj ((rfl : j_meth[161]? = some _).symm.trans h1); cases Option.some.inj ((rfl : j_code[161]? = some _).symm.trans h2); exact j_dk_161
theorem j_good_162 : j_good 162 := fun q c h1 h2 => by cases Option.some.inj ((rfl : j_meth[162]? = some _).symm.trans h1); cases Option.some.inj ((rfl : j_code[162]? = some _).symm.trans h2); exact j_dk_162
theorem j_good_163 : j_good 163 := fun q c h1 h2 => by cases Option.some.inj ((rfl : j_meth[163]? = some _).symm.trans h1); cases Option.some.inj ((rfl : j_code[163]? = some _).symm.trans h2); exact j_dk_163
theorem j_good_164 : j_good 164 := fun q c h1 h2 => by cases Option.some.inj ((rfl : j_meth[164]? = some _).symm.trans h1); cases Option.some.inj ((rfl : j_code[164]? = some _).symm.trans h2); exact j_dk_164
theorem j_good_165 : j_good 165 := fun q c h1 h2 => by cases Option.some.inj ((rfl : j_meth[165]? = some _).symm.trans h1); cases Option.some.inj ((rfl : j_code[165]? = some _).symm.trans h2); exact j_dk_165
theorem j_good_166 : j_good 166 := fun q c h1 h2 => by cases Option.some.inj ((rfl : j_meth[166]? = some _).symm.trans h1); cases Option.some.inj ((rfl : j_code[166]? = some _).symm.trans h2); exact j_dk_166
theorem j_good_167 : j_good 167 := fun q c h1 h2 => by cases Option.some.inj ((rfl : j_meth[167]? = some _).symm.trans h1); cases Option.some.inj ((rfl : j_code[167]? = some _).symm.trans h2); exact j_dk_167
theorem j_good_168 : j_good 168 := fun q c h1 h2 => by cases Option.some.inj ((rfl : j_meth[168]? = some _).symm.trans h1); cases Option.some.inj ((rfl : j_code[168]? = some _).symm.trans h2); exact j_dk_168
theorem j_good_169 : j_good 169 := fun q c h1 h2 => by cases Option.some.inj ((rfl : j_meth[169]? = some _).symm.trans h1); cases Option.some.inj ((rfl : j_code[169]? = some _).symm.trans h2); exact j_dk_169
theorem j_good_170 : j_good 170 := fun q c h1 h2 => by cases Option.some.inj ((rfl : j_meth[170]? = some _).symm.trans h1); cases Option.some.inj ((rfl : j_code[170]? = some _).symm.trans h2); exact j_dk_170
theorem j_good_171 : j_good 171 := fun q c h1 h2 => by cases Option.some.inj ((rfl : j_meth[171]? = some _).symm.trans h1); cases Option.some.inj ((rfl : j_code[171]? = some _).symm.trans h2); exact j_dk_171
theorem j_good_172 : j_good 172 := fun q c h1 h2 => by cases Option.some.inj ((rfl : j_meth[172]? = some _).symm.trans h1); cases Option.some.inj ((rfl : j_code[172]? = some _).symm.trans h2); exact j_dk_172
theorem j_good_173 : j_good 173 := fun q c h1 h2 => by cases Option.some.inj ((rfl : j_meth[173]? = some _).symm.trans h1); cases Option.some.inj ((rfl : j_code[173]? = some _).symm.trans h2); exact j_dk_173
theorem j_good_174 : j_good 174 := fun q c h1 h2 => by cases Option.some.inj ((rfl : j_meth[174]? = some _).symm.trans h1); cases Option.some.inj ((rfl : j_code[174]? = some _).symm.trans h2); exact j_dk_174
theorem j_good_175 : j_good 175 := fun q c h1 h2 => by cases Option.some.inj ((rfl : j_meth[175]? = some _).symm.trans h1); cases Option.some.inj ((rfl : j_code[175]? = some _).symm.trans h2); exact j_dk_175
theorem j_good_176 : j_good 176 := fun q c h1 h2 => by cases Option.some.inj ((rfl : j_meth[176]? = some _).symm.trans h1); cases Option.some.inj ((rfl : j_code[176]? = some _).symm.trans h2); exact j_dk_176
theorem j_good_177 : j_good 177 := fun q c h1 h2 => by cases Option.some.inj ((rfl : j_meth[177]? = some _).symm.trans h1); cases Option.some.inj ((rfl : j_code[177]? = some _).symm.trans h2); exact j_dk_177
theorem j_good_178 : j_good 178 := fun q c h1 h2 => by cases Option.some.inj ((rfl : j_meth[178]? = some _).symm.trans h1); cases Option.some.inj ((rfl : j_code[178]? = some _).symm.trans h2); exact j_dk_178
theorem j_good_179 : j_good 179 := fun q c h1 h2 => by cases Option.some.inj ((rfl : j_meth[179]? = some _).symm.trans h1); cases Option.some.inj ((rfl : j_code[179]? = some _).symm.trans h2); exact j_dk_179
theorem j_good_180 : j_good 180 := fun q c h1 h2 => by cases Option.some.inj ((rfl : j_meth[180]? = some _).symm.trans h1); cases Option.some.inj ((rfl : j_code[180]? = some _).symm.trans h2); exact j_dk_180
theorem j_good_181 : j_good 181 := fun q c h1 h2 => by cases Option.some.inj ((rfl : j_meth[181]? = some _).symm.trans h1); cases Option.some.inj ((rfl : j_code[181]? = some _).symm.trans h2); exact j_dk_181
theorem j_good_182 : j_good 182 := fun q c h1 h2 => by cases Option.some.inj ((rfl : j_meth[182]? = some _).symm.trans h1); cases Option.some.inj ((rfl : j_code[182]? = some _).symm.trans h2); exact j_dk_182
theorem j_good_183 : j_good 183 := fun q c h1 h2 => by cases Option.some.inj ((rfl : j_meth[183]? = some _).symm.trans h1); cases Option.some.inj ((rfl : j_code[183]? = some _).symm.trans h2); exact j_dk_183
theorem j_good_184 : j_good 184 := fun q c h1 h2 => by cases Option.some.inj ((rfl : j_meth[184]? = some _).symm.trans h1); cases Option.some.inj ((rfl : j_code[184]? = some _).symm.trans h2); exact j_dk_184
theorem j_good_185 : j_good 185 := fun q c h1 h2 => by cases Option.some.inj ((rfl : j_meth[185]? = some _).symm.trans h1); cases Option.some.inj ((rfl : j_code[185]? = some _).symm.trans h2); exact j_dk_185
theorem j_good_186 : j_good 186 := fun q c h1 h2 => by cases Option.some.inj ((rfl : j_meth[186]? = some _).symm.trans h1); cases Option.some.inj ((rfl : j_code[186]? = some _).symm.trans h2); exact j_dk_186
theorem j_good_187 : j_good 187 := fun q c h1 h2 => by cases Option.some.inj ((rfl : j_meth[187]? = some _).symm.trans h1); cases Option.some.inj ((rfl : j_code[187]? = some _).symm.trans h2); exact j_dk_187
theorem j_good_188 : j_good 188 := fun q c h1 h2 => by cases Option.some.inj ((rfl : j_meth[188]? = some _).symm.trans h1); cases Option.some.inj ((rfl : j_code[188]? = some _).symm.trans h2); exact j_dk_188
theorem j_good_189 : j_good 189 := fun q c h1 h2 => by cases Option.some.inj ((rfl : j_meth[189]? = some _).symm.trans h1); cases Option.some.inj ((rfl : j_code[189]? = some _).symm.trans h2); exact j_dk_189
theorem j_good_190 : j_good 190 := fun q c h1 h2 => by cases Option.some.inj ((rfl : j_meth[190]? = some _).symm.trans h1); cases Option.some.inj ((rfl : j_code[190]? = some _).symm.trans h2); exact j_dk_190
theorem j_good_191 : j_good 191 := fun q c h1 h2 => by cases Option.some.inj ((rfl : j_meth[191]? = some _).symm.trans h1); cases Option.some.inj ((rfl : j_code[191]? = some _).symm.trans h2); exact j_dk_191
theorem j_good_192 : j_good 192 := fun q c h1 h2 => by cases Option.some.inj ((rfl : j_meth[192]? = some _).symm.trans h1); cases Option.some.inj ((rfl : j_code[192]? = some _).symm.trans h2); exact j_dk_192
theorem j_good_193 : j_good 193 := fun q c h1 h2 => by cases Option.some.inj ((rfl : j_meth[193]? = some _).symm.trans h1); cases Option.some.inj ((rfl : j_code[193]? = some _).symm.trans h2); exact j_dk_193
theorem j_good_194 : j_good 194 := fun q c h1 h2 => by cases Option.some.inj ((rfl : j_meth[194]? = some _).symm.trans h1); cases Option.some.inj ((rfl : j_code[194]? = some _).symm.trans h2); exact j_dk_194
theorem j_good_195 : j_good 195 := fun q c h1 h2 => by cases Option.some.inj ((rfl : j_meth[195]? = some _).symm.trans h1); cases Option.some.inj ((rfl : j_code[195]? = some _).symm.trans h2); exact j_dk_195
theorem j_good_196 : j_good 196 := fun q c h1 h2 => by cases Option.some.inj ((rfl : j_meth[196]? = some _).symm.trans h1); cases Option.some.inj ((rfl : j_code[196]? = some _).symm.trans h2); exact j_dk_196
theorem j_good_197 : j_good 197 := fun q c h1 h2 => by cases Option.some.inj ((rfl : j_meth[197]? = some _).symm.trans h1); cases Option.some.inj ((rfl : j_code[197]? = some _).symm.trans h2); exact j_dk_197
theorem j_good_198 : j_good 198 := fun q c h1 h2 => by cases Option.some.inj ((rfl : j_meth[198]? = some _).symm.trans h1); cases Option.some.inj ((rfl : j_code[198]? = some _).symm.trans h2); exact j_dk_198
theorem j_good_199 : j_good 199 := fun q c h1 h2 => by cases Option.some.inj ((rfl : j_meth[199]? = some _).symm.trans h1); cases Option.some.inj ((rfl : j_code[199]? = some _).symm.trans h2); exact j_dk_199
theorem j_good_200 : j_good 200 := fun q c h1 h2 => by cases Option.some.inj ((rfl : j_meth[200]? = some _).symm.trans h1); cases Option.some.inj ((rfl : j_code[200]? = some _).symm.trans h2); exact j_dk_200
theorem j_good_201 : j_good 201 := fun q c h1 h2 => by cases Option.some.inj ((rfl : j_meth[201]? = some _).symm.trans h1); cases Option.some.inj ((rfl : j_code[201]? = some _).symm.trans h2); exact j_dk_201
theorem j_good_202 : j_good 202 := fun q c h1 h2 => by cases Option.some.inj ((rfl : j_meth[202]? = some _).symm.trans h1); cases Option.some.inj ((rfl : j_code[202]? = some _).symm.trans h2); exact j_dk_202
theorem j_good_203 : j_good 203 := fun q c h1 h2 => by cases Option.some.inj ((rfl : j_meth[203]? = some _).symm.trans h1); cases Option.some.inj ((rfl : j_code[203]? = some _).symm.trans h2); exact j_dk_203
theorem j_good_204 : j_good 204 := fun q c h1 h2 => by cases Option.some.inj ((rfl : j_meth[204]? = some _).symm.trans h1); cases Option.some.inj ((rfl : j_code[204]? = some _).symm.trans h2); exact j_dk_204
theorem j_good_205 : j_good 205 := fun q c h1 h2 => by cases Option.some.inj ((rfl : j_meth[205]? = some _).symm.trans h1); cases Option.some.inj ((rfl : j_code[205]? = some _).symm.trans h2); exact j_dk_205
theorem j_good_206 : j_good 206 := fun q c h1 h2 => by cases Option.some.inj ((rfl : j_meth[206]? = some _).symm.trans h1); cases Option.some.inj ((rfl : j_code[206]? = some _).symm.trans h2); exact j_dk_206
theorem j_good_207 : j_good 207 := fun q c h1 h2 => by cases Option.some.inj ((rfl : j_meth[207]? = some _).symm.trans h1); cases Option.some.inj ((rfl : j_code[207]? = some _).symm.trans h2); exact j_dk_207
theorem j_good_208 : j_good 208 := fun q c h1 h2 => by cases Option.some.inj ((rfl : j_meth[208]? = some _).symm.trans h1); cases Option.some.inj ((rfl : j_code[208]? = some _).symm.trans h2); exact j_dk_208
theorem j_good_209 : j_good 209 := fun q c h1 h2 => by cases Option.some.inj ((rfl : j_meth[209]? = some _).symm.trans h1); cases Option.some.inj ((rfl : j_code[209]? = some _).symm.trans h2); exact j_dk_209
theorem j_good_210 : j_good 210 := fun q c h1 h2 => by cases Option.some.inj ((rfl : j_meth[210]? = some _).symm.trans h1); cases Option.some.inj ((rfl : j_code[210]? = some _).symm.trans h2); exact j_dk_210
theorem j_good_211 : j_good 211 := fun q c h1 h2 => by cases Option.some.inj ((rfl : j_meth[211]? = some _).symm.trans h1); cases Option.some.inj ((rfl : j_code[211]? = some _).symm.trans h2); exact j_dk_211
theorem j_good_212 : j_good 212 := fun q c h1 h2 => by cases Option.some.inj ((rfl : j_meth[212]? = some _).symm.trans h1); cases Option.some.inj ((rfl : j_code[212]? = some _).symm.trans h2); exact j_dk_212
theorem j_good_213 : j_good 213 := fun q c h1 h2 => by cases Option.some.inj ((rfl : j_meth[213]? = some _).symm.trans h1); cases Option.some.inj ((rfl : j_code[213]? = some _).symm.trans h2); exact j_dk_213
theorem j_good_214 : j_good 214 := fun q c h1 h2 => by cases Option.some.inj ((rfl : j_meth[214]? = some _).symm.trans h1); cases Option.some.inj ((rfl : j_code[214]? = some _).symm.trans h2); exact j_dk_214
theorem j_good_215 : j_good 215 := fun q c h1 h2 => by cases Option.some.inj ((rfl : j_meth[215]? = some _).symm.trans h1); cases Option.some.inj ((rfl : j_code[215]? = some _).symm.trans h2); exact j_dk_215
theorem j_good_216 : j_good 216 := fun q c h1 h2 => by cases Option.some.inj ((rfl : j_meth[216]? = some _).symm.trans h1); cases Option.some.inj ((rfl : j_code[216]? = some _).symm.trans h2); exact j_dk_216
theorem j_good_217 : j_good 217 := fun q c h1 h2 => by cases Option.some.inj ((rfl : j_meth[217]? = some _).symm.trans h1); cases Option.some.inj ((rfl : j_code[217]? = some _).symm.trans h2); exact j_dk_217
theorem j_good_218 : j_good 218 := fun q c h1 h2 => by cases Option.some.inj ((rfl : j_meth[218]? = some _).symm.trans h1); cases Option.some.inj ((rfl : j_code[218]? = some _).symm.trans h2); exact j_dk_218
theorem j_good_219 : j_good 219 := fun q c h1 h2 => by cases Option.some.inj ((rfl : j_meth[219]? = some _).symm.trans h1); cases Option.some.inj ((rfl : j_code[219]? = some _).symm.trans h2); exact j_dk_219
theorem j_good_220 : j_good 220 := fun q c h1 h2 => by cases Option.some.inj ((rfl : j_meth[220]? = some _).symm.trans h1); cases Option.some.inj ((rfl : j_code[220]? = some _).symm.trans h2); exact j_dk_220
theorem j_good_221 : j_good 221 := fun q c h1 h2 => by cases Option.some.inj ((rfl : j_meth[221]? = some _).symm.trans h1); cases Option.some.inj ((rfl : j_code[221]? = some _).symm.trans h2); exact j_dk_221
theorem j_good_222 : j_good 222 := fun q c h1 h2 => by cases Option.some.inj ((rfl : j_meth[222]? = some _).symm.trans h1); cases Option.some.inj ((rfl : j_code[222]? = some _).symm.trans h2); exact j_dk_222
theorem j_good_223 : j_good 223 := fun q c h1 h2 => by cases Option.some.inj ((rfl : j_meth[223]? = some _).symm.trans h1); cases Option.some.inj ((rfl : j_code[223]? = some _).symm.trans h2); exact j_dk_223
theorem j_good_224 : j_good 224 := fun q c h1 h2 => by cases Option.some.inj ((rfl : j_meth[224]? = some _).symm.trans h1); cases Option.some.inj ((rfl : j_code[224]? = some _).symm.trans h2); exact j_dk_224
theorem j_good_225 : j_good 225 := fun q c h1 h2 => by cases Option.some.inj ((rfl : j_meth[225]? = some _).symm.trans h1); cases Option.some.inj ((rfl : j_code[225]? = some _).symm.trans h2); exact j_dk_225
theorem j_good_226 : j_good 226 := fun q c h1 h2 => by cases Option.some.inj ((rfl : j_meth[226]? = some _).symm.trans h1); cases Option.some.inj ((rfl : j_code[226]? = some _).symm.trans h2); exact j_dk_226
theorem j_good_227 : j_good 227 := fun q c h1 h2 => by cases Option.some.inj ((rfl : j_meth[227]? = some _).symm.trans h1); cases Option.some.inj ((rfl : j_code[227]? = some _).symm.trans h2); exact j_dk_227
theorem j_good_228 : j_good 228 := fun q c h1 h2 => by cases Option.some.inj ((rfl : j_meth[228]? = some _).symm.trans h1); cases Option.some.inj ((rfl : j_code[228]? = some _).symm.trans h2); exact j_dk_228
theorem j_good_229 : j_good 229 := fun q c h1 h2 => by cases Option.some.inj ((rfl : j_meth[229]? = some _).symm.trans h1); cases Option.some.inj ((rfl : j_code[229]? = some _).symm.trans h2); exact j_dk_229
theorem j_good_230 : j_good 230 := fun q c h1 h2 => by cases Option.some.inj ((rfl : j_meth[230]? = some _).symm.trans h1); cases Option.some.inj ((rfl : j_code[230]? = some _).symm.trans h2); exact j_dk_230
theorem j_good_231 : j_good 231 := fun q c h1 h2 => by cases Option.some.inj ((rfl : j_meth[231]? = some _).symm.trans h1); cases Option.some.inj ((rfl : j_code[231]? = some _).symm.trans h2); exact j_dk_231
theorem j_good_232 : j_good 232 := fun q c h1 h2 => by cases Option.some.inj ((rfl : j_meth[232]? = some _).symm.trans h1); cases Option.some.inj ((rfl : j_code[232]? = some _).symm.trans h2); exact j_dk_232
theorem j_good_233 : j_good 233 := fun q c h1 h2 => by cases Option.some.inj ((rfl : j_meth[233]? = some _).symm.trans h1); cases Option.some.inj ((rfl : j_code[233]? = some _).symm.trans h2); exact j_dk_233
theorem j_good_234 : j_good 234 := fun q c h1 h2 => by cases Option.some.inj ((rfl : j_meth[234]? = some _).symm.trans h1); cases Option.some.inj ((rfl : j_code[234]? = some _).symm.trans h2); exact j_dk_234
theorem j_good_235 : j_good 235 := fun q c h1 h2 => by cases Option.some.inj ((rfl : j_meth[235]? = some _).symm.trans h1); cases Option.some.inj ((rfl : j_code[235]? = some _).symm.trans h2); exact j_dk_235
theorem j_good_236 : j_good 236 := fun q c h1 h2 => by cases Option.some.inj ((rfl : j_meth[236]? = some _).symm.trans h1); cases Option.some.inj ((rfl : j_code[236]? = some _).symm.trans h2); exact j_dk_236
theorem j_good_237 : j_good 237 := fun q c h1 h2 => by cases Option.some.inj ((rfl : j_meth[237]? = some _).symm.trans h1); cases Option.some.inj ((rfl : j_code[237]? = some _).symm.trans h2); exact j_dk_237
theorem j_good_238 : j_good 238 := fun q c h1 h2 => by cases Option.some.inj ((rfl : j_meth[238]? = some _).symm.trans h1); cases Option.some.inj ((rfl : j_code[238]? = some _).symm.trans h2); exact j_dk_238
theorem j_good_239 : j_good 239 := fun q c h1 h2 => by cases Option.some.inj ((rfl : j_meth[239]? = some _).symm.trans h1); cases Option.some.inj ((rfl : j_code[239]? = some _).symm.trans h2); exact j_dk_239
theorem j_good_240 : j_good 240 := fun q c h1 h2 => by cases Option.some.inj ((rfl : j_meth[240]? = some _).symm.trans h1); cases Option.some.inj ((rfl : j_code[240]? = some _).symm.trans h2); exact j_dk_240
theorem j_good_241 : j_good 241 := fun q c h1 h2 => by cases Option.some.inj ((rfl : j_meth[241]? = some _).symm.trans h1); cases Option.some.inj ((rfl : j_code[241]? = some _).symm.trans h2); exact j_dk_241
theorem j_good_242 : j_good 242 := fun q c h1 h2 => by cases Option.some.inj ((rfl : j_meth[242]? = some _).symm.trans h1); cases Option.some.inj ((rfl : j_code[242]? = some _).symm.trans h2); exact j_dk_242
theorem j_good_243 : j_good 243 := fun q c h1 h2 => by cases Option.some.inj ((rfl : j_meth[243]? = some _).symm.trans h1); cases Option.some.inj ((rfl : j_code[243]? = some _).symm.trans h2); exact j_dk_243
theorem j_good_244 : j_good 244 := fun q c h1 h2 => by cases Option.some.inj ((rfl : j_meth[244]? = some _).symm.trans h1); cases Option.some.inj ((rfl : j_code[244]? = some _).symm.trans h2); exact j_dk_244
theorem j_good_245 : j_good 245 := fun q c h1 h2 => by cases Option.some.inj ((rfl : j_meth[245]? = some _).symm.trans h1); cases Option.some.inj ((rfl : j_code[245]? = some _).symm.trans h2); exact j_dk_245
theorem j_good_246 : j_good 246 := fun q c h1 h2 => by cases Option.some.inj ((rfl : j_meth[246]? = some _).symm.trans h1); cases Option.some.inj ((rfl : j_code[246]? = some _).symm.trans h2); exact j_dk_246
theorem j_good_247 : j_good 247 := fun q c h1 h2 => by cases Option.some.inj ((rfl : j_meth[247]? = some _).symm.trans h1); cases Option.some.inj ((rfl : j_code[247]? = some _).symm.trans h2); exact j_dk_247
theorem j_good_248 : j_good 248 := fun q c h1 h2 => by cases Option.some.inj ((rfl : j_meth[248]? = some _).symm.trans h1); cases Option.some.inj ((rfl : j_code[248]? = some _).symm.trans h2); exact j_dk_248
theorem j_good_249 : j_good 249 := fun q c h1 h2 => by cases Option.some.inj ((rfl : j_meth[249]? = some _).symm.trans h1); cases Option.some.inj ((rfl : j_code[249]? = some _).symm.trans h2); exact j_dk_249
theorem j_good_250 : j_good 250 := fun q c h1 h2 => by cases Option.some.inj ((rfl : j_meth[250]? = some _).symm.trans h1); cases Option.some.inj ((rfl : j_code[250]? = some _).symm.trans h2); exact j_dk_250
theorem j_good_251 : j_good 251 := fun q c h1 h2 => by cases Option.some.inj ((rfl : j_meth[251]? = some _).symm.trans h1); cases Option.some.inj ((rfl : j_code[251]? = some _).symm.trans h2); exact j_dk_251
theorem j_good_252 : j_good 252 := fun q c h1 h2 => by cases Option.some.inj ((rfl : j_meth[252]? = some _).symm.trans h1); cases Option.some.inj ((rfl : j_code[252]? = some _).symm.trans h2); exact j_dk_252
theorem j_good_253 : j_good 253 := fun q c h1 h2 => by cases Option.some.inj ((rfl : j_meth[253]? = some _).symm.trans h1); cases Option.some.inj ((rfl : j_code[253]? = some _).symm.trans h2); exact j_dk_253
theorem j_good_254 : j_good 254 := fun q c h1 h2 => by cases Option.some.inj ((rfl : j_meth[254]? = some _).symm.trans h1); cases Option.some.inj ((rfl : j_code[254]? = some _).symm.trans h2); exact j_dk_254
theorem j_good_255 : j_good 255 := fun q c h1 h2 => by cases Option.some.inj ((rfl : j_meth[255]? = some _).symm.trans h1); cases Option.some.inj ((rfl : j_code[255]? = some _).symm.trans h2); exact j_dk_255
theorem j_good_256 : j_good 256 := fun q c h1 h2 => by cases Option.some.inj ((rfl : j_meth[256]? = some _).symm.trans h1); cases Option.some.inj ((rfl : j_code[256]? = some _).symm.trans h2); exact j_dk_256
theorem j_good_257 : j_good 257 := fun q c h1 h2 => by cases Option.some.inj ((rfl : j_meth[257]? = some _).symm.trans h1); cases Option.some.inj ((rfl : j_code[257]? = some _).symm.trans h2); exact j_dk_257
theorem j_good_258 : j_good 258 := fun q c h1 h2 => by cases Option.some.inj ((rfl : j_meth[258]? = some _).symm.trans h1); cases Option.some.inj ((rfl : j_code[258]? = some _).symm.trans h2); exact j_dk_258
theorem j_good_259 : j_good 259 := fun q c h1 h2 => by cases Option.some.inj ((rfl : j_meth[259]? = some _).symm.trans h1); cases Option.some.inj ((rfl : j_code[259]? = some _).symm.trans h2); exact j_dk_259
theorem j_good_260 : j_good 260 := fun q c h1 h2 => by cases Option.some.inj ((rfl : j_meth[260]? = some _).symm.trans h1); cases Option.some.inj ((rfl : j_code[260]? = some _).symm.trans h2); exact j_dk_260
theorem j_good_261 : j_good 261 := fun q c h1 h2 => by cases Option.some.inj ((rfl : j_meth[261]? = some _).symm.trans h1); cases Option.some.inj ((rfl : j_code[261]? = some _).symm.trans h2); exact j_dk_261
theorem j_good_262 : j_good 262 := fun q c h1 h2 => by cases Option.some.inj ((rfl : j_meth[262]? = some _).symm.trans h1); cases Option.some.inj ((rfl : j_code[262]? = some _).symm.trans h2); exact j_dk_262
theorem j_good_263 : j_good 263 := fun q c h1 h2 => by cases Option.some.inj ((rfl : j_meth[263]? = some _).symm.trans h1); cases Option.some.inj ((rfl : j_code[263]? = some _).symm.trans h2); exact j_dk_263
theorem j_good_264 : j_good 264 := fun q c h1 h2 => by cases Option.some.inj ((rfl : j_meth[264]? = some _).symm.trans h1); cases Option.some.inj ((rfl : j_code[264]? = some _).symm.trans h2); exact j_dk_264
theorem j_good_265 : j_good 265 := fun q c h1 h2 => by cases Option.some.inj ((rfl : j_meth[265]? = some _).symm.trans h1); cases Option.some.inj ((rfl : j_code[265]? = some _).symm.trans h2); exact j_dk_265
theorem j_good_266 : j_good 266 := fun q c h1 h2 => by cases Option.some.inj ((rfl : j_meth[266]? = some _).symm.trans h1); cases Option.some.inj ((rfl : j_code[266]? = some _).symm.trans h2); exact j_dk_266
theorem j_good_267 : j_good 267 := fun q c h1 h2 => by cases Option.some.inj ((rfl : j_meth[267]? = some _).symm.trans h1); cases Option.some.inj ((rfl : j_code[267]? = some _).symm.trans h2); exact j_dk_267
theorem j_good_268 : j_good 268 := fun q c h1 h2 => by cases Option.some.inj ((rfl : j_meth[268]? = some _).symm.trans h1); cases Option.some.inj ((rfl : j_code[268]? = some _).symm.trans h2); exact j_dk_268
theorem j_good_269 : j_good 269 := fun q c h1 h2 => by cases Option.some.inj ((rfl : j_meth[269]? = some _).symm.trans h1); cases Option.some.inj ((rfl : j_code[269]? = some _).symm.trans h2); exact j_dk_269
theorem j_good_270 : j_good 270 := fun q c h1 h2 => by cases Option.some.inj ((rfl : j_meth[270]? = some _).symm.trans h1); cases Option.some.inj ((rfl : j_code[270]? = some _).symm.trans h2); exact j_dk_270
theorem j_good_271 : j_good 271 := fun q c h1 h2 => by cases Option.some.inj ((rfl : j_meth[271]? = some _).symm.trans h1); cases Option.some.inj ((rfl : j_code[271]? = some _).symm.trans h2); exact j_dk_271
theorem j_good_all : ∀ y, j_good y := fun y => match y with
  | 0 => j_good_0
  | 1 => j_good_1
  | 2 => j_good_2
  | 3 => j_good_3
  | 4 => j_good_4
  | 5 => j_good_5
  | 6 => j_good_6
  | 7 => j_good_7
  | 8 => j_good_8
  | 9 => j_good_9
  | 10 => j_good_10
  | 11 => j_good_11
  | 12 => j_good_12
  | 13 => j_good_13
  | 14 => j_good_14
  | 15 => j_good_15
  | 16 => j_good_16
  | 17 => j_good_17
  | 18 => j_good_18
  | 19 => j_good_19
  | 20 => j_good_20
  | 21 => j_good_21
  | 22 => j_good_22
  | 23 => j_good_23
  | 24 => j_good_24
  | 25 => j_good_25
  | 26 => j_good_26
  | 27 => j_good_27
  | 28 => j_good_28
  | 29 => j_good_29
  | 30 => j_good_30
  | 31 => j_good_31
  | 32 => j_good_32
  | 33 => j_good_33
  | 34 => j_good_34
  | 35 => j_good_35
  | 36 => j_good_36
  | 37 => j_good_37
  | 38 => j_good_38
  | 39 => j_good_39
  | 40 => j_good_40
  | 41 => j_good_41
  | 42 => j_good_42
  | 43 => j_good_43
  | 44 => j_good_44
  | 45 => j_good_45
  | 46 => j_good_46
  | 47 => j_good_47
  | 48 => j_good_48
  | 49 => j_good_49
  | 50 => j_good_50
  | 51 => j_good_51
  | 52 => j_good_52
  | 53 => j_good_53
  | 54 => j_good_54
  | 55 => j_good_55
  | 56 => j_good_56
  | 57 => j_good_57
  | 58 => j_good_58
  | 59 => j_good_59
  | 60 => j_good_60
  | 61 => j_good_61
  | 62 => j_good_62
  | 63 => j_good_63
  | 64 => j_good_64
  | 65 => j_good_65
  | 66 => j_good_66
  | 67 => j_good_67
  | 68 => j_good_68
  | 69 => j_good_69
  | 70 => j_good_70
  | 71 => j_good_71
  | 72 => j_good_72
  | 73 => j_good_73
  | 74 => j_good_74
  | 75 => j_good_75
  | 76 => j_good_76
  | 77 => j_good_77
  | 78 => j_good_78
  | 79 => j_good_79
  | 80 => j_good_80
  | 81 => j_good_81
  | 82 => j_good_82
  | 83 => j_good_83
  | 84 => j_good_84
  | 85 => j_good_85
  | 86 => j_good_86
  | 87 => j_good_87
  | 88 => j_good_88
  | 89 => j_good_89
  | 90 => j_good_90
  | 91 => j_good_91
  | 92 => j_good_92
  | 93 => j_good_93
  | 94 => j_good_94
  | 95 => j_good_95
  | 96 => j_good_96
  | 97 => j_good_97
  | 98 => j_good_98
  | 99 => j_good_99
  | 100 => j_good_100
  | 101 => j_good_101
  | 102 => j_good_102
  | 103 => j_good_103
  | 104 => j_good_104
  | 105 => j_good_105
  | 106 => j_good_106
  | 107 => j_good_107
  | 108 => j_good_108
  | 109 => j_good_109
  | 110 => j_good_110
  | 111 => j_good_111
  | 112 => j_good_112
  | 113 => j_good_113
  | 114 => j_good_114
  | 115 => j_good_115
  | 116 => j_good_116
  | 117 => j_good_117
  | 118 => j_good_118
  | 119 => j_good_119
  | 120 => j_good_120
  | 121 => j_good_121
  | 122 => j_good_122
  | 123 => j_good_123
  | 124 => j_good_124
  | 125 => j_good_125
  | 126 => j_good_126
  | 127 => j_good_127
  | 128 => j_good_128
  | 129 => j_good_129
  | 130 => j_good_130
  | 131 => j_good_131
  | 132 => j_good_132
  | 133 => j_good_133
  | 134 => j_good_134
  | 135 => j_good_135
  | 136 => j_good_136
  | 137 => j_good_137
  | 138 => j_good_138
  | 139 => j_good_139
  | 140 => j_good_140
  | 141 => j_good_141
  | 142 => j_good_142
  | 143 => j_good_143
  | 144 => j_good_144
  | 145 => j_good_145
  | 146 => j_good_146
  | 147 => j_good_147
  | 148 => j_good_148
  | 149 => j_good_149
  | 150 => j_good_150
  | 151 => j_good_151
  | 152 => j_good_152
  | 153 => j_good_153
  | 154 => j_good_154
  | 155 => j_good_155
  | 156 => j_good_156
  | 157 => j_good_157
  | 158 => j_good_158
  | 159 => j_good_159
  | 160 => j_good_160
  | 161 => j_good_161
  | 162 => j_good_162
  | 163 => j_good_163
  | 164 => j_good_164
  | 165 => j_good_165
  | 166 => j_good_166
  | 167 => j_good_167
  | 168 => j_good_168
  | 169 => j_good_169
  | 170 => j_good_170
  | 171 => j_good_171
  | 172 => j_good_172
  | 173 => j_good_173
  | 174 => j_good_174
  | 175 => j_good_175
  | 176 => j_good_176
  | 177 => j_good_177
  | 178 => j_good_178
  | 179 => j_good_179
  | 180 => j_good_180
  | 181 => j_good_181
  | 182 => j_good_182
  | 183 => j_good_183
  | 184 => j_good_184
  | 185 => j_good_185
  | 186 => j_good_186
  | 187 => j_good_187
  | 188 => j_good_188
  | 189 => j_good_189
  | 190 => j_good_190
  | 191 => j_good_191
  | 192 => j_good_192
  | 193 => j_good_193
  | 194 => j_good_194
  | 195 => j_good_195
  | 196 => j_good_196
  | 197 => j_good_197
  | 198 => j_good_198
  | 199 => j_good_199
  | 200 => j_good_200
  | 201 => j_good_201
  | 202 => j_good_202
  | 203 => j_good_203
  | 204 => j_good_204
  | 205 => j_good_205
  | 206 => j_good_206
  | 207 => j_good_207
  | 208 => j_good_208
  | 209 => j_good_209
  | 210 => j_good_210
  | 211 => j_good_211
  | 212 => j_good_212
  | 213 => j_good_213
  | 214 => j_good_214
  | 215 => j_good_215
  | 216 => j_good_216
  | 217 => j_good_217
  | 218 => j_good_218
  | 219 => j_good_219
  | 220 => j_good_220
  | 221 => j_good_221
  | 222 => j_good_222
  | 223 => j_good_223
  | 224 => j_good_224
  | 225 => j_good_225
  | 226 => j_good_226
  | 227 => j_good_227
  | 228 => j_good_228
  | 229 => j_good_229
  | 230 => j_good_230
  | 231 => j_good_231
  | 232 => j_good_232
  | 233 => j_good_233
  | 234 => j_good_234
  | 235 => j_good_235
  | 236 => j_good_236
  | 237 => j_good_237
  | 238 => j_good_238
  | 239 => j_good_239
  | 240 => j_good_240
  | 241 => j_good_241
  | 242 => j_good_242
  | 243 => j_good_243
  | 244 => j_good_244
  | 245 => j_good_245
  | 246 => j_good_246
  | 247 => j_good_247
  | 248 => j_good_248
  | 249 => j_good_249
  | 250 => j_good_250
  | 251 => j_good_251
  | 252 => j_good_252
  | 253 => j_good_253
  | 254 => j_good_254
  | 255 => j_good_255
  | 256 => j_good_256
  | 257 => j_good_257
  | 258 => j_good_258
  | 259 => j_good_259
  | 260 => j_good_260
  | 261 => j_good_261
  | 262 => j_good_262
  | 263 => j_good_263
  | 264 => j_good_264
  | 265 => j_good_265
  | 266 => j_good_266
  | 267 => j_good_267
  | 268 => j_good_268
  | 269 => j_good_269
  | 270 => j_good_270
  | 271 => j_good_271
  | k + 272 => fun q c h1 _ => by
    have h : (k + 272) < j_meth.length := (List.getElem?_eq_some_iff.mp h1).1
    have h2 : j_meth.length = 272 := by decide +kernel
    omega
