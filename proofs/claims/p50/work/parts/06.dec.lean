/-! Every instruction of every method, decoded and looked up: decided by the kernel, a method at a time (by program). -/
def j_cnm (o : Nat) : String := j_cn.getD o ""
def j_ln (i : Instr) (n : Nat) : Bool := match i with
  | .aload _ => n == 2 | .iload _ => n == 2 | .lload _ => n == 2 | .istore _ => n == 2 | .astore _ => n == 2 | .lstore _ => n == 2 | .bipush _ => n == 2 | .ldc _ => n == 2 | .newarray _ => n == 2
  | .multianewarray _ d => n == 4 && d == 2
  | .tableswitch _ _ _ _ => true
  | .ifnonnull _ => n == 3 | .checkcast _ => n == 3 | .iinc _ _ => n == 3 | .sipush _ => n == 3 | .ldc_w _ => n == 3 | .ldc2_w _ => n == 3 | .goto _ => n == 3 | .ifCond _ _ => n == 3 | .if_icmp _ _ => n == 3
  | .getfield _ => n == 3 | .putfield _ => n == 3 | .getstatic _ => n == 3 | .new _ => n == 3 | .invokevirtual _ => n == 3 | .invokespecial _ => n == 3 | .invokestatic _ => n == 3
  | _ => n == 1
def j_dk (cc : ByteArray) (r : Nat × j_I) : Bool := match decode cc r.1 with
  | .ok (i, n) => decide (i = r.2.1) && j_ln i n
  | _ => false
def j_fin? (ci k : Nat) : Bool := match vwCl[ci]? with
  | some q => (q.2.1 k).2.2.2
  | none => false
/-- of each method: its class, kind, how many it takes -/
def j_kn : List (Nat × Nat × Nat) := [(2, 2, 0), (2, 0, 0), (2, 0, 2), (13, 3, 0), (2, 0, 3), (2, 0, 4), (13, 3, 0), (3, 2, 0), (3, 0, 1), (3, 0, 1), (3, 0, 2), (3, 0, 2), (3, 0, 3), (3, 0, 2), (3, 0, 1), (13, 3, 0), (3, 0, 2), (3, 0, 3), (3, 0, 2), (3, 1, 1), (4, 2, 0), (4, 0, 1), (4, 0, 0), (4, 0, 1), (4, 0, 1), (4, 0, 3), (13, 3, 0), (4, 0, 3), (5, 2, 0), (5, 0, 2), (5, 0, 1), (6, 2, 0), (6, 0, 1), (6, 0, 1), (6, 0, 2), (6, 0, 3), (13, 3, 0), (7, 2, 0), (7, 0, 1), (7, 0, 2), (13, 3, 0), (13, 3, 0), (7, 0, 2), (7, 0, 1), (7, 0, 1), (7, 0, 0), (7, 0, 0), (7, 0, 1), (7, 0, 3), (7, 0, 2), (7, 0, 3), (7, 0, 5), (7, 0, 1), (7, 0, 1), (7, 0, 1), (13, 3, 0), (7, 0, 0), (13, 3, 0), (13, 3, 0), (13, 3, 0), (8, 2, 0), (8, 0, 3), (8, 0, 2), (13, 3, 0), (9, 2, 0), (9, 0, 1), (9, 0, 1), (9, 0, 0), (9, 0, 1), (9, 0, 0), (9, 0, 0), (9, 0, 1), (9, 0, 1), (10, 2, 0), (13, 3, 0), (13, 3, 0), (13, 3, 0), (13, 3, 0), (13, 3, 0), (13, 3, 0), (11, 2, 0), (13, 3, 0), (13, 3, 0), (13, 3, 0), (13, 3, 0), (13, 3, 0), (13, 3, 0), (12, 2, 0), (12, 0, 1), (12, 0, 2), (13, 3, 0), (12, 0, 3), (12, 0, 2), (12, 0, 0), (12, 0, 1), (12, 0, 0), (12, 0, 2), (12, 0, 1), (13, 3, 0), (12, 0, 2), (13, 3, 0), (13, 3, 0), (13, 3, 0), (13, 3, 0), (13, 3, 0), (13, 3, 0), (13, 3, 0), (13, 3, 0), (13, 3, 0), (13, 3, 0), (13, 3, 0), (13, 3, 0), (13, 3, 0), (13, 3, 0), (13, 3, 0), (12, 0, 2), (12, 0, 2), (12, 0, 2), (13, 3, 0), (12, 0, 1), (12, 0, 2), (12, 0, 2), (12, 0, 2), (12, 0, 1), (12, 0, 0), (12, 0, 3), (12, 0, 0), (13, 3, 0), (12, 0, 0), (12, 0, 0), (12, 0, 1), (12, 0, 3), (12, 0, 3), (13, 3, 0), (13, 3, 0), (12, 0, 1), (12, 0, 1), (13, 3, 0), (12, 0, 1), (12, 1, 1), (12, 1, 1), (12, 1, 1), (12, 1, 1), (12, 1, 2), (12, 1, 1), (12, 0, 0), (12, 1, 3), (13, 3, 0), (13, 3, 0), (13, 3, 0), (13, 3, 0), (13, 3, 0), (13, 3, 0), (13, 3, 0), (13, 3, 0), (13, 3, 0), (13, 3, 0), (13, 3, 0), (13, 3, 0), (13, 3, 0), (13, 3, 0), (13, 3, 0), (13, 3, 0), (13, 3, 0), (13, 3, 0), (13, 3, 0), (13, 3, 0), (13, 3, 0), (13, 3, 0), (13, 3, 0), (13, 3, 0), (13, 3, 0), (13, 3, 0), (13, 3, 0), (13, 3, 0), (13, 3, 0), (13, 3, 0), (13, 3, 0), (13, 3, 0), (13, 3, 0), (13, 3, 0), (13, 3, 0), (13, 3, 0), (13, 3, 0), (13, 3, 0), (13, 3, 0), (13, 3, 0), (13, 3, 0), (13, 3, 0), (13, 3, 0), (13, 3, 0), (13, 3, 0), (13, 3, 0), (13, 3, 0), (13, 3, 0), (13, 3, 0), (13, 3, 0), (13, 3, 0), (13, 3, 0), (13, 3, 0), (13, 3, 0), (13, 3, 0), (13, 3, 0), (13, 3, 0), (13, 3, 0), (13, 3, 0), (13, 3, 0), (13, 3, 0), (13, 3, 0), (13, 3, 0), (13, 3, 0), (13, 3, 0), (13, 3, 0), (13, 3, 0), (13, 3, 0), (13, 3, 0), (13, 3, 0), (13, 3, 0), (13, 3, 0), (13, 3, 0), (13, 3, 0), (13, 3, 0), (13, 3, 0), (13, 3, 0), (13, 3, 0), (13, 3, 0), (13, 3, 0), (13, 3, 0), (13, 3, 0), (13, 3, 0), (13, 3, 0), (13, 3, 0), (13, 3, 0), (13, 3, 0), (13, 3, 0), (13, 3, 0), (13, 3, 0), (13, 3, 0), (13, 3, 0), (13, 3, 0), (13, 3, 0), (13, 3, 0), (13, 3, 0), (13, 3, 0), (13, 3, 0), (13, 3, 0), (13, 3, 0), (13, 3, 0), (13, 3, 0), (13, 3, 0), (13, 3, 0), (13, 3, 0), (13, 3, 0), (13, 3, 0), (13, 3, 0), (13, 3, 0), (13, 3, 0), (13, 3, 0), (13, 3, 0), (13, 3, 0), (13, 3, 0), (13, 3, 0), (13, 3, 0), (13, 3, 0), (13, 3, 0), (14, 1, 2), (14, 1, 2), (14, 1, 1), (14, 1, 2), (15, 1, 2), (15, 1, 2), (13, 1, 1), (0, 0, 1), (0, 1, 2), (0, 0, 0), (0, 0, 3), (0, 2, 1), (0, 2, 1), (0, 0, 0), (0, 0, 0), (18, 1, 1), (18, 1, 2), (20, 1, 2), (1, 0, 1), (1, 0, 1), (1, 0, 1), (1, 2, 0), (1, 0, 0), (1, 0, 0), (16, 0, 1), (16, 0, 1), (16, 0, 1), (16, 0, 1), (16, 0, 0), (16, 0, 1), (16, 2, 1), (16, 0, 0), (16, 0, 0), (16, 0, 1), (16, 0, 2), (17, 1, 3), (17, 1, 1), (15, 1, 2), (15, 1, 3), (15, 1, 3), (15, 1, 2), (19, 1, 3), (14, 1, 2), (13, 1, 2), (13, 1, 2)]
theorem j_kn_ok : j_meth.map (fun q => (q.2.2.2.2.1, q.2.2.2.2.2.1, q.2.2.2.2.2.2)) = j_kn := by decide +kernel
theorem j_rk_ok : j_meth.map (fun q => match q.2.2.2.1 with | none => 0 | some .int => 1 | some .long => 2 | some .boolean => 3 | some .byte => 4 | some .char => 5 | _ => 6) = j_rk := by decide +kernel
/-- calls: of that kind, with so many; not the law, nor those two that want one more that is nothing -/
def j_cal (a kd np : Nat) : Bool := match j_kn[a]? with
  | some m => m.2.1 == kd && m.2.2 == np && (a != 271 && (a != 277 && a != 282))
  | none => false
/-- a virtual method that is selected as it is named -/
def j_pl (a : Nat) : Bool := match j_kn[a]? with
  | some m => decide (m.1 < 13) && a != 287
  | none => false
/-- a method of the superclass of StringBuilder -/
def j_sup (a : Nat) : Bool := match j_kn[a]? with
  | some m => m.1 == 16
  | none => false
def j_ax (o kd : Nat) (r : Nat × j_I) : Bool :=
  let a := r.2.2.1
  let b := r.2.2.2.1
  let z := r.2.2.2.2
  match r.2.1 with
  | .getfield ix => j_ft.any (fun t => t.1 == o && t.2.1 == ix && t.2.2.1 == a && t.2.2.2.1 == b) || j_fn.any (fun t => t.1 == o && t.2.1 == ix && t.2.2.1 == a && t.2.2.2.1 == b)
  | .putfield ix => (j_ft.any (fun t => t.1 == o && t.2.1 == ix && t.2.2.1 == a && t.2.2.2.1 == b) && (!(j_fin? a b) || (kd == 2 && a == o))) || (j_fn.any (fun t => t.1 == o && t.2.1 == ix && t.2.2.1 == a && t.2.2.2.1 == b) && !(j_fin? a b))
  | .getstatic ix => (a == 99 && (j_fs.any (fun t => t.1 == o && t.2.1 == ix) || j_fsn.any (fun t => t.1 == o && t.2.1 == ix))) || (a != 99 && j_gs.any (fun t => t.1 == o && t.2.1 == ix && t.2.2.1 == a))
  | .invokevirtual ix => a == 9997 || (a == 9996 && (o == 15 && (ix == 310 && b == 0))) || (a != 9996 && (j_cal a 0 b && ((j_mt.any (fun t => t.1 == o && t.2.1 == ix && t.2.2.1 == a) && j_pl a) || j_vu.any (fun t => t.1 == o && t.2.1 == ix && t.2.2.1 == a))))
  | .invokespecial ix => a == 9997 || (if a == 9998 then j_mt.any (fun t => t.1 == o && t.2.1 == ix && t.2.2.1 == 9998) && b == 0 else ((j_mt.any (fun t => t.1 == o && t.2.1 == ix && t.2.2.1 == a) || j_mn.any (fun t => t.1 == o && t.2.1 == ix && t.2.2.1 == a)) && j_cal a 2 b) || (j_mt.any (fun t => t.1 == o && t.2.1 == ix && t.2.2.1 == a) && (j_cal a 0 b && (o == 1 && j_sup a))))
  | .invokestatic ix => a == 9997 || (if a == 9999 then j_mt.any (fun t => t.1 == o && t.2.1 == ix && t.2.2.1 == 9999) else (j_mt.any (fun t => t.1 == o && t.2.1 == ix && t.2.2.1 == a) || j_mn.any (fun t => t.1 == o && t.2.1 == ix && t.2.2.1 == a)) && j_cal a 1 b)
  | .new ix => a == 9997 || j_ct.any (fun t => t.1 == o && t.2.1 == ix && t.2.2.1 == a)
  | .ldc ix => a == 9997 || (a == 0 && j_kt.any (fun t => t.1 == o && t.2.1 == ix && t.2.2.1 == 0 && t.2.2.2.1 == z)) || (a == 1 && j_st.any (fun t => t.1 == o && t.2.1 == ix && t.2.2.1 == b))
  | .ldc_w ix => a == 9997 || (a == 0 && j_kt.any (fun t => t.1 == o && t.2.1 == ix && t.2.2.1 == 0 && t.2.2.2.1 == z))
  | .ldc2_w ix => j_kt.any (fun t => t.1 == o && t.2.1 == ix && t.2.2.1 == 1 && t.2.2.2.1 == z)
  | .iconst n => z == n && (Int32.ofInt n).toInt == z
  | .bipush n => z == n && (Int8.ofInt n).toInt32.toInt == z
  | .sipush n => z == n && (Int16.ofInt n).toInt32.toInt == z
  | .lconst n => z == ((n : Nat) : Int)
  | .goto off => (r.1 : Int) + off == (a : Int)
  | .ifnonnull off => (r.1 : Int) + off == (a : Int)
  | .ifCond _ off => (r.1 : Int) + off == (a : Int)
  | .if_icmp _ off => (r.1 : Int) + off == (a : Int)
  | .checkcast ix => o == 15 && ix == 311
  | .multianewarray ix _ => o == 8 && ix == 18
  | .iinc _ n => (Int32.ofInt n).toInt == n
  | _ => true
theorem j_all2 {α : Type} {l : List α} {f : α → Bool} (n : Nat) (h1 : (l.take n).all f = true) (h2 : (l.drop n).all f = true) : l.all f = true := by
  rw [← List.take_append_drop n l, List.all_append, h1, h2]
  rfl
theorem j_dk_0 : k_0.all (fun r => j_dk cX0_init r && j_ax 2 2 r) = true := by decide +kernel
theorem j_dk_1 : k_1.all (fun r => j_dk cX0_clear r && j_ax 2 0 r) = true := by decide +kernel
theorem j_dk_2 : k_2.all (fun r => j_dk cX0_formOf r && j_ax 2 0 r) = true := by decide +kernel
theorem j_dk_4_0 : ((k_4).take 30).all (fun r => j_dk cX0_make r && j_ax 2 0 r) = true := by decide +kernel
theorem j_dk_4_1 : (((k_4).drop 30).take 30).all (fun r => j_dk cX0_make r && j_ax 2 0 r) = true := by decide +kernel
theorem j_dk_4_2 : ((((k_4).drop 30).drop 30).take 30).all (fun r => j_dk cX0_make r && j_ax 2 0 r) = true := by decide +kernel
theorem j_dk_4_3 : ((((k_4).drop 30).drop 30).drop 30).all (fun r => j_dk cX0_make r && j_ax 2 0 r) = true := by decide +kernel
theorem j_dk_4 : k_4.all (fun r => j_dk cX0_make r && j_ax 2 0 r) = true := j_all2 30 j_dk_4_0 (j_all2 30 j_dk_4_1 (j_all2 30 j_dk_4_2 (j_dk_4_3)))
theorem j_dk_5_0 : ((k_5).take 30).all (fun r => j_dk cX0_tellIn r && j_ax 2 0 r) = true := by decide +kernel
theorem j_dk_5_1 : (((k_5).drop 30).take 30).all (fun r => j_dk cX0_tellIn r && j_ax 2 0 r) = true := by decide +kernel
theorem j_dk_5_2 : (((k_5).drop 30).drop 30).all (fun r => j_dk cX0_tellIn r && j_ax 2 0 r) = true := by decide +kernel
theorem j_dk_5 : k_5.all (fun r => j_dk cX0_tellIn r && j_ax 2 0 r) = true := j_all2 30 j_dk_5_0 (j_all2 30 j_dk_5_1 (j_dk_5_2))
theorem j_dk_7_0 : ((k_7).take 30).all (fun r => j_dk cX1_init r && j_ax 3 2 r) = true := by decide +kernel
theorem j_dk_7_1 : ((k_7).drop 30).all (fun r => j_dk cX1_init r && j_ax 3 2 r) = true := by decide +kernel
theorem j_dk_7 : k_7.all (fun r => j_dk cX1_init r && j_ax 3 2 r) = true := j_all2 30 j_dk_7_0 (j_dk_7_1)
theorem j_dk_8_0 : ((k_8).take 30).all (fun r => j_dk cX1_become r && j_ax 3 0 r) = true := by decide +kernel
theorem j_dk_8_1 : ((k_8).drop 30).all (fun r => j_dk cX1_become r && j_ax 3 0 r) = true := by decide +kernel
theorem j_dk_8 : k_8.all (fun r => j_dk cX1_become r && j_ax 3 0 r) = true := j_all2 30 j_dk_8_0 (j_dk_8_1)
theorem j_dk_9 : k_9.all (fun r => j_dk cX1_startAgain r && j_ax 3 0 r) = true := by decide +kernel
theorem j_dk_10_0 : ((k_10).take 30).all (fun r => j_dk cX1_addRule r && j_ax 3 0 r) = true := by decide +kernel
theorem j_dk_10_1 : ((k_10).drop 30).all (fun r => j_dk cX1_addRule r && j_ax 3 0 r) = true := by decide +kernel
theorem j_dk_10 : k_10.all (fun r => j_dk cX1_addRule r && j_ax 3 0 r) = true := j_all2 30 j_dk_10_0 (j_dk_10_1)
theorem j_dk_11 : k_11.all (fun r => j_dk cX1_factorOf r && j_ax 3 0 r) = true := by decide +kernel
theorem j_dk_12 : k_12.all (fun r => j_dk cX1_setFactor r && j_ax 3 0 r) = true := by decide +kernel
theorem j_dk_13 : k_13.all (fun r => j_dk cX1_formOf r && j_ax 3 0 r) = true := by decide +kernel
theorem j_dk_14 : k_14.all (fun r => j_dk cX1_costOf r && j_ax 3 0 r) = true := by decide +kernel
theorem j_dk_16 : k_16.all (fun r => j_dk cX1_digitOf r && j_ax 3 0 r) = true := by decide +kernel
theorem j_dk_17_0 : ((k_17).take 30).all (fun r => j_dk cX1_change r && j_ax 3 0 r) = true := by decide +kernel
theorem j_dk_17_1 : ((k_17).drop 30).all (fun r => j_dk cX1_change r && j_ax 3 0 r) = true := by decide +kernel
theorem j_dk_17 : k_17.all (fun r => j_dk cX1_change r && j_ax 3 0 r) = true := j_all2 30 j_dk_17_0 (j_dk_17_1)
theorem j_dk_18_0 : ((k_18).take 30).all (fun r => j_dk cX1_drawRules r && j_ax 3 0 r) = true := by decide +kernel
theorem j_dk_18_1 : ((k_18).drop 30).all (fun r => j_dk cX1_drawRules r && j_ax 3 0 r) = true := by decide +kernel
theorem j_dk_18 : k_18.all (fun r => j_dk cX1_drawRules r && j_ax 3 0 r) = true := j_all2 30 j_dk_18_0 (j_dk_18_1)
theorem j_dk_19 : k_19.all (fun r => j_dk cX1_stirred r && j_ax 3 1 r) = true := by decide +kernel
theorem j_dk_20 : k_20.all (fun r => j_dk cX2_init r && j_ax 4 2 r) = true := by decide +kernel
theorem j_dk_21 : k_21.all (fun r => j_dk cX2_become r && j_ax 4 0 r) = true := by decide +kernel
theorem j_dk_22 : k_22.all (fun r => j_dk cX2_clear r && j_ax 4 0 r) = true := by decide +kernel
theorem j_dk_23 : k_23.all (fun r => j_dk cX2_placeOf r && j_ax 4 0 r) = true := by decide +kernel
theorem j_dk_24 : k_24.all (fun r => j_dk cX2_gainOf r && j_ax 4 0 r) = true := by decide +kernel
theorem j_dk_25_0 : ((k_25).take 30).all (fun r => j_dk cX2_insert r && j_ax 4 0 r) = true := by decide +kernel
theorem j_dk_25_1 : (((k_25).drop 30).take 30).all (fun r => j_dk cX2_insert r && j_ax 4 0 r) = true := by decide +kernel
theorem j_dk_25_2 : (((k_25).drop 30).drop 30).all (fun r => j_dk cX2_insert r && j_ax 4 0 r) = true := by decide +kernel
theorem j_dk_25 : k_25.all (fun r => j_dk cX2_insert r && j_ax 4 0 r) = true := j_all2 30 j_dk_25_0 (j_all2 30 j_dk_25_1 (j_dk_25_2))
theorem j_dk_27 : k_27.all (fun r => j_dk cX2_isAhead r && j_ax 4 0 r) = true := by decide +kernel
theorem j_dk_28 : k_28.all (fun r => j_dk cX3_init r && j_ax 5 2 r) = true := by decide +kernel
theorem j_dk_29_0 : ((k_29).take 30).all (fun r => j_dk cX3_work r && j_ax 5 0 r) = true := by decide +kernel
theorem j_dk_29_1 : (((k_29).drop 30).take 30).all (fun r => j_dk cX3_work r && j_ax 5 0 r) = true := by decide +kernel
theorem j_dk_29_2 : (((k_29).drop 30).drop 30).all (fun r => j_dk cX3_work r && j_ax 5 0 r) = true := by decide +kernel
theorem j_dk_29 : k_29.all (fun r => j_dk cX3_work r && j_ax 5 0 r) = true := j_all2 30 j_dk_29_0 (j_all2 30 j_dk_29_1 (j_dk_29_2))
theorem j_dk_30 : k_30.all (fun r => j_dk cX3_worthOf r && j_ax 5 0 r) = true := by decide +kernel
theorem j_dk_31_0 : ((k_31).take 30).all (fun r => j_dk cX4_init r && j_ax 6 2 r) = true := by decide +kernel
theorem j_dk_31_1 : ((k_31).drop 30).all (fun r => j_dk cX4_init r && j_ax 6 2 r) = true := by decide +kernel
theorem j_dk_31 : k_31.all (fun r => j_dk cX4_init r && j_ax 6 2 r) = true := j_all2 30 j_dk_31_0 (j_dk_31_1)
theorem j_dk_32_0 : ((k_32).take 30).all (fun r => j_dk cX4_become r && j_ax 6 0 r) = true := by decide +kernel
theorem j_dk_32_1 : (((k_32).drop 30).take 30).all (fun r => j_dk cX4_become r && j_ax 6 0 r) = true := by decide +kernel
theorem j_dk_32_2 : (((k_32).drop 30).drop 30).all (fun r => j_dk cX4_become r && j_ax 6 0 r) = true := by decide +kernel
theorem j_dk_32 : k_32.all (fun r => j_dk cX4_become r && j_ax 6 0 r) = true := j_all2 30 j_dk_32_0 (j_all2 30 j_dk_32_1 (j_dk_32_2))
theorem j_dk_33 : k_33.all (fun r => j_dk cX4_startAgain r && j_ax 6 0 r) = true := by decide +kernel
theorem j_dk_34 : k_34.all (fun r => j_dk cX4_addSeen r && j_ax 6 0 r) = true := by decide +kernel
theorem j_dk_35 : k_35.all (fun r => j_dk cX4_addPlan r && j_ax 6 0 r) = true := by decide +kernel
theorem j_dk_37_0 : ((k_37).take 30).all (fun r => j_dk cX5_init r && j_ax 7 2 r) = true := by decide +kernel
theorem j_dk_37_1 : ((k_37).drop 30).all (fun r => j_dk cX5_init r && j_ax 7 2 r) = true := by decide +kernel
theorem j_dk_37 : k_37.all (fun r => j_dk cX5_init r && j_ax 7 2 r) = true := j_all2 30 j_dk_37_0 (j_dk_37_1)
theorem j_dk_38_0 : ((k_38).take 30).all (fun r => j_dk cX5_start r && j_ax 7 0 r) = true := by decide +kernel
theorem j_dk_38_1 : (((k_38).drop 30).take 30).all (fun r => j_dk cX5_start r && j_ax 7 0 r) = true := by decide +kernel
theorem j_dk_38_2 : (((k_38).drop 30).drop 30).all (fun r => j_dk cX5_start r && j_ax 7 0 r) = true := by decide +kernel
theorem j_dk_38 : k_38.all (fun r => j_dk cX5_start r && j_ax 7 0 r) = true := j_all2 30 j_dk_38_0 (j_all2 30 j_dk_38_1 (j_dk_38_2))
theorem j_dk_39_0 : ((k_39).take 30).all (fun r => j_dk cX5_addRow r && j_ax 7 0 r) = true := by decide +kernel
theorem j_dk_39_1 : ((k_39).drop 30).all (fun r => j_dk cX5_addRow r && j_ax 7 0 r) = true := by decide +kernel
theorem j_dk_39 : k_39.all (fun r => j_dk cX5_addRow r && j_ax 7 0 r) = true := j_all2 30 j_dk_39_0 (j_dk_39_1)
theorem j_dk_42_0 : ((k_42).take 30).all (fun r => j_dk cX5_addCut r && j_ax 7 0 r) = true := by decide +kernel
theorem j_dk_42_1 : ((k_42).drop 30).all (fun r => j_dk cX5_addCut r && j_ax 7 0 r) = true := by decide +kernel
theorem j_dk_42 : k_42.all (fun r => j_dk cX5_addCut r && j_ax 7 0 r) = true := j_all2 30 j_dk_42_0 (j_dk_42_1)
theorem j_dk_43 : k_43.all (fun r => j_dk cX5_restOf r && j_ax 7 0 r) = true := by decide +kernel
theorem j_dk_44 : k_44.all (fun r => j_dk cX5_wholeOf r && j_ax 7 0 r) = true := by decide +kernel
theorem j_dk_45_0 : ((k_45).take 30).all (fun r => j_dk cX5_repair r && j_ax 7 0 r) = true := by decide +kernel
theorem j_dk_45_1 : ((k_45).drop 30).all (fun r => j_dk cX5_repair r && j_ax 7 0 r) = true := by decide +kernel
theorem j_dk_45 : k_45.all (fun r => j_dk cX5_repair r && j_ax 7 0 r) = true := j_all2 30 j_dk_45_0 (j_dk_45_1)
theorem j_dk_46_0 : ((k_46).take 30).all (fun r => j_dk cX5_lowestRow r && j_ax 7 0 r) = true := by decide +kernel
theorem j_dk_46_1 : ((k_46).drop 30).all (fun r => j_dk cX5_lowestRow r && j_ax 7 0 r) = true := by decide +kernel
theorem j_dk_46 : k_46.all (fun r => j_dk cX5_lowestRow r && j_ax 7 0 r) = true := j_all2 30 j_dk_46_0 (j_dk_46_1)
theorem j_dk_47_0 : ((k_47).take 30).all (fun r => j_dk cX5_nearestColumn r && j_ax 7 0 r) = true := by decide +kernel
theorem j_dk_47_1 : ((k_47).drop 30).all (fun r => j_dk cX5_nearestColumn r && j_ax 7 0 r) = true := by decide +kernel
theorem j_dk_47 : k_47.all (fun r => j_dk cX5_nearestColumn r && j_ax 7 0 r) = true := j_all2 30 j_dk_47_0 (j_dk_47_1)
theorem j_dk_48_0 : ((k_48).take 30).all (fun r => j_dk cX5_isNearer r && j_ax 7 0 r) = true := by decide +kernel
theorem j_dk_48_1 : ((k_48).drop 30).all (fun r => j_dk cX5_isNearer r && j_ax 7 0 r) = true := by decide +kernel
theorem j_dk_48 : k_48.all (fun r => j_dk cX5_isNearer r && j_ax 7 0 r) = true := j_all2 30 j_dk_48_0 (j_dk_48_1)
theorem j_dk_49_0 : ((k_49).take 30).all (fun r => j_dk cX5_pivot r && j_ax 7 0 r) = true := by decide +kernel
theorem j_dk_49_1 : (((k_49).drop 30).take 30).all (fun r => j_dk cX5_pivot r && j_ax 7 0 r) = true := by decide +kernel
theorem j_dk_49_2 : ((((k_49).drop 30).drop 30).take 30).all (fun r => j_dk cX5_pivot r && j_ax 7 0 r) = true := by decide +kernel
theorem j_dk_49_3 : (((((k_49).drop 30).drop 30).drop 30).take 30).all (fun r => j_dk cX5_pivot r && j_ax 7 0 r) = true := by decide +kernel
theorem j_dk_49_4 : ((((((k_49).drop 30).drop 30).drop 30).drop 30).take 30).all (fun r => j_dk cX5_pivot r && j_ax 7 0 r) = true := by decide +kernel
theorem j_dk_49_5 : ((((((k_49).drop 30).drop 30).drop 30).drop 30).drop 30).all (fun r => j_dk cX5_pivot r && j_ax 7 0 r) = true := by decide +kernel
theorem j_dk_49 : k_49.all (fun r => j_dk cX5_pivot r && j_ax 7 0 r) = true := j_all2 30 j_dk_49_0 (j_all2 30 j_dk_49_1 (j_all2 30 j_dk_49_2 (j_all2 30 j_dk_49_3 (j_all2 30 j_dk_49_4 (j_dk_49_5)))))
theorem j_dk_50_0 : ((k_50).take 30).all (fun r => j_dk cX5_freshenRow r && j_ax 7 0 r) = true := by decide +kernel
theorem j_dk_50_1 : (((k_50).drop 30).take 30).all (fun r => j_dk cX5_freshenRow r && j_ax 7 0 r) = true := by decide +kernel
theorem j_dk_50_2 : ((((k_50).drop 30).drop 30).take 30).all (fun r => j_dk cX5_freshenRow r && j_ax 7 0 r) = true := by decide +kernel
theorem j_dk_50_3 : ((((k_50).drop 30).drop 30).drop 30).all (fun r => j_dk cX5_freshenRow r && j_ax 7 0 r) = true := by decide +kernel
theorem j_dk_50 : k_50.all (fun r => j_dk cX5_freshenRow r && j_ax 7 0 r) = true := j_all2 30 j_dk_50_0 (j_all2 30 j_dk_50_1 (j_all2 30 j_dk_50_2 (j_dk_50_3)))
theorem j_dk_51 : k_51.all (fun r => j_dk cX5_mixed r && j_ax 7 0 r) = true := by decide +kernel
theorem j_dk_52 : k_52.all (fun r => j_dk cX5_rowOf r && j_ax 7 0 r) = true := by decide +kernel
theorem j_dk_53 : k_53.all (fun r => j_dk cX5_rightOf r && j_ax 7 0 r) = true := by decide +kernel
theorem j_dk_54 : k_54.all (fun r => j_dk cX5_floorOf r && j_ax 7 0 r) = true := by decide +kernel
theorem j_dk_56 : k_56.all (fun r => j_dk cX5_partedRow r && j_ax 7 0 r) = true := by decide +kernel
theorem j_dk_60_0 : ((k_60).take 30).all (fun r => j_dk cX6_init r && j_ax 8 2 r) = true := by decide +kernel
theorem j_dk_60_1 : ((k_60).drop 30).all (fun r => j_dk cX6_init r && j_ax 8 2 r) = true := by decide +kernel
theorem j_dk_60 : k_60.all (fun r => j_dk cX6_init r && j_ax 8 2 r) = true := j_all2 30 j_dk_60_0 (j_dk_60_1)
theorem j_dk_61 : k_61.all (fun r => j_dk cX6_lay r && j_ax 8 0 r) = true := by decide +kernel
theorem j_dk_62 : k_62.all (fun r => j_dk cX6_trimmed r && j_ax 8 0 r) = true := by decide +kernel
theorem j_dk_64 : k_64.all (fun r => j_dk cX7_init r && j_ax 9 2 r) = true := by decide +kernel
theorem j_dk_65_0 : ((k_65).take 30).all (fun r => j_dk cX7_findFault r && j_ax 9 0 r) = true := by decide +kernel
theorem j_dk_65_1 : ((k_65).drop 30).all (fun r => j_dk cX7_findFault r && j_ax 9 0 r) = true := by decide +kernel
theorem j_dk_65 : k_65.all (fun r => j_dk cX7_findFault r && j_ax 9 0 r) = true := j_all2 30 j_dk_65_0 (j_dk_65_1)
theorem j_dk_66_0 : ((k_66).take 30).all (fun r => j_dk cX7_addRulesTo r && j_ax 9 0 r) = true := by decide +kernel
theorem j_dk_66_1 : ((k_66).drop 30).all (fun r => j_dk cX7_addRulesTo r && j_ax 9 0 r) = true := by decide +kernel
theorem j_dk_66 : k_66.all (fun r => j_dk cX7_addRulesTo r && j_ax 9 0 r) = true := j_all2 30 j_dk_66_0 (j_dk_66_1)
theorem j_dk_67 : k_67.all (fun r => j_dk cX7_here r && j_ax 9 0 r) = true := by decide +kernel
theorem j_dk_68 : k_68.all (fun r => j_dk cX7_skip r && j_ax 9 0 r) = true := by decide +kernel
theorem j_dk_69 : k_69.all (fun r => j_dk cX7_atDigit r && j_ax 9 0 r) = true := by decide +kernel
theorem j_dk_70_0 : ((k_70).take 30).all (fun r => j_dk cX7_readClause r && j_ax 9 0 r) = true := by decide +kernel
theorem j_dk_70_1 : (((k_70).drop 30).take 30).all (fun r => j_dk cX7_readClause r && j_ax 9 0 r) = true := by decide +kernel
theorem j_dk_70_2 : ((((k_70).drop 30).drop 30).take 30).all (fun r => j_dk cX7_readClause r && j_ax 9 0 r) = true := by decide +kernel
theorem j_dk_70_3 : ((((k_70).drop 30).drop 30).drop 30).all (fun r => j_dk cX7_readClause r && j_ax 9 0 r) = true := by decide +kernel
theorem j_dk_70 : k_70.all (fun r => j_dk cX7_readClause r && j_ax 9 0 r) = true := j_all2 30 j_dk_70_0 (j_all2 30 j_dk_70_1 (j_all2 30 j_dk_70_2 (j_dk_70_3)))
theorem j_dk_71_0 : ((k_71).take 30).all (fun r => j_dk cX7_readTerm r && j_ax 9 0 r) = true := by decide +kernel
theorem j_dk_71_1 : (((k_71).drop 30).take 30).all (fun r => j_dk cX7_readTerm r && j_ax 9 0 r) = true := by decide +kernel
theorem j_dk_71_2 : (((k_71).drop 30).drop 30).all (fun r => j_dk cX7_readTerm r && j_ax 9 0 r) = true := by decide +kernel
theorem j_dk_71 : k_71.all (fun r => j_dk cX7_readTerm r && j_ax 9 0 r) = true := j_all2 30 j_dk_71_0 (j_all2 30 j_dk_71_1 (j_dk_71_2))
theorem j_dk_72_0 : ((k_72).take 30).all (fun r => j_dk cX7_readBound r && j_ax 9 0 r) = true := by decide +kernel
theorem j_dk_72_1 : ((k_72).drop 30).all (fun r => j_dk cX7_readBound r && j_ax 9 0 r) = true := by decide +kernel
theorem j_dk_72 : k_72.all (fun r => j_dk cX7_readBound r && j_ax 9 0 r) = true := j_all2 30 j_dk_72_0 (j_dk_72_1)
theorem j_dk_73_0 : ((k_73).take 30).all (fun r => j_dk cX8_init r && j_ax 10 2 r) = true := by decide +kernel
theorem j_dk_73_1 : ((k_73).drop 30).all (fun r => j_dk cX8_init r && j_ax 10 2 r) = true := by decide +kernel
theorem j_dk_73 : k_73.all (fun r => j_dk cX8_init r && j_ax 10 2 r) = true := j_all2 30 j_dk_73_0 (j_dk_73_1)
theorem j_dk_80 : k_80.all (fun r => j_dk cX9_init r && j_ax 11 2 r) = true := by decide +kernel
theorem j_dk_87_0 : ((k_87).take 30).all (fun r => j_dk cX10_init r && j_ax 12 2 r) = true := by decide +kernel
theorem j_dk_87_1 : ((k_87).drop 30).all (fun r => j_dk cX10_init r && j_ax 12 2 r) = true := by decide +kernel
theorem j_dk_87 : k_87.all (fun r => j_dk cX10_init r && j_ax 12 2 r) = true := j_all2 30 j_dk_87_0 (j_dk_87_1)
theorem j_dk_88 : k_88.all (fun r => j_dk cX10_size r && j_ax 12 0 r) = true := by decide +kernel
theorem j_dk_89_0 : ((k_89).take 30).all (fun r => j_dk cX10_cost r && j_ax 12 0 r) = true := by decide +kernel
theorem j_dk_89_1 : ((k_89).drop 30).all (fun r => j_dk cX10_cost r && j_ax 12 0 r) = true := by decide +kernel
theorem j_dk_89 : k_89.all (fun r => j_dk cX10_cost r && j_ax 12 0 r) = true := j_all2 30 j_dk_89_0 (j_dk_89_1)
theorem j_dk_91_0 : ((k_91).take 30).all (fun r => j_dk cX10_factor r && j_ax 12 0 r) = true := by decide +kernel
theorem j_dk_91_1 : ((k_91).drop 30).all (fun r => j_dk cX10_factor r && j_ax 12 0 r) = true := by decide +kernel
theorem j_dk_91 : k_91.all (fun r => j_dk cX10_factor r && j_ax 12 0 r) = true := j_all2 30 j_dk_91_0 (j_dk_91_1)
theorem j_dk_92_0 : ((k_92).take 30).all (fun r => j_dk cX10_bound r && j_ax 12 0 r) = true := by decide +kernel
theorem j_dk_92_1 : ((k_92).drop 30).all (fun r => j_dk cX10_bound r && j_ax 12 0 r) = true := by decide +kernel
theorem j_dk_92 : k_92.all (fun r => j_dk cX10_bound r && j_ax 12 0 r) = true := j_all2 30 j_dk_92_0 (j_dk_92_1)
theorem j_dk_93_0 : ((k_93).take 30).all (fun r => j_dk cX10_less r && j_ax 12 0 r) = true := by decide +kernel
theorem j_dk_93_1 : ((k_93).drop 30).all (fun r => j_dk cX10_less r && j_ax 12 0 r) = true := by decide +kernel
theorem j_dk_93 : k_93.all (fun r => j_dk cX10_less r && j_ax 12 0 r) = true := j_all2 30 j_dk_93_0 (j_dk_93_1)
theorem j_dk_94_0 : ((k_94).take 30).all (fun r => j_dk cX10_feed r && j_ax 12 0 r) = true := by decide +kernel
theorem j_dk_94_1 : ((k_94).drop 30).all (fun r => j_dk cX10_feed r && j_ax 12 0 r) = true := by decide +kernel
theorem j_dk_94 : k_94.all (fun r => j_dk cX10_feed r && j_ax 12 0 r) = true := j_all2 30 j_dk_94_0 (j_dk_94_1)
theorem j_dk_95_0 : ((k_95).take 30).all (fun r => j_dk cX10_read r && j_ax 12 0 r) = true := by decide +kernel
theorem j_dk_95_1 : ((k_95).drop 30).all (fun r => j_dk cX10_read r && j_ax 12 0 r) = true := by decide +kernel
theorem j_dk_95 : k_95.all (fun r => j_dk cX10_read r && j_ax 12 0 r) = true := j_all2 30 j_dk_95_0 (j_dk_95_1)
theorem j_dk_96_0 : ((k_96).take 30).all (fun r => j_dk cX10_ruleOf r && j_ax 12 0 r) = true := by decide +kernel
theorem j_dk_96_1 : ((k_96).drop 30).all (fun r => j_dk cX10_ruleOf r && j_ax 12 0 r) = true := by decide +kernel
theorem j_dk_96 : k_96.all (fun r => j_dk cX10_ruleOf r && j_ax 12 0 r) = true := j_all2 30 j_dk_96_0 (j_dk_96_1)
theorem j_dk_97 : k_97.all (fun r => j_dk cX10_solve r && j_ax 12 0 r) = true := by decide +kernel
theorem j_dk_99 : k_99.all (fun r => j_dk cX10_amount r && j_ax 12 0 r) = true := by decide +kernel
theorem j_dk_115 : k_115.all (fun r => j_dk cX10_would r && j_ax 12 0 r) = true := by decide +kernel
theorem j_dk_116_0 : ((k_116).take 30).all (fun r => j_dk cX10_see r && j_ax 12 0 r) = true := by decide +kernel
theorem j_dk_116_1 : ((k_116).drop 30).all (fun r => j_dk cX10_see r && j_ax 12 0 r) = true := by decide +kernel
theorem j_dk_116 : k_116.all (fun r => j_dk cX10_see r && j_ax 12 0 r) = true := j_all2 30 j_dk_116_0 (j_dk_116_1)
theorem j_dk_117_0 : ((k_117).take 30).all (fun r => j_dk cX10_fits r && j_ax 12 0 r) = true := by decide +kernel
theorem j_dk_117_1 : ((k_117).drop 30).all (fun r => j_dk cX10_fits r && j_ax 12 0 r) = true := by decide +kernel
theorem j_dk_117 : k_117.all (fun r => j_dk cX10_fits r && j_ax 12 0 r) = true := j_all2 30 j_dk_117_0 (j_dk_117_1)
theorem j_dk_119_0 : ((k_119).take 30).all (fun r => j_dk cX10_mean r && j_ax 12 0 r) = true := by decide +kernel
theorem j_dk_119_1 : ((k_119).drop 30).all (fun r => j_dk cX10_mean r && j_ax 12 0 r) = true := by decide +kernel
theorem j_dk_119 : k_119.all (fun r => j_dk cX10_mean r && j_ax 12 0 r) = true := j_all2 30 j_dk_119_0 (j_dk_119_1)
theorem j_dk_120 : k_120.all (fun r => j_dk cX10_drawn r && j_ax 12 0 r) = true := by decide +kernel
theorem j_dk_121_0 : ((k_121).take 30).all (fun r => j_dk cX10_offer r && j_ax 12 0 r) = true := by decide +kernel
theorem j_dk_121_1 : ((k_121).drop 30).all (fun r => j_dk cX10_offer r && j_ax 12 0 r) = true := by decide +kernel
theorem j_dk_121 : k_121.all (fun r => j_dk cX10_offer r && j_ax 12 0 r) = true := j_all2 30 j_dk_121_0 (j_dk_121_1)
theorem j_dk_122_0 : ((k_122).take 30).all (fun r => j_dk cX10_offered r && j_ax 12 0 r) = true := by decide +kernel
theorem j_dk_122_1 : ((k_122).drop 30).all (fun r => j_dk cX10_offered r && j_ax 12 0 r) = true := by decide +kernel
theorem j_dk_122 : k_122.all (fun r => j_dk cX10_offered r && j_ax 12 0 r) = true := j_all2 30 j_dk_122_0 (j_dk_122_1)
theorem j_dk_123 : k_123.all (fun r => j_dk cX10_upTo r && j_ax 12 0 r) = true := by decide +kernel
theorem j_dk_124_0 : ((k_124).take 30).all (fun r => j_dk cX10_dearest r && j_ax 12 0 r) = true := by decide +kernel
theorem j_dk_124_1 : ((k_124).drop 30).all (fun r => j_dk cX10_dearest r && j_ax 12 0 r) = true := by decide +kernel
theorem j_dk_124 : k_124.all (fun r => j_dk cX10_dearest r && j_ax 12 0 r) = true := j_all2 30 j_dk_124_0 (j_dk_124_1)
theorem j_dk_125_0 : ((k_125).take 30).all (fun r => j_dk cX10_plan r && j_ax 12 0 r) = true := by decide +kernel
theorem j_dk_125_1 : ((k_125).drop 30).all (fun r => j_dk cX10_plan r && j_ax 12 0 r) = true := by decide +kernel
theorem j_dk_125 : k_125.all (fun r => j_dk cX10_plan r && j_ax 12 0 r) = true := j_all2 30 j_dk_125_0 (j_dk_125_1)
theorem j_dk_126_0 : ((k_126).take 30).all (fun r => j_dk cX10_ends r && j_ax 12 0 r) = true := by decide +kernel
theorem j_dk_126_1 : ((k_126).drop 30).all (fun r => j_dk cX10_ends r && j_ax 12 0 r) = true := by decide +kernel
theorem j_dk_126 : k_126.all (fun r => j_dk cX10_ends r && j_ax 12 0 r) = true := j_all2 30 j_dk_126_0 (j_dk_126_1)
theorem j_dk_128 : k_128.all (fun r => j_dk cX10_image r && j_ax 12 0 r) = true := by decide +kernel
theorem j_dk_129 : k_129.all (fun r => j_dk cX10_undo r && j_ax 12 0 r) = true := by decide +kernel
theorem j_dk_130_0 : ((k_130).take 30).all (fun r => j_dk cX10_count r && j_ax 12 0 r) = true := by decide +kernel
theorem j_dk_130_1 : (((k_130).drop 30).take 30).all (fun r => j_dk cX10_count r && j_ax 12 0 r) = true := by decide +kernel
theorem j_dk_130_2 : (((k_130).drop 30).drop 30).all (fun r => j_dk cX10_count r && j_ax 12 0 r) = true := by decide +kernel
theorem j_dk_130 : k_130.all (fun r => j_dk cX10_count r && j_ax 12 0 r) = true := j_all2 30 j_dk_130_0 (j_all2 30 j_dk_130_1 (j_dk_130_2))
theorem j_dk_131_0 : ((k_131).take 30).all (fun r => j_dk cX10_tape r && j_ax 12 0 r) = true := by decide +kernel
theorem j_dk_131_1 : ((k_131).drop 30).all (fun r => j_dk cX10_tape r && j_ax 12 0 r) = true := by decide +kernel
theorem j_dk_131 : k_131.all (fun r => j_dk cX10_tape r && j_ax 12 0 r) = true := j_all2 30 j_dk_131_0 (j_dk_131_1)
theorem j_dk_132_0 : ((k_132).take 30).all (fun r => j_dk cX10_item r && j_ax 12 0 r) = true := by decide +kernel
theorem j_dk_132_1 : ((k_132).drop 30).all (fun r => j_dk cX10_item r && j_ax 12 0 r) = true := by decide +kernel
theorem j_dk_132 : k_132.all (fun r => j_dk cX10_item r && j_ax 12 0 r) = true := j_all2 30 j_dk_132_0 (j_dk_132_1)
theorem j_dk_135 : k_135.all (fun r => j_dk cX10_isPack r && j_ax 12 0 r) = true := by decide +kernel
theorem j_dk_136 : k_136.all (fun r => j_dk cX10_isRule r && j_ax 12 0 r) = true := by decide +kernel
theorem j_dk_138 : k_138.all (fun r => j_dk cX10_isCode r && j_ax 12 0 r) = true := by decide +kernel
theorem j_dk_139 : k_139.all (fun r => j_dk cX10_isBound r && j_ax 12 1 r) = true := by decide +kernel
theorem j_dk_140 : k_140.all (fun r => j_dk cX10_isFactor r && j_ax 12 1 r) = true := by decide +kernel
theorem j_dk_141 : k_141.all (fun r => j_dk cX10_isPart r && j_ax 12 1 r) = true := by decide +kernel
theorem j_dk_142 : k_142.all (fun r => j_dk cX10_isTape r && j_ax 12 1 r) = true := by decide +kernel
theorem j_dk_143 : k_143.all (fun r => j_dk cX10_isPlanned r && j_ax 12 1 r) = true := by decide +kernel
theorem j_dk_144 : k_144.all (fun r => j_dk cX10_isNear r && j_ax 12 1 r) = true := by decide +kernel
theorem j_dk_145_0 : ((k_145).take 30).all (fun r => j_dk cX10_isSeenSo r && j_ax 12 0 r) = true := by decide +kernel
theorem j_dk_145_1 : ((k_145).drop 30).all (fun r => j_dk cX10_isSeenSo r && j_ax 12 0 r) = true := by decide +kernel
theorem j_dk_145 : k_145.all (fun r => j_dk cX10_isSeenSo r && j_ax 12 0 r) = true := j_all2 30 j_dk_145_0 (j_dk_145_1)
theorem j_dk_146_0 : ((k_146).take 30).all (fun r => j_dk cX10_lowest r && j_ax 12 1 r) = true := by decide +kernel
theorem j_dk_146_1 : ((k_146).drop 30).all (fun r => j_dk cX10_lowest r && j_ax 12 1 r) = true := by decide +kernel
theorem j_dk_146 : k_146.all (fun r => j_dk cX10_lowest r && j_ax 12 1 r) = true := j_all2 30 j_dk_146_0 (j_dk_146_1)
theorem j_dk_265 : k_265.all (fun r => j_dk cJ9_floorDiv_f86c9 r && j_ax 14 1 r) = true := by decide +kernel
theorem j_dk_266 : k_266.all (fun r => j_dk cJ9_floorMod_f86c9 r && j_ax 14 1 r) = true := by decide +kernel
theorem j_dk_267 : k_267.all (fun r => j_dk cJ9_abs_067f4 r && j_ax 14 1 r) = true := by decide +kernel
theorem j_dk_268 : k_268.all (fun r => j_dk cJ9_min_7cf53 r && j_ax 14 1 r) = true := by decide +kernel
theorem j_dk_269 : k_269.all (fun r => j_dk cJ7_fill_d0a16 r && j_ax 15 1 r) = true := by decide +kernel
theorem j_dk_270 : k_270.all (fun r => j_dk cJ7_fill_53178 r && j_ax 15 1 r) = true := by decide +kernel
theorem j_dk_271_0 : ((k_271).take 30).all (fun r => j_dk cL_law r && j_ax 13 1 r) = true := by decide +kernel
theorem j_dk_271_1 : (((k_271).drop 30).take 30).all (fun r => j_dk cL_law r && j_ax 13 1 r) = true := by decide +kernel
theorem j_dk_271_2 : ((((k_271).drop 30).drop 30).take 30).all (fun r => j_dk cL_law r && j_ax 13 1 r) = true := by decide +kernel
theorem j_dk_271_3 : (((((k_271).drop 30).drop 30).drop 30).take 30).all (fun r => j_dk cL_law r && j_ax 13 1 r) = true := by decide +kernel
theorem j_dk_271_4 : ((((((k_271).drop 30).drop 30).drop 30).drop 30).take 30).all (fun r => j_dk cL_law r && j_ax 13 1 r) = true := by decide +kernel
theorem j_dk_271_5 : (((((((k_271).drop 30).drop 30).drop 30).drop 30).drop 30).take 30).all (fun r => j_dk cL_law r && j_ax 13 1 r) = true := by decide +kernel
theorem j_dk_271_6 : ((((((((k_271).drop 30).drop 30).drop 30).drop 30).drop 30).drop 30).take 30).all (fun r => j_dk cL_law r && j_ax 13 1 r) = true := by decide +kernel
theorem j_dk_271_7 : (((((((((k_271).drop 30).drop 30).drop 30).drop 30).drop 30).drop 30).drop 30).take 30).all (fun r => j_dk cL_law r && j_ax 13 1 r) = true := by decide +kernel
theorem j_dk_271_8 : ((((((((((k_271).drop 30).drop 30).drop 30).drop 30).drop 30).drop 30).drop 30).drop 30).take 30).all (fun r => j_dk cL_law r && j_ax 13 1 r) = true := by decide +kernel
theorem j_dk_271_9 : (((((((((((k_271).drop 30).drop 30).drop 30).drop 30).drop 30).drop 30).drop 30).drop 30).drop 30).take 30).all (fun r => j_dk cL_law r && j_ax 13 1 r) = true := by decide +kernel
theorem j_dk_271_10 : ((((((((((((k_271).drop 30).drop 30).drop 30).drop 30).drop 30).drop 30).drop 30).drop 30).drop 30).drop 30).take 30).all (fun r => j_dk cL_law r && j_ax 13 1 r) = true := by decide +kernel
theorem j_dk_271_11 : (((((((((((((k_271).drop 30).drop 30).drop 30).drop 30).drop 30).drop 30).drop 30).drop 30).drop 30).drop 30).drop 30).take 30).all (fun r => j_dk cL_law r && j_ax 13 1 r) = true := by decide +kernel
theorem j_dk_271_12 : ((((((((((((((k_271).drop 30).drop 30).drop 30).drop 30).drop 30).drop 30).drop 30).drop 30).drop 30).drop 30).drop 30).drop 30).take 30).all (fun r => j_dk cL_law r && j_ax 13 1 r) = true := by decide +kernel
theorem j_dk_271_13 : (((((((((((((((k_271).drop 30).drop 30).drop 30).drop 30).drop 30).drop 30).drop 30).drop 30).drop 30).drop 30).drop 30).drop 30).drop 30).take 30).all (fun r => j_dk cL_law r && j_ax 13 1 r) = true := by decide +kernel
theorem j_dk_271_14 : ((((((((((((((((k_271).drop 30).drop 30).drop 30).drop 30).drop 30).drop 30).drop 30).drop 30).drop 30).drop 30).drop 30).drop 30).drop 30).drop 30).take 30).all (fun r => j_dk cL_law r && j_ax 13 1 r) = true := by decide +kernel
theorem j_dk_271_15 : (((((((((((((((((k_271).drop 30).drop 30).drop 30).drop 30).drop 30).drop 30).drop 30).drop 30).drop 30).drop 30).drop 30).drop 30).drop 30).drop 30).drop 30).take 30).all (fun r => j_dk cL_law r && j_ax 13 1 r) = true := by decide +kernel
theorem j_dk_271_16 : ((((((((((((((((((k_271).drop 30).drop 30).drop 30).drop 30).drop 30).drop 30).drop 30).drop 30).drop 30).drop 30).drop 30).drop 30).drop 30).drop 30).drop 30).drop 30).take 30).all (fun r => j_dk cL_law r && j_ax 13 1 r) = true := by decide +kernel
theorem j_dk_271_17 : (((((((((((((((((((k_271).drop 30).drop 30).drop 30).drop 30).drop 30).drop 30).drop 30).drop 30).drop 30).drop 30).drop 30).drop 30).drop 30).drop 30).drop 30).drop 30).drop 30).take 30).all (fun r => j_dk cL_law r && j_ax 13 1 r) = true := by decide +kernel
theorem j_dk_271_18 : ((((((((((((((((((((k_271).drop 30).drop 30).drop 30).drop 30).drop 30).drop 30).drop 30).drop 30).drop 30).drop 30).drop 30).drop 30).drop 30).drop 30).drop 30).drop 30).drop 30).drop 30).take 30).all (fun r => j_dk cL_law r && j_ax 13 1 r) = true := by decide +kernel
theorem j_dk_271_19 : (((((((((((((((((((((k_271).drop 30).drop 30).drop 30).drop 30).drop 30).drop 30).drop 30).drop 30).drop 30).drop 30).drop 30).drop 30).drop 30).drop 30).drop 30).drop 30).drop 30).drop 30).drop 30).take 30).all (fun r => j_dk cL_law r && j_ax 13 1 r) = true := by decide +kernel
theorem j_dk_271_20 : ((((((((((((((((((((((k_271).drop 30).drop 30).drop 30).drop 30).drop 30).drop 30).drop 30).drop 30).drop 30).drop 30).drop 30).drop 30).drop 30).drop 30).drop 30).drop 30).drop 30).drop 30).drop 30).drop 30).take 30).all (fun r => j_dk cL_law r && j_ax 13 1 r) = true := by decide +kernel
theorem j_dk_271_21 : (((((((((((((((((((((((k_271).drop 30).drop 30).drop 30).drop 30).drop 30).drop 30).drop 30).drop 30).drop 30).drop 30).drop 30).drop 30).drop 30).drop 30).drop 30).drop 30).drop 30).drop 30).drop 30).drop 30).drop 30).take 30).all (fun r => j_dk cL_law r && j_ax 13 1 r) = true := by decide +kernel
theorem j_dk_271_22 : ((((((((((((((((((((((((k_271).drop 30).drop 30).drop 30).drop 30).drop 30).drop 30).drop 30).drop 30).drop 30).drop 30).drop 30).drop 30).drop 30).drop 30).drop 30).drop 30).drop 30).drop 30).drop 30).drop 30).drop 30).drop 30).take 30).all (fun r => j_dk cL_law r && j_ax 13 1 r) = true := by decide +kernel
theorem j_dk_271_23 : (((((((((((((((((((((((((k_271).drop 30).drop 30).drop 30).drop 30).drop 30).drop 30).drop 30).drop 30).drop 30).drop 30).drop 30).drop 30).drop 30).drop 30).drop 30).drop 30).drop 30).drop 30).drop 30).drop 30).drop 30).drop 30).drop 30).take 30).all (fun r => j_dk cL_law r && j_ax 13 1 r) = true := by decide +kernel
theorem j_dk_271_24 : ((((((((((((((((((((((((((k_271).drop 30).drop 30).drop 30).drop 30).drop 30).drop 30).drop 30).drop 30).drop 30).drop 30).drop 30).drop 30).drop 30).drop 30).drop 30).drop 30).drop 30).drop 30).drop 30).drop 30).drop 30).drop 30).drop 30).drop 30).take 30).all (fun r => j_dk cL_law r && j_ax 13 1 r) = true := by decide +kernel
theorem j_dk_271_25 : (((((((((((((((((((((((((((k_271).drop 30).drop 30).drop 30).drop 30).drop 30).drop 30).drop 30).drop 30).drop 30).drop 30).drop 30).drop 30).drop 30).drop 30).drop 30).drop 30).drop 30).drop 30).drop 30).drop 30).drop 30).drop 30).drop 30).drop 30).drop 30).take 30).all (fun r => j_dk cL_law r && j_ax 13 1 r) = true := by decide +kernel
theorem j_dk_271_26 : ((((((((((((((((((((((((((((k_271).drop 30).drop 30).drop 30).drop 30).drop 30).drop 30).drop 30).drop 30).drop 30).drop 30).drop 30).drop 30).drop 30).drop 30).drop 30).drop 30).drop 30).drop 30).drop 30).drop 30).drop 30).drop 30).drop 30).drop 30).drop 30).drop 30).take 30).all (fun r => j_dk cL_law r && j_ax 13 1 r) = true := by decide +kernel
theorem j_dk_271_27 : (((((((((((((((((((((((((((((k_271).drop 30).drop 30).drop 30).drop 30).drop 30).drop 30).drop 30).drop 30).drop 30).drop 30).drop 30).drop 30).drop 30).drop 30).drop 30).drop 30).drop 30).drop 30).drop 30).drop 30).drop 30).drop 30).drop 30).drop 30).drop 30).drop 30).drop 30).take 30).all (fun r => j_dk cL_law r && j_ax 13 1 r) = true := by decide +kernel
theorem j_dk_271_28 : ((((((((((((((((((((((((((((((k_271).drop 30).drop 30).drop 30).drop 30).drop 30).drop 30).drop 30).drop 30).drop 30).drop 30).drop 30).drop 30).drop 30).drop 30).drop 30).drop 30).drop 30).drop 30).drop 30).drop 30).drop 30).drop 30).drop 30).drop 30).drop 30).drop 30).drop 30).drop 30).take 30).all (fun r => j_dk cL_law r && j_ax 13 1 r) = true := by decide +kernel
theorem j_dk_271_29 : (((((((((((((((((((((((((((((((k_271).drop 30).drop 30).drop 30).drop 30).drop 30).drop 30).drop 30).drop 30).drop 30).drop 30).drop 30).drop 30).drop 30).drop 30).drop 30).drop 30).drop 30).drop 30).drop 30).drop 30).drop 30).drop 30).drop 30).drop 30).drop 30).drop 30).drop 30).drop 30).drop 30).take 30).all (fun r => j_dk cL_law r && j_ax 13 1 r) = true := by decide +kernel
theorem j_dk_271_30 : ((((((((((((((((((((((((((((((((k_271).drop 30).drop 30).drop 30).drop 30).drop 30).drop 30).drop 30).drop 30).drop 30).drop 30).drop 30).drop 30).drop 30).drop 30).drop 30).drop 30).drop 30).drop 30).drop 30).drop 30).drop 30).drop 30).drop 30).drop 30).drop 30).drop 30).drop 30).drop 30).drop 30).drop 30).take 30).all (fun r => j_dk cL_law r && j_ax 13 1 r) = true := by decide +kernel
theorem j_dk_271_31 : (((((((((((((((((((((((((((((((((k_271).drop 30).drop 30).drop 30).drop 30).drop 30).drop 30).drop 30).drop 30).drop 30).drop 30).drop 30).drop 30).drop 30).drop 30).drop 30).drop 30).drop 30).drop 30).drop 30).drop 30).drop 30).drop 30).drop 30).drop 30).drop 30).drop 30).drop 30).drop 30).drop 30).drop 30).drop 30).take 30).all (fun r => j_dk cL_law r && j_ax 13 1 r) = true := by decide +kernel
theorem j_dk_271_32 : ((((((((((((((((((((((((((((((((((k_271).drop 30).drop 30).drop 30).drop 30).drop 30).drop 30).drop 30).drop 30).drop 30).drop 30).drop 30).drop 30).drop 30).drop 30).drop 30).drop 30).drop 30).drop 30).drop 30).drop 30).drop 30).drop 30).drop 30).drop 30).drop 30).drop 30).drop 30).drop 30).drop 30).drop 30).drop 30).drop 30).take 30).all (fun r => j_dk cL_law r && j_ax 13 1 r) = true := by decide +kernel
theorem j_dk_271_33 : (((((((((((((((((((((((((((((((((((k_271).drop 30).drop 30).drop 30).drop 30).drop 30).drop 30).drop 30).drop 30).drop 30).drop 30).drop 30).drop 30).drop 30).drop 30).drop 30).drop 30).drop 30).drop 30).drop 30).drop 30).drop 30).drop 30).drop 30).drop 30).drop 30).drop 30).drop 30).drop 30).drop 30).drop 30).drop 30).drop 30).drop 30).take 30).all (fun r => j_dk cL_law r && j_ax 13 1 r) = true := by decide +kernel
theorem j_dk_271_34 : (((((((((((((((((((((((((((((((((((k_271).drop 30).drop 30).drop 30).drop 30).drop 30).drop 30).drop 30).drop 30).drop 30).drop 30).drop 30).drop 30).drop 30).drop 30).drop 30).drop 30).drop 30).drop 30).drop 30).drop 30).drop 30).drop 30).drop 30).drop 30).drop 30).drop 30).drop 30).drop 30).drop 30).drop 30).drop 30).drop 30).drop 30).drop 30).all (fun r => j_dk cL_law r && j_ax 13 1 r) = true := by decide +kernel
theorem j_dk_271 : k_271.all (fun r => j_dk cL_law r && j_ax 13 1 r) = true := j_all2 30 j_dk_271_0 (j_all2 30 j_dk_271_1 (j_all2 30 j_dk_271_2 (j_all2 30 j_dk_271_3 (j_all2 30 j_dk_271_4 (j_all2 30 j_dk_271_5 (j_all2 30 j_dk_271_6 (j_all2 30 j_dk_271_7 (j_all2 30 j_dk_271_8 (j_all2 30 j_dk_271_9 (j_all2 30 j_dk_271_10 (j_all2 30 j_dk_271_11 (j_all2 30 j_dk_271_12 (j_all2 30 j_dk_271_13 (j_all2 30 j_dk_271_14 (j_all2 30 j_dk_271_15 (j_all2 30 j_dk_271_16 (j_all2 30 j_dk_271_17 (j_all2 30 j_dk_271_18 (j_all2 30 j_dk_271_19 (j_all2 30 j_dk_271_20 (j_all2 30 j_dk_271_21 (j_all2 30 j_dk_271_22 (j_all2 30 j_dk_271_23 (j_all2 30 j_dk_271_24 (j_all2 30 j_dk_271_25 (j_all2 30 j_dk_271_26 (j_all2 30 j_dk_271_27 (j_all2 30 j_dk_271_28 (j_all2 30 j_dk_271_29 (j_all2 30 j_dk_271_30 (j_all2 30 j_dk_271_31 (j_all2 30 j_dk_271_32 (j_all2 30 j_dk_271_33 (j_dk_271_34))))))))))))))))))))))))))))))))))
theorem j_dk_272 : k_272.all (fun r => j_dk cJ0_charAt_5068e r && j_ax 0 0 r) = true := by decide +kernel
theorem j_dk_274 : k_274.all (fun r => j_dk cJ0_coder_7d493 r && j_ax 0 0 r) = true := by decide +kernel
theorem j_dk_275 : k_275.all (fun r => j_dk cJ0_getBytes_840e7 r && j_ax 0 0 r) = true := by decide +kernel
theorem j_dk_277_0 : ((k_277).take 30).all (fun r => j_dk cJ0_init_db425 r && j_ax 0 2 r) = true := by decide +kernel
theorem j_dk_277_1 : ((k_277).drop 30).all (fun r => j_dk cJ0_init_db425 r && j_ax 0 2 r) = true := by decide +kernel
theorem j_dk_277 : k_277.all (fun r => j_dk cJ0_init_db425 r && j_ax 0 2 r) = true := j_all2 30 j_dk_277_0 (j_dk_277_1)
theorem j_dk_278 : k_278.all (fun r => j_dk cJ0_isLatin1_aae02 r && j_ax 0 0 r) = true := by decide +kernel
theorem j_dk_279 : k_279.all (fun r => j_dk cJ0_length_8abf5 r && j_ax 0 0 r) = true := by decide +kernel
theorem j_dk_280 : k_280.all (fun r => j_dk cJ1_canEncode_fc78d r && j_ax 18 1 r) = true := by decide +kernel
theorem j_dk_281 : k_281.all (fun r => j_dk cJ1_charAt_3b067 r && j_ax 18 1 r) = true := by decide +kernel
theorem j_dk_282 : k_282.all (fun r => j_dk cJ3_checkIndex_8e157 r && j_ax 20 1 r) = true := by decide +kernel
theorem j_dk_283 : k_283.all (fun r => j_dk cJ4_append_15ec4 r && j_ax 1 0 r) = true := by decide +kernel
theorem j_dk_284 : k_284.all (fun r => j_dk cJ4_append_bf812 r && j_ax 1 0 r) = true := by decide +kernel
theorem j_dk_285 : k_285.all (fun r => j_dk cJ4_append_cf468 r && j_ax 1 0 r) = true := by decide +kernel
theorem j_dk_286 : k_286.all (fun r => j_dk cJ4_init_da8c8 r && j_ax 1 2 r) = true := by decide +kernel
theorem j_dk_287 : k_287.all (fun r => j_dk cJ4_length_8abf5 r && j_ax 1 0 r) = true := by decide +kernel
theorem j_dk_288 : k_288.all (fun r => j_dk cJ4_toString_0e30d r && j_ax 1 0 r) = true := by decide +kernel
theorem j_dk_289_0 : ((k_289).take 30).all (fun r => j_dk cJ5_append_3fe6f r && j_ax 16 0 r) = true := by decide +kernel
theorem j_dk_289_1 : ((k_289).drop 30).all (fun r => j_dk cJ5_append_3fe6f r && j_ax 16 0 r) = true := by decide +kernel
theorem j_dk_289 : k_289.all (fun r => j_dk cJ5_append_3fe6f r && j_ax 16 0 r) = true := j_all2 30 j_dk_289_0 (j_dk_289_1)
theorem j_dk_290_0 : ((k_290).take 30).all (fun r => j_dk cJ5_append_c97b9 r && j_ax 16 0 r) = true := by decide +kernel
theorem j_dk_290_1 : ((k_290).drop 30).all (fun r => j_dk cJ5_append_c97b9 r && j_ax 16 0 r) = true := by decide +kernel
theorem j_dk_290 : k_290.all (fun r => j_dk cJ5_append_c97b9 r && j_ax 16 0 r) = true := j_all2 30 j_dk_290_0 (j_dk_290_1)
theorem j_dk_291 : k_291.all (fun r => j_dk cJ5_append_cf1ce r && j_ax 16 0 r) = true := by decide +kernel
theorem j_dk_292 : k_292.all (fun r => j_dk cJ5_ensureCapacityInternal_d00df r && j_ax 16 0 r) = true := by decide +kernel
theorem j_dk_293 : k_293.all (fun r => j_dk cJ5_getValue_6d5f1 r && j_ax 16 0 r) = true := by decide +kernel
theorem j_dk_294 : k_294.all (fun r => j_dk cJ5_inflateIfNeededFor_a7421 r && j_ax 16 0 r) = true := by decide +kernel
theorem j_dk_295 : k_295.all (fun r => j_dk cJ5_init_d00df r && j_ax 16 2 r) = true := by decide +kernel
theorem j_dk_296 : k_296.all (fun r => j_dk cJ5_isLatin1_aae02 r && j_ax 16 0 r) = true := by decide +kernel
theorem j_dk_297 : k_297.all (fun r => j_dk cJ5_length_8abf5 r && j_ax 16 0 r) = true := by decide +kernel
theorem j_dk_298_0 : ((k_298).take 30).all (fun r => j_dk cJ5_newCapacity_0f7a4 r && j_ax 16 0 r) = true := by decide +kernel
theorem j_dk_298_1 : ((k_298).drop 30).all (fun r => j_dk cJ5_newCapacity_0f7a4 r && j_ax 16 0 r) = true := by decide +kernel
theorem j_dk_298 : k_298.all (fun r => j_dk cJ5_newCapacity_0f7a4 r && j_ax 16 0 r) = true := j_all2 30 j_dk_298_0 (j_dk_298_1)
theorem j_dk_299 : k_299.all (fun r => j_dk cJ5_putStringAt_47b60 r && j_ax 16 0 r) = true := by decide +kernel
theorem j_dk_300_0 : ((k_300).take 30).all (fun r => j_dk cJ6_getChars_ba4f3 r && j_ax 17 1 r) = true := by decide +kernel
theorem j_dk_300_1 : (((k_300).drop 30).take 30).all (fun r => j_dk cJ6_getChars_ba4f3 r && j_ax 17 1 r) = true := by decide +kernel
theorem j_dk_300_2 : (((k_300).drop 30).drop 30).all (fun r => j_dk cJ6_getChars_ba4f3 r && j_ax 17 1 r) = true := by decide +kernel
theorem j_dk_300 : k_300.all (fun r => j_dk cJ6_getChars_ba4f3 r && j_ax 17 1 r) = true := j_all2 30 j_dk_300_0 (j_all2 30 j_dk_300_1 (j_dk_300_2))
theorem j_dk_301_0 : ((k_301).take 30).all (fun r => j_dk cJ6_stringSize_0f7a4 r && j_ax 17 1 r) = true := by decide +kernel
theorem j_dk_301_1 : ((k_301).drop 30).all (fun r => j_dk cJ6_stringSize_0f7a4 r && j_ax 17 1 r) = true := by decide +kernel
theorem j_dk_301 : k_301.all (fun r => j_dk cJ6_stringSize_0f7a4 r && j_ax 17 1 r) = true := j_all2 30 j_dk_301_0 (j_dk_301_1)
theorem j_dk_302 : k_302.all (fun r => j_dk cJ7_checkLength_df160 r && j_ax 15 1 r) = true := by decide +kernel
theorem j_dk_303 : k_303.all (fun r => j_dk cJ7_copyOfRangeByte_39247 r && j_ax 15 1 r) = true := by decide +kernel
theorem j_dk_304 : k_304.all (fun r => j_dk cJ7_copyOfRange_39247 r && j_ax 15 1 r) = true := by decide +kernel
theorem j_dk_305 : k_305.all (fun r => j_dk cJ7_copyOf_9075b r && j_ax 15 1 r) = true := by decide +kernel
theorem j_dk_306 : k_306.all (fun r => j_dk cJ8_newLength_cabcc r && j_ax 19 1 r) = true := by decide +kernel
theorem j_dk_307 : k_307.all (fun r => j_dk cJ9_max_7cf53 r && j_ax 14 1 r) = true := by decide +kernel
theorem j_dk_308_0 : ((k_308).take 30).all (fun r => j_dk cL_cell r && j_ax 13 1 r) = true := by decide +kernel
theorem j_dk_308_1 : ((k_308).drop 30).all (fun r => j_dk cL_cell r && j_ax 13 1 r) = true := by decide +kernel
theorem j_dk_308 : k_308.all (fun r => j_dk cL_cell r && j_ax 13 1 r) = true := j_all2 30 j_dk_308_0 (j_dk_308_1)
theorem j_dk_309 : k_309.all (fun r => j_dk cL_feeds r && j_ax 13 1 r) = true := by decide +kernel
/-- the two methods that are told otherwise (each hands on one thing more, that is nothing) -/
def j_spc (y : Nat) : Prop := y = 276 ∨ y = 273
/-- every instruction is decoded so, and its entries are what stands beside it -/
def j_good (y : Nat) : Prop := ∀ (q : j_M) (c : List (Nat × j_I)), j_meth[y]? = some q → j_code[y]? = some c → c.all (fun r => j_dk q.2.1 r && j_ax q.2.2.2.2.1 q.2.2.2.2.2.1 r) = true
theorem j_good_0 : j_good 0 := fun q c h1 h2 => by cases Option.some.inj ((rfl : j_meth[0]? = some _).symm.trans h1); cases Option.some.inj ((rfl : j_code[0]? = some _).symm.trans h2); exact j_dk_0
theorem j_good_1 : j_good 1 := fun q c h1 h2 => by cases Option.some.inj ((rfl : j_meth[1]? = some _).symm.trans h1); cases Option.some.inj ((rfl : j_code[1]? = some _).symm.trans h2); exact j_dk_1
theorem j_good_2 : j_good 2 := fun q c h1 h2 => by cases Option.some.inj ((rfl : j_meth[2]? = some _).symm.trans h1); cases Option.some.inj ((rfl : j_code[2]? = some _).symm.trans h2); exact j_dk_2
theorem j_good_3 : j_good 3 := fun q c h1 h2 => by cases Option.some.inj ((rfl : j_meth[3]? = some _).symm.trans h1); cases Option.some.inj ((rfl : j_code[3]? = some _).symm.trans h2); exact rfl
theorem j_good_4 : j_good 4 := fun q c h1 h2 => by cases Option.some.inj ((rfl : j_meth[4]? = some _).symm.trans h1); cases Option.some.inj ((rfl : j_code[4]? = some _).symm.trans h2); exact j_dk_4
theorem j_good_5 : j_good 5 := fun q c h1 h2 => by cases Option.some.inj ((rfl : j_meth[5]? = some _).symm.trans h1); cases Option.some.inj ((rfl : j_code[5]? = some _).symm.trans h2); exact j_dk_5
theorem j_good_6 : j_good 6 := fun q c h1 h2 => by cases Option.some.inj ((rfl : j_meth[6]? = some _).symm.trans h1); cases Option.some.inj ((rfl : j_code[6]? = some _).symm.trans h2); exact rfl
theorem j_good_7 : j_good 7 := fun q c h1 h2 => by cases Option.some.inj ((rfl : j_meth[7]? = some _).symm.trans h1); cases Option.some.inj ((rfl : j_code[7]? = some _).symm.trans h2); exact j_dk_7
theorem j_good_8 : j_good 8 := fun q c h1 h2 => by cases Option.some.inj ((rfl : j_meth[8]? = some _).symm.trans h1); cases Option.some.inj ((rfl : j_code[8]? = some _).symm.trans h2); exact j_dk_8
theorem j_good_9 : j_good 9 := fun q c h1 h2 => by cases Option.some.inj ((rfl : j_meth[9]? = some _).symm.trans h1); cases Option.some.inj ((rfl : j_code[9]? = some _).symm.trans h2); exact j_dk_9
theorem j_good_10 : j_good 10 := fun q c h1 h2 => by cases Option.some.inj ((rfl : j_meth[10]? = some _).symm.trans h1); cases Option.some.inj ((rfl : j_code[10]? = some _).symm.trans h2); exact j_dk_10
theorem j_good_11 : j_good 11 := fun q c h1 h2 => by cases Option.some.inj ((rfl : j_meth[11]? = some _).symm.trans h1); cases Option.some.inj ((rfl : j_code[11]? = some _).symm.trans h2); exact j_dk_11
theorem j_good_12 : j_good 12 := fun q c h1 h2 => by cases Option.some.inj ((rfl : j_meth[12]? = some _).symm.trans h1); cases Option.some.inj ((rfl : j_code[12]? = some _).symm.trans h2); exact j_dk_12
theorem j_good_13 : j_good 13 := fun q c h1 h2 => by cases Option.some.inj ((rfl : j_meth[13]? = some _).symm.trans h1); cases Option.some.inj ((rfl : j_code[13]? = some _).symm.trans h2); exact j_dk_13
theorem j_good_14 : j_good 14 := fun q c h1 h2 => by cases Option.some.inj ((rfl : j_meth[14]? = some _).symm.trans h1); cases Option.some.inj ((rfl : j_code[14]? = some _).symm.trans h2); exact j_dk_14
theorem j_good_15 : j_good 15 := fun q c h1 h2 => by cases Option.some.inj ((rfl : j_meth[15]? = some _).symm.trans h1); cases Option.some.inj ((rfl : j_code[15]? = some _).symm.trans h2); exact rfl
theorem j_good_16 : j_good 16 := fun q c h1 h2 => by cases Option.some.inj ((rfl : j_meth[16]? = some _).symm.trans h1); cases Option.some.inj ((rfl : j_code[16]? = some _).symm.trans h2); exact j_dk_16
theorem j_good_17 : j_good 17 := fun q c h1 h2 => by cases Option.some.inj ((rfl : j_meth[17]? = some _).symm.trans h1); cases Option.some.inj ((rfl : j_code[17]? = some _).symm.trans h2); exact j_dk_17
theorem j_good_18 : j_good 18 := fun q c h1 h2 => by cases Option.some.inj ((rfl : j_meth[18]? = some _).symm.trans h1); cases Option.some.inj ((rfl : j_code[18]? = some _).symm.trans h2); exact j_dk_18
theorem j_good_19 : j_good 19 := fun q c h1 h2 => by cases Option.some.inj ((rfl : j_meth[19]? = some _).symm.trans h1); cases Option.some.inj ((rfl : j_code[19]? = some _).symm.trans h2); exact j_dk_19
theorem j_good_20 : j_good 20 := fun q c h1 h2 => by cases Option.some.inj ((rfl : j_meth[20]? = some _).symm.trans h1); cases Option.some.inj ((rfl : j_code[20]? = some _).symm.trans h2); exact j_dk_20
theorem j_good_21 : j_good 21 := fun q c h1 h2 => by cases Option.some.inj ((rfl : j_meth[21]? = some _).symm.trans h1); cases Option.some.inj ((rfl : j_code[21]? = some _).symm.trans h2); exact j_dk_21
theorem j_good_22 : j_good 22 := fun q c h1 h2 => by cases Option.some.inj ((rfl : j_meth[22]? = some _).symm.trans h1); cases Option.some.inj ((rfl : j_code[22]? = some _).symm.trans h2); exact j_dk_22
theorem j_good_23 : j_good 23 := fun q c h1 h2 => by cases Option.some.inj ((rfl : j_meth[23]? = some _).symm.trans h1); cases Option.some.inj ((rfl : j_code[23]? = some _).symm.trans h2); exact j_dk_23
theorem j_good_24 : j_good 24 := fun q c h1 h2 => by cases Option.some.inj ((rfl : j_meth[24]? = some _).symm.trans h1); cases Option.some.inj ((rfl : j_code[24]? = some _).symm.trans h2); exact j_dk_24
theorem j_good_25 : j_good 25 := fun q c h1 h2 => by cases Option.some.inj ((rfl : j_meth[25]? = some _).symm.trans h1); cases Option.some.inj ((rfl : j_code[25]? = some _).symm.trans h2); exact j_dk_25
theorem j_good_26 : j_good 26 := fun q c h1 h2 => by cases Option.some.inj ((rfl : j_meth[26]? = some _).symm.trans h1); cases Option.some.inj ((rfl : j_code[26]? = some _).symm.trans h2); exact rfl
theorem j_good_27 : j_good 27 := fun q c h1 h2 => by cases Option.some.inj ((rfl : j_meth[27]? = some _).symm.trans h1); cases Option.some.inj ((rfl : j_code[27]? = some _).symm.trans h2); exact j_dk_27
theorem j_good_28 : j_good 28 := fun q c h1 h2 => by cases Option.some.inj ((rfl : j_meth[28]? = some _).symm.trans h1); cases Option.some.inj ((rfl : j_code[28]? = some _).symm.trans h2); exact j_dk_28
theorem j_good_29 : j_good 29 := fun q c h1 h2 => by cases Option.some.inj ((rfl : j_meth[29]? = some _).symm.trans h1); cases Option.some.inj ((rfl : j_code[29]? = some _).symm.trans h2); exact j_dk_29
theorem j_good_30 : j_good 30 := fun q c h1 h2 => by cases Option.some.inj ((rfl : j_meth[30]? = some _).symm.trans h1); cases Option.some.inj ((rfl : j_code[30]? = some _).symm.trans h2); exact j_dk_30
theorem j_good_31 : j_good 31 := fun q c h1 h2 => by cases Option.some.inj ((rfl : j_meth[31]? = some _).symm.trans h1); cases Option.some.inj ((rfl : j_code[31]? = some _).symm.trans h2); exact j_dk_31
theorem j_good_32 : j_good 32 := fun q c h1 h2 => by cases Option.some.inj ((rfl : j_meth[32]? = some _).symm.trans h1); cases Option.some.inj ((rfl : j_code[32]? = some _).symm.trans h2); exact j_dk_32
theorem j_good_33 : j_good 33 := fun q c h1 h2 => by cases Option.some.inj ((rfl : j_meth[33]? = some _).symm.trans h1); cases Option.some.inj ((rfl : j_code[33]? = some _).symm.trans h2); exact j_dk_33
theorem j_good_34 : j_good 34 := fun q c h1 h2 => by cases Option.some.inj ((rfl : j_meth[34]? = some _).symm.trans h1); cases Option.some.inj ((rfl : j_code[34]? = some _).symm.trans h2); exact j_dk_34
theorem j_good_35 : j_good 35 := fun q c h1 h2 => by cases Option.some.inj ((rfl : j_meth[35]? = some _).symm.trans h1); cases Option.some.inj ((rfl : j_code[35]? = some _).symm.trans h2); exact j_dk_35
theorem j_good_36 : j_good 36 := fun q c h1 h2 => by cases Option.some.inj ((rfl : j_meth[36]? = some _).symm.trans h1); cases Option.some.inj ((rfl : j_code[36]? = some _).symm.trans h2); exact rfl
theorem j_good_37 : j_good 37 := fun q c h1 h2 => by cases Option.some.inj ((rfl : j_meth[37]? = some _).symm.trans h1); cases Option.some.inj ((rfl : j_code[37]? = some _).symm.trans h2); exact j_dk_37
theorem j_good_38 : j_good 38 := fun q c h1 h2 => by cases Option.some.inj ((rfl : j_meth[38]? = some _).symm.trans h1); cases Option.some.inj ((rfl : j_code[38]? = some _).symm.trans h2); exact j_dk_38
theorem j_good_39 : j_good 39 := fun q c h1 h2 => by cases Option.some.inj ((rfl : j_meth[39]? = some _).symm.trans h1); cases Option.some.inj ((rfl : j_code[39]? = some _).symm.trans h2); exact j_dk_39
theorem j_good_40 : j_good 40 := fun q c h1 h2 => by cases Option.some.inj ((rfl : j_meth[40]? = some _).symm.trans h1); cases Option.some.inj ((rfl : j_code[40]? = some _).symm.trans h2); exact rfl
theorem j_good_41 : j_good 41 := fun q c h1 h2 => by cases Option.some.inj ((rfl : j_meth[41]? = some _).symm.trans h1); cases Option.some.inj ((rfl : j_code[41]? = some _).symm.trans h2); exact rfl
theorem j_good_42 : j_good 42 := fun q c h1 h2 => by cases Option.some.inj ((rfl : j_meth[42]? = some _).symm.trans h1); cases Option.some.inj ((rfl : j_code[42]? = some _).symm.trans h2); exact j_dk_42
theorem j_good_43 : j_good 43 := fun q c h1 h2 => by cases Option.some.inj ((rfl : j_meth[43]? = some _).symm.trans h1); cases Option.some.inj ((rfl : j_code[43]? = some _).symm.trans h2); exact j_dk_43
theorem j_good_44 : j_good 44 := fun q c h1 h2 => by cases Option.some.inj ((rfl : j_meth[44]? = some _).symm.trans h1); cases Option.some.inj ((rfl : j_code[44]? = some _).symm.trans h2); exact j_dk_44
theorem j_good_45 : j_good 45 := fun q c h1 h2 => by cases Option.some.inj ((rfl : j_meth[45]? = some _).symm.trans h1); cases Option.some.inj ((rfl : j_code[45]? = some _).symm.trans h2); exact j_dk_45
theorem j_good_46 : j_good 46 := fun q c h1 h2 => by cases Option.some.inj ((rfl : j_meth[46]? = some _).symm.trans h1); cases Option.some.inj ((rfl : j_code[46]? = some _).symm.trans h2); exact j_dk_46
theorem j_good_47 : j_good 47 := fun q c h1 h2 => by cases Option.some.inj ((rfl : j_meth[47]? = some _).symm.trans h1); cases Option.some.inj ((rfl : j_code[47]? = some _).symm.trans h2); exact j_dk_47
theorem j_good_48 : j_good 48 := fun q c h1 h2 => by cases Option.some.inj ((rfl : j_meth[48]? = some _).symm.trans h1); cases Option.some.inj ((rfl : j_code[48]? = some _).symm.trans h2); exact j_dk_48
theorem j_good_49 : j_good 49 := fun q c h1 h2 => by cases Option.some.inj ((rfl : j_meth[49]? = some _).symm.trans h1); cases Option.some.inj ((rfl : j_code[49]? = some _).symm.trans h2); exact j_dk_49
theorem j_good_50 : j_good 50 := fun q c h1 h2 => by cases Option.some.inj ((rfl : j_meth[50]? = some _).symm.trans h1); cases Option.some.inj ((rfl : j_code[50]? = some _).symm.trans h2); exact j_dk_50
theorem j_good_51 : j_good 51 := fun q c h1 h2 => by cases Option.some.inj ((rfl : j_meth[51]? = some _).symm.trans h1); cases Option.some.inj ((rfl : j_code[51]? = some _).symm.trans h2); exact j_dk_51
theorem j_good_52 : j_good 52 := fun q c h1 h2 => by cases Option.some.inj ((rfl : j_meth[52]? = some _).symm.trans h1); cases Option.some.inj ((rfl : j_code[52]? = some _).symm.trans h2); exact j_dk_52
theorem j_good_53 : j_good 53 := fun q c h1 h2 => by cases Option.some.inj ((rfl : j_meth[53]? = some _).symm.trans h1); cases Option.some.inj ((rfl : j_code[53]? = some _).symm.trans h2); exact j_dk_53
theorem j_good_54 : j_good 54 := fun q c h1 h2 => by cases Option.some.inj ((rfl : j_meth[54]? = some _).symm.trans h1); cases Option.some.inj ((rfl : j_code[54]? = some _).symm.trans h2); exact j_dk_54
theorem j_good_55 : j_good 55 := fun q c h1 h2 => by cases Option.some.inj ((rfl : j_meth[55]? = some _).symm.trans h1); cases Option.some.inj ((rfl : j_code[55]? = some _).symm.trans h2); exact rfl
theorem j_good_56 : j_good 56 := fun q c h1 h2 => by cases Option.some.inj ((rfl : j_meth[56]? = some _).symm.trans h1); cases Option.some.inj ((rfl : j_code[56]? = some _).symm.trans h2); exact j_dk_56
theorem j_good_57 : j_good 57 := fun q c h1 h2 => by cases Option.some.inj ((rfl : j_meth[57]? = some _).symm.trans h1); cases Option.some.inj ((rfl : j_code[57]? = some _).symm.trans h2); exact rfl
theorem j_good_58 : j_good 58 := fun q c h1 h2 => by cases Option.some.inj ((rfl : j_meth[58]? = some _).symm.trans h1); cases Option.some.inj ((rfl : j_code[58]? = some _).symm.trans h2); exact rfl
theorem j_good_59 : j_good 59 := fun q c h1 h2 => by cases Option.some.inj ((rfl : j_meth[59]? = some _).symm.trans h1); cases Option.some.inj ((rfl : j_code[59]? = some _).symm.trans h2); exact rfl
theorem j_good_60 : j_good 60 := fun q c h1 h2 => by cases Option.some.inj ((rfl : j_meth[60]? = some _).symm.trans h1); cases Option.some.inj ((rfl : j_code[60]? = some _).symm.trans h2); exact j_dk_60
theorem j_good_61 : j_good 61 := fun q c h1 h2 => by cases Option.some.inj ((rfl : j_meth[61]? = some _).symm.trans h1); cases Option.some.inj ((rfl : j_code[61]? = some _).symm.trans h2); exact j_dk_61
theorem j_good_62 : j_good 62 := fun q c h1 h2 => by cases Option.some.inj ((rfl : j_meth[62]? = some _).symm.trans h1); cases Option.some.inj ((rfl : j_code[62]? = some _).symm.trans h2); exact j_dk_62
theorem j_good_63 : j_good 63 := fun q c h1 h2 => by cases Option.some.inj ((rfl : j_meth[63]? = some _).symm.trans h1); cases Option.some.inj ((rfl : j_code[63]? = some _).symm.trans h2); exact rfl
theorem j_good_64 : j_good 64 := fun q c h1 h2 => by cases Option.some.inj ((rfl : j_meth[64]? = some _).symm.trans h1); cases Option.some.inj ((rfl : j_code[64]? = some _).symm.trans h2); exact j_dk_64
theorem j_good_65 : j_good 65 := fun q c h1 h2 => by cases Option.some.inj ((rfl : j_meth[65]? = some _).symm.trans h1); cases Option.some.inj ((rfl : j_code[65]? = some _).symm.trans h2); exact j_dk_65
theorem j_good_66 : j_good 66 := fun q c h1 h2 => by cases Option.some.inj ((rfl : j_meth[66]? = some _).symm.trans h1); cases Option.some.inj ((rfl : j_code[66]? = some _).symm.trans h2); exact j_dk_66
theorem j_good_67 : j_good 67 := fun q c h1 h2 => by cases Option.some.inj ((rfl : j_meth[67]? = some _).symm.trans h1); cases Option.some.inj ((rfl : j_code[67]? = some _).symm.trans h2); exact j_dk_67
theorem j_good_68 : j_good 68 := fun q c h1 h2 => by cases Option.some.inj ((rfl : j_meth[68]? = some _).symm.trans h1); cases Option.some.inj ((rfl : j_code[68]? = some _).symm.trans h2); exact j_dk_68
theorem j_good_69 : j_good 69 := fun q c h1 h2 => by cases Option.some.inj ((rfl : j_meth[69]? = some _).symm.trans h1); cases Option.some.inj ((rfl : j_code[69]? = some _).symm.trans h2); exact j_dk_69
theorem j_good_70 : j_good 70 := fun q c h1 h2 => by cases Option.some.inj ((rfl : j_meth[70]? = some _).symm.trans h1); cases Option.some.inj ((rfl : j_code[70]? = some _).symm.trans h2); exact j_dk_70
theorem j_good_71 : j_good 71 := fun q c h1 h2 => by cases Option.some.inj ((rfl : j_meth[71]? = some _).symm.trans h1); cases Option.some.inj ((rfl : j_code[71]? = some _).symm.trans h2); exact j_dk_71
theorem j_good_72 : j_good 72 := fun q c h1 h2 => by cases Option.some.inj ((rfl : j_meth[72]? = some _).symm.trans h1); cases Option.some.inj ((rfl : j_code[72]? = some _).symm.trans h2); exact j_dk_72
theorem j_good_73 : j_good 73 := fun q c h1 h2 => by cases Option.some.inj ((rfl : j_meth[73]? = some _).symm.trans h1); cases Option.some.inj ((rfl : j_code[73]? = some _).symm.trans h2); exact j_dk_73
theorem j_good_74 : j_good 74 := fun q c h1 h2 => by cases Option.some.inj ((rfl : j_meth[74]? = some _).symm.trans h1); cases Option.some.inj ((rfl : j_code[74]? = some _).symm.trans h2); exact rfl
theorem j_good_75 : j_good 75 := fun q c h1 h2 => by cases Option.some.inj ((rfl : j_meth[75]? = some _).symm.trans h1); cases Option.some.inj ((rfl : j_code[75]? = some _).symm.trans h2); exact rfl
theorem j_good_76 : j_good 76 := fun q c h1 h2 => by cases Option.some.inj ((rfl : j_meth[76]? = some _).symm.trans h1); cases Option.some.inj ((rfl : j_code[76]? = some _).symm.trans h2); exact rfl
theorem j_good_77 : j_good 77 := fun q c h1 h2 => by cases Option.some.inj ((rfl : j_meth[77]? = some _).symm.trans h1); cases Option.some.inj ((rfl : j_code[77]? = some _).symm.trans h2); exact rfl
theorem j_good_78 : j_good 78 := fun q c h1 h2 => by cases Option.some.inj ((rfl : j_meth[78]? = some _).symm.trans h1); cases Option.some.inj ((rfl : j_code[78]? = some _).symm.trans h2); exact rfl
theorem j_good_79 : j_good 79 := fun q c h1 h2 => by cases Option.some.inj ((rfl : j_meth[79]? = some _).symm.trans h1); cases Option.some.inj ((rfl : j_code[79]? = some _).symm.trans h2); exact rfl
theorem j_good_80 : j_good 80 := fun q c h1 h2 => by cases Option.some.inj ((rfl : j_meth[80]? = some _).symm.trans h1); cases Option.some.inj ((rfl : j_code[80]? = some _).symm.trans h2); exact j_dk_80
theorem j_good_81 : j_good 81 := fun q c h1 h2 => by cases Option.some.inj ((rfl : j_meth[81]? = some _).symm.trans h1); cases Option.some.inj ((rfl : j_code[81]? = some _).symm.trans h2); exact rfl
theorem j_good_82 : j_good 82 := fun q c h1 h2 => by cases Option.some.inj ((rfl : j_meth[82]? = some _).symm.trans h1); cases Option.some.inj ((rfl : j_code[82]? = some _).symm.trans h2); exact rfl
theorem j_good_83 : j_good 83 := fun q c h1 h2 => by cases Option.some.inj ((rfl : j_meth[83]? = some _).symm.trans h1); cases Option.some.inj ((rfl : j_code[83]? = some _).symm.trans h2); exact rfl
theorem j_good_84 : j_good 84 := fun q c h1 h2 => by cases Option.some.inj ((rfl : j_meth[84]? = some _).symm.trans h1); cases Option.some.inj ((rfl : j_code[84]? = some _).symm.trans h2); exact rfl
theorem j_good_85 : j_good 85 := fun q c h1 h2 => by cases Option.some.inj ((rfl : j_meth[85]? = some _).symm.trans h1); cases Option.some.inj ((rfl : j_code[85]? = some _).symm.trans h2); exact rfl
theorem j_good_86 : j_good 86 := fun q c h1 h2 => by cases Option.some.inj ((rfl : j_meth[86]? = some _).symm.trans h1); cases Option.some.inj ((rfl : j_code[86]? = some _).symm.trans h2); exact rfl
theorem j_good_87 : j_good 87 := fun q c h1 h2 => by cases Option.some.inj ((rfl : j_meth[87]? = some _).symm.trans h1); cases Option.some.inj ((rfl : j_code[87]? = some _).symm.trans h2); exact j_dk_87
theorem j_good_88 : j_good 88 := fun q c h1 h2 => by cases Option.some.inj ((rfl : j_meth[88]? = some _).symm.trans h1); cases Option.some.inj ((rfl : j_code[88]? = some _).symm.trans h2); exact j_dk_88
theorem j_good_89 : j_good 89 := fun q c h1 h2 => by cases Option.some.inj ((rfl : j_meth[89]? = some _).symm.trans h1); cases Option.some.inj ((rfl : j_code[89]? = some _).symm.trans h2); exact j_dk_89
theorem j_good_90 : j_good 90 := fun q c h1 h2 => by cases Option.some.inj ((rfl : j_meth[90]? = some _).symm.trans h1); cases Option.some.inj ((rfl : j_code[90]? = some _).symm.trans h2); exact rfl
theorem j_good_91 : j_good 91 := fun q c h1 h2 => by cases Option.some.inj ((rfl : j_meth[91]? = some _).symm.trans h1); cases Option.some.inj ((rfl : j_code[91]? = some _).symm.trans h2); exact j_dk_91
theorem j_good_92 : j_good 92 := fun q c h1 h2 => by cases Option.some.inj ((rfl : j_meth[92]? = some _).symm.trans h1); cases Option.some.inj ((rfl : j_code[92]? = some _).symm.trans h2); exact j_dk_92
theorem j_good_93 : j_good 93 := fun q c h1 h2 => by cases Option.some.inj ((rfl : j_meth[93]? = some _).symm.trans h1); cases Option.some.inj ((rfl : j_code[93]? = some _).symm.trans h2); exact j_dk_93
theorem j_good_94 : j_good 94 := fun q c h1 h2 => by cases Option.some.inj ((rfl : j_meth[94]? = some _).symm.trans h1); cases Option.some.inj ((rfl : j_code[94]? = some _).symm.trans h2); exact j_dk_94
theorem j_good_95 : j_good 95 := fun q c h1 h2 => by cases Option.some.inj ((rfl : j_meth[95]? = some _).symm.trans h1); cases Option.some.inj ((rfl : j_code[95]? = some _).symm.trans h2); exact j_dk_95
theorem j_good_96 : j_good 96 := fun q c h1 h2 => by cases Option.some.inj ((rfl : j_meth[96]? = some _).symm.trans h1); cases Option.some.inj ((rfl : j_code[96]? = some _).symm.trans h2); exact j_dk_96
theorem j_good_97 : j_good 97 := fun q c h1 h2 => by cases Option.some.inj ((rfl : j_meth[97]? = some _).symm.trans h1); cases Option.some.inj ((rfl : j_code[97]? = some _).symm.trans h2); exact j_dk_97
theorem j_good_98 : j_good 98 := fun q c h1 h2 => by cases Option.some.inj ((rfl : j_meth[98]? = some _).symm.trans h1); cases Option.some.inj ((rfl : j_code[98]? = some _).symm.trans h2); exact rfl
theorem j_good_99 : j_good 99 := fun q c h1 h2 => by cases Option.some.inj ((rfl : j_meth[99]? = some _).symm.trans h1); cases Option.some.inj ((rfl : j_code[99]? = some _).symm.trans h2); exact j_dk_99
theorem j_good_100 : j_good 100 := fun q c h1 h2 => by cases Option.some.inj ((rfl : j_meth[100]? = some _).symm.trans h1); cases Option.some.inj ((rfl : j_code[100]? = some _).symm.trans h2); exact rfl
theorem j_good_101 : j_good 101 := fun q c h1 h2 => by cases Option.some.inj ((rfl : j_meth[101]? = some _).symm.trans h1); cases Option.some.inj ((rfl : j_code[101]? = some _).symm.trans h2); exact rfl
theorem j_good_102 : j_good 102 := fun q c h1 h2 => by cases Option.some.inj ((rfl : j_meth[102]? = some _).symm.trans h1); cases Option.some.inj ((rfl : j_code[102]? = some _).symm.trans h2); exact rfl
theorem j_good_103 : j_good 103 := fun q c h1 h2 => by cases Option.some.inj ((rfl : j_meth[103]? = some _).symm.trans h1); cases Option.some.inj ((rfl : j_code[103]? = some _).symm.trans h2); exact rfl
theorem j_good_104 : j_good 104 := fun q c h1 h2 => by cases Option.some.inj ((rfl : j_meth[104]? = some _).symm.trans h1); cases Option.some.inj ((rfl : j_code[104]? = some _).symm.trans h2); exact rfl
theorem j_good_105 : j_good 105 := fun q c h1 h2 => by cases Option.some.inj ((rfl : j_meth[105]? = some _).symm.trans h1); cases Option.some.inj ((rfl : j_code[105]? = some _).symm.trans h2); exact rfl
theorem j_good_106 : j_good 106 := fun q c h1 h2 => by cases Option.some.inj ((rfl : j_meth[106]? = some _).symm.trans h1); cases Option.some.inj ((rfl : j_code[106]? = some _).symm.trans h2); exact rfl
theorem j_good_107 : j_good 107 := fun q c h1 h2 => by cases Option.some.inj ((rfl : j_meth[107]? = some _).symm.trans h1); cases Option.some.inj ((rfl : j_code[107]? = some _).symm.trans h2); exact rfl
theorem j_good_108 : j_good 108 := fun q c h1 h2 => by cases Option.some.inj ((rfl : j_meth[108]? = some _).symm.trans h1); cases Option.some.inj ((rfl : j_code[108]? = some _).symm.trans h2); exact rfl
theorem j_good_109 : j_good 109 := fun q c h1 h2 => by cases Option.some.inj ((rfl : j_meth[109]? = some _).symm.trans h1); cases Option.some.inj ((rfl : j_code[109]? = some _).symm.trans h2); exact rfl
theorem j_good_110 : j_good 110 := fun q c h1 h2 => by cases Option.some.inj ((rfl : j_meth[110]? = some _).symm.trans h1); cases Option.some.inj ((rfl : j_code[110]? = some _).symm.trans h2); exact rfl
theorem j_good_111 : j_good 111 := fun q c h1 h2 => by cases Option.some.inj ((rfl : j_meth[111]? = some _).symm.trans h1); cases Option.some.inj ((rfl : j_code[111]? = some _).symm.trans h2); exact rfl
theorem j_good_112 : j_good 112 := fun q c h1 h2 => by cases Option.some.inj ((rfl : j_meth[112]? = some _).symm.trans h1); cases Option.some.inj ((rfl : j_code[112]? = some _).symm.trans h2); exact rfl
theorem j_good_113 : j_good 113 := fun q c h1 h2 => by cases Option.some.inj ((rfl : j_meth[113]? = some _).symm.trans h1); cases Option.some.inj ((rfl : j_code[113]? = some _).symm.trans h2); exact rfl
theorem j_good_114 : j_good 114 := fun q c h1 h2 => by cases Option.some.inj ((rfl : j_meth[114]? = some _).symm.trans h1); cases Option.some.inj ((rfl : j_code[114]? = some _).symm.trans h2); exact rfl
theorem j_good_115 : j_good 115 := fun q c h1 h2 => by cases Option.some.inj ((rfl : j_meth[115]? = some _).symm.trans h1); cases Option.some.inj ((rfl : j_code[115]? = some _).symm.trans h2); exact j_dk_115
theorem j_good_116 : j_good 116 := fun q c h1 h2 => by cases Option.some.inj ((rfl : j_meth[116]? = some _).symm.trans h1); cases Option.some.inj ((rfl : j_code[116]? = some _).symm.trans h2); exact j_dk_116
theorem j_good_117 : j_good 117 := fun q c h1 h2 => by cases Option.some.inj ((rfl : j_meth[117]? = some _).symm.trans h1); cases Option.some.inj ((rfl : j_code[117]? = some _).symm.trans h2); exact j_dk_117
theorem j_good_118 : j_good 118 := fun q c h1 h2 => by cases Option.some.inj ((rfl : j_meth[118]? = some _).symm.trans h1); cases Option.some.inj ((rfl : j_code[118]? = some _).symm.trans h2); exact rfl
theorem j_good_119 : j_good 119 := fun q c h1 h2 => by cases Option.some.inj ((rfl : j_meth[119]? = some _).symm.trans h1); cases Option.some.inj ((rfl : j_code[119]? = some _).symm.trans h2); exact j_dk_119
theorem j_good_120 : j_good 120 := fun q c h1 h2 => by cases Option.some.inj ((rfl : j_meth[120]? = some _).symm.trans h1); cases Option.some.inj ((rfl : j_code[120]? = some _).symm.trans h2); exact j_dk_120
theorem j_good_121 : j_good 121 := fun q c h1 h2 => by cases Option.some.inj ((rfl : j_meth[121]? = some _).symm.trans h1); cases Option.some.inj ((rfl : j_code[121]? = some _).symm.trans h2); exact j_dk_121
theorem j_good_122 : j_good 122 := fun q c h1 h2 => by cases Option.some.inj ((rfl : j_meth[122]? = some _).symm.trans h1); cases Option.some.inj ((rfl : j_code[122]? = some _).symm.trans h2); exact j_dk_122
theorem j_good_123 : j_good 123 := fun q c h1 h2 => by cases Option.some.inj ((rfl : j_meth[123]? = some _).symm.trans h1); cases Option.some.inj ((rfl : j_code[123]? = some _).symm.trans h2); exact j_dk_123
theorem j_good_124 : j_good 124 := fun q c h1 h2 => by cases Option.some.inj ((rfl : j_meth[124]? = some _).symm.trans h1); cases Option.some.inj ((rfl : j_code[124]? = some _).symm.trans h2); exact j_dk_124
theorem j_good_125 : j_good 125 := fun q c h1 h2 => by cases Option.some.inj ((rfl : j_meth[125]? = some _).symm.trans h1); cases Option.some.inj ((rfl : j_code[125]? = some _).symm.trans h2); exact j_dk_125
theorem j_good_126 : j_good 126 := fun q c h1 h2 => by cases Option.some.inj ((rfl : j_meth[126]? = some _).symm.trans h1); cases Option.some.inj ((rfl : j_code[126]? = some _).symm.trans h2); exact j_dk_126
theorem j_good_127 : j_good 127 := fun q c h1 h2 => by cases Option.some.inj ((rfl : j_meth[127]? = some _).symm.trans h1); cases Option.some.inj ((rfl : j_code[127]? = some _).symm.trans h2); exact rfl
theorem j_good_128 : j_good 128 := fun q c h1 h2 => by cases Option.some.inj ((rfl : j_meth[128]? = some _).symm.trans h1); cases Option.some.inj ((rfl : j_code[128]? = some _).symm.trans h2); exact j_dk_128
theorem j_good_129 : j_good 129 := fun q c h1 h2 => by cases Option.some.inj ((rfl : j_meth[129]? = some _).symm.trans h1); cases Option.some.inj ((rfl : j_code[129]? = some _).symm.trans h2); exact j_dk_129
theorem j_good_130 : j_good 130 := fun q c h1 h2 => by cases Option.some.inj ((rfl : j_meth[130]? = some _).symm.trans h1); cases Option.some.inj ((rfl : j_code[130]? = some _).symm.trans h2); exact j_dk_130
theorem j_good_131 : j_good 131 := fun q c h1 h2 => by cases Option.some.inj ((rfl : j_meth[131]? = some _).symm.trans h1); cases Option.some.inj ((rfl : j_code[131]? = some _).symm.trans h2); exact j_dk_131
theorem j_good_132 : j_good 132 := fun q c h1 h2 => by cases Option.some.inj ((rfl : j_meth[132]? = some _).symm.trans h1); cases Option.some.inj ((rfl : j_code[132]? = some _).symm.trans h2); exact j_dk_132
theorem j_good_133 : j_good 133 := fun q c h1 h2 => by cases Option.some.inj ((rfl : j_meth[133]? = some _).symm.trans h1); cases Option.some.inj ((rfl : j_code[133]? = some _).symm.trans h2); exact rfl
theorem j_good_134 : j_good 134 := fun q c h1 h2 => by cases Option.some.inj ((rfl : j_meth[134]? = some _).symm.trans h1); cases Option.some.inj ((rfl : j_code[134]? = some _).symm.trans h2); exact rfl
theorem j_good_135 : j_good 135 := fun q c h1 h2 => by cases Option.some.inj ((rfl : j_meth[135]? = some _).symm.trans h1); cases Option.some.inj ((rfl : j_code[135]? = some _).symm.trans h2); exact j_dk_135
theorem j_good_136 : j_good 136 := fun q c h1 h2 => by cases Option.some.inj ((rfl : j_meth[136]? = some _).symm.trans h1); cases Option.some.inj ((rfl : j_code[136]? = some _).symm.trans h2); exact j_dk_136
theorem j_good_137 : j_good 137 := fun q c h1 h2 => by cases Option.some.inj ((rfl : j_meth[137]? = some _).symm.trans h1); cases Option.some.inj ((rfl : j_code[137]? = some _).symm.trans h2); exact rfl
theorem j_good_138 : j_good 138 := fun q c h1 h2 => by cases Option.some.inj ((rfl : j_meth[138]? = some _).symm.trans h1); cases Option.some.inj ((rfl : j_code[138]? = some _).symm.trans h2); exact j_dk_138
theorem j_good_139 : j_good 139 := fun q c h1 h2 => by cases Option.some.inj ((rfl : j_meth[139]? = some _).symm.trans h1); cases Option.some.inj ((rfl : j_code[139]? = some _).symm.trans h2); exact j_dk_139
theorem j_good_140 : j_good 140 := fun q c h1 h2 => by cases Option.some.inj ((rfl : j_meth[140]? = some _).symm.trans h1); cases Option.some.inj ((rfl : j_code[140]? = some _).symm.trans h2); exact j_dk_140
theorem j_good_141 : j_good 141 := fun q c h1 h2 => by cases Option.some.inj ((rfl : j_meth[141]? = some _).symm.trans h1); cases Option.some.inj ((rfl : j_code[141]? = some _).symm.trans h2); exact j_dk_141
theorem j_good_142 : j_good 142 := fun q c h1 h2 => by cases Option.some.inj ((rfl : j_meth[142]? = some _).symm.trans h1); cases Option.some.inj ((rfl : j_code[142]? = some _).symm.trans h2); exact j_dk_142
theorem j_good_143 : j_good 143 := fun q c h1 h2 => by cases Option.some.inj ((rfl : j_meth[143]? = some _).symm.trans h1); cases Option.some.inj ((rfl : j_code[143]? = some _).symm.trans h2); exact j_dk_143
theorem j_good_144 : j_good 144 := fun q c h1 h2 => by cases Option.some.inj ((rfl : j_meth[144]? = some _).symm.trans h1); cases Option.some.inj ((rfl : j_code[144]? = some _).symm.trans h2); exact j_dk_144
theorem j_good_145 : j_good 145 := fun q c h1 h2 => by cases Option.some.inj ((rfl : j_meth[145]? = some _).symm.trans h1); cases Option.some.inj ((rfl : j_code[145]? = some _).symm.trans h2); exact j_dk_145
theorem j_good_146 : j_good 146 := fun q c h1 h2 => by cases Option.some.inj ((rfl : j_meth[146]? = some _).symm.trans h1); cases Option.some.inj ((rfl : j_code[146]? = some _).symm.trans h2); exact j_dk_146
theorem j_good_147 : j_good 147 := fun q c h1 h2 => by cases Option.some.inj ((rfl : j_meth[147]? = some _).symm.trans h1); cases Option.some.inj ((rfl : j_code[147]? = some _).symm.trans h2); exact rfl
theorem j_good_148 : j_good 148 := fun q c h1 h2 => by cases Option.some.inj ((rfl : j_meth[148]? = some _).symm.trans h1); cases Option.some.inj ((rfl : j_code[148]? = some _).symm.trans h2); exact rfl
theorem j_good_149 : j_good 149 := fun q c h1 h2 => by cases Option.some.inj ((rfl : j_meth[149]? = some _).symm.trans h1); cases Option.some.inj ((rfl : j_code[149]? = some _).symm.trans h2); exact rfl
theorem j_good_150 : j_good 150 := fun q c h1 h2 => by cases Option.some.inj ((rfl : j_meth[150]? = some _).symm.trans h1); cases Option.some.inj ((rfl : j_code[150]? = some _).symm.trans h2); exact rfl
theorem j_good_151 : j_good 151 := fun q c h1 h2 => by cases Option.some.inj ((rfl : j_meth[151]? = some _).symm.trans h1); cases Option.some.inj ((rfl : j_code[151]? = some _).symm.trans h2); exact rfl
theorem j_good_152 : j_good 152 := fun q c h1 h2 => by cases Option.some.inj ((rfl : j_meth[152]? = some _).symm.trans h1); cases Option.some.inj ((rfl : j_code[152]? = some _).symm.trans h2); exact rfl
theorem j_good_153 : j_good 153 := fun q c h1 h2 => by cases Option.some.inj ((rfl : j_meth[153]? = some _).symm.trans h1); cases Option.some.inj ((rfl : j_code[153]? = some _).symm.trans h2); exact rfl
theorem j_good_154 : j_good 154 := fun q c h1 h2 => by cases Option.some.inj ((rfl : j_meth[154]? = some _).symm.trans h1); cases Option.some.inj ((rfl : j_code[154]? = some _).symm.trans h2); exact rfl
theorem j_good_155 : j_good 155 := fun q c h1 h2 => by cases Option.some.inj ((rfl : j_meth[155]? = some _).symm.trans h1); cases Option.some.inj ((rfl : j_code[155]? = some _).symm.trans h2); exact rfl
theorem j_good_156 : j_good 156 := fun q c h1 h2 => by cases Option.some.inj ((rfl : j_meth[156]? = some _).symm.trans h1); cases Option.some.inj ((rfl : j_code[156]? = some _).symm.trans h2); exact rfl
theorem j_good_157 : j_good 157 := fun q c h1 h2 => by cases Option.some.inj ((rfl : j_meth[157]? = some _).symm.trans h1); cases Option.some.inj ((rfl : j_code[157]? = some _).symm.trans h2); exact rfl
theorem j_good_158 : j_good 158 := fun q c h1 h2 => by cases Option.some.inj ((rfl : j_meth[158]? = some _).symm.trans h1); cases Option.some.inj ((rfl : j_code[158]? = some _).symm.trans h2); exact rfl
theorem j_good_159 : j_good 159 := fun q c h1 h2 => by cases Option.some.inj ((rfl : j_meth[159]? = some _).symm.trans h1); cases Option.some.inj ((rfl : j_code[159]? = some _).symm.trans h2); exact rfl
theorem j_good_160 : j_good 160 := fun q c h1 h2 => by cases Option.some.inj ((rfl : j_meth[160]? = some _).symm.trans h1); cases Option.some.inj ((rfl : j_code[160]? = some _).symm.trans h2); exact rfl
theorem j_good_161 : j_good 161 := fun q c h1 h2 => by cases Option.some.inj ((rfl : j_meth[161]? = some _).symm.trans h1); cases Option.some.inj ((rfl : j_code[161]? = some _).symm.trans h2); exact rfl
theorem j_good_162 : j_good 162 := fun q c h1 h2 => by cases Option.some.inj ((rfl : j_meth[162]? = some _).symm.trans h1); cases Option.some.inj ((rfl : j_code[162]? = some _).symm.trans h2); exact rfl
theorem j_good_163 : j_good 163 := fun q c h1 h2 => by cases Option.some.inj ((rfl : j_meth[163]? = some _).symm.trans h1); cases Option.some.inj ((rfl : j_code[163]? = some _).symm.trans h2); exact rfl
theorem j_good_164 : j_good 164 := fun q c h1 h2 => by cases Option.some.inj ((rfl : j_meth[164]? = some _).symm.trans h1); cases Option.some.inj ((rfl : j_code[164]? = some _).symm.trans h2); exact rfl
theorem j_good_165 : j_good 165 := fun q c h1 h2 => by cases Option.some.inj ((rfl : j_meth[165]? = some _).symm.trans h1); cases Option.some.inj ((rfl : j_code[165]? = some _).symm.trans h2); exact rfl
theorem j_good_166 : j_good 166 := fun q c h1 h2 => by cases Option.some.inj ((rfl : j_meth[166]? = some _).symm.trans h1); cases Option.some.inj ((rfl : j_code[166]? = some _).symm.trans h2); exact rfl
theorem j_good_167 : j_good 167 := fun q c h1 h2 => by cases Option.some.inj ((rfl : j_meth[167]? = some _).symm.trans h1); cases Option.some.inj ((rfl : j_code[167]? = some _).symm.trans h2); exact rfl
theorem j_good_168 : j_good 168 := fun q c h1 h2 => by cases Option.some.inj ((rfl : j_meth[168]? = some _).symm.trans h1); cases Option.some.inj ((rfl : j_code[168]? = some _).symm.trans h2); exact rfl
theorem j_good_169 : j_good 169 := fun q c h1 h2 => by cases Option.some.inj ((rfl : j_meth[169]? = some _).symm.trans h1); cases Option.some.inj ((rfl : j_code[169]? = some _).symm.trans h2); exact rfl
theorem j_good_170 : j_good 170 := fun q c h1 h2 => by cases Option.some.inj ((rfl : j_meth[170]? = some _).symm.trans h1); cases Option.some.inj ((rfl : j_code[170]? = some _).symm.trans h2); exact rfl
theorem j_good_171 : j_good 171 := fun q c h1 h2 => by cases Option.some.inj ((rfl : j_meth[171]? = some _).symm.trans h1); cases Option.some.inj ((rfl : j_code[171]? = some _).symm.trans h2); exact rfl
theorem j_good_172 : j_good 172 := fun q c h1 h2 => by cases Option.some.inj ((rfl : j_meth[172]? = some _).symm.trans h1); cases Option.some.inj ((rfl : j_code[172]? = some _).symm.trans h2); exact rfl
theorem j_good_173 : j_good 173 := fun q c h1 h2 => by cases Option.some.inj ((rfl : j_meth[173]? = some _).symm.trans h1); cases Option.some.inj ((rfl : j_code[173]? = some _).symm.trans h2); exact rfl
theorem j_good_174 : j_good 174 := fun q c h1 h2 => by cases Option.some.inj ((rfl : j_meth[174]? = some _).symm.trans h1); cases Option.some.inj ((rfl : j_code[174]? = some _).symm.trans h2); exact rfl
theorem j_good_175 : j_good 175 := fun q c h1 h2 => by cases Option.some.inj ((rfl : j_meth[175]? = some _).symm.trans h1); cases Option.some.inj ((rfl : j_code[175]? = some _).symm.trans h2); exact rfl
theorem j_good_176 : j_good 176 := fun q c h1 h2 => by cases Option.some.inj ((rfl : j_meth[176]? = some _).symm.trans h1); cases Option.some.inj ((rfl : j_code[176]? = some _).symm.trans h2); exact rfl
theorem j_good_177 : j_good 177 := fun q c h1 h2 => by cases Option.some.inj ((rfl : j_meth[177]? = some _).symm.trans h1); cases Option.some.inj ((rfl : j_code[177]? = some _).symm.trans h2); exact rfl
theorem j_good_178 : j_good 178 := fun q c h1 h2 => by cases Option.some.inj ((rfl : j_meth[178]? = some _).symm.trans h1); cases Option.some.inj ((rfl : j_code[178]? = some _).symm.trans h2); exact rfl
theorem j_good_179 : j_good 179 := fun q c h1 h2 => by cases Option.some.inj ((rfl : j_meth[179]? = some _).symm.trans h1); cases Option.some.inj ((rfl : j_code[179]? = some _).symm.trans h2); exact rfl
theorem j_good_180 : j_good 180 := fun q c h1 h2 => by cases Option.some.inj ((rfl : j_meth[180]? = some _).symm.trans h1); cases Option.some.inj ((rfl : j_code[180]? = some _).symm.trans h2); exact rfl
theorem j_good_181 : j_good 181 := fun q c h1 h2 => by cases Option.some.inj ((rfl : j_meth[181]? = some _).symm.trans h1); cases Option.some.inj ((rfl : j_code[181]? = some _).symm.trans h2); exact rfl
theorem j_good_182 : j_good 182 := fun q c h1 h2 => by cases Option.some.inj ((rfl : j_meth[182]? = some _).symm.trans h1); cases Option.some.inj ((rfl : j_code[182]? = some _).symm.trans h2); exact rfl
theorem j_good_183 : j_good 183 := fun q c h1 h2 => by cases Option.some.inj ((rfl : j_meth[183]? = some _).symm.trans h1); cases Option.some.inj ((rfl : j_code[183]? = some _).symm.trans h2); exact rfl
theorem j_good_184 : j_good 184 := fun q c h1 h2 => by cases Option.some.inj ((rfl : j_meth[184]? = some _).symm.trans h1); cases Option.some.inj ((rfl : j_code[184]? = some _).symm.trans h2); exact rfl
theorem j_good_185 : j_good 185 := fun q c h1 h2 => by cases Option.some.inj ((rfl : j_meth[185]? = some _).symm.trans h1); cases Option.some.inj ((rfl : j_code[185]? = some _).symm.trans h2); exact rfl
theorem j_good_186 : j_good 186 := fun q c h1 h2 => by cases Option.some.inj ((rfl : j_meth[186]? = some _).symm.trans h1); cases Option.some.inj ((rfl : j_code[186]? = some _).symm.trans h2); exact rfl
theorem j_good_187 : j_good 187 := fun q c h1 h2 => by cases Option.some.inj ((rfl : j_meth[187]? = some _).symm.trans h1); cases Option.some.inj ((rfl : j_code[187]? = some _).symm.trans h2); exact rfl
theorem j_good_188 : j_good 188 := fun q c h1 h2 => by cases Option.some.inj ((rfl : j_meth[188]? = some _).symm.trans h1); cases Option.some.inj ((rfl : j_code[188]? = some _).symm.trans h2); exact rfl
theorem j_good_189 : j_good 189 := fun q c h1 h2 => by cases Option.some.inj ((rfl : j_meth[189]? = some _).symm.trans h1); cases Option.some.inj ((rfl : j_code[189]? = some _).symm.trans h2); exact rfl
theorem j_good_190 : j_good 190 := fun q c h1 h2 => by cases Option.some.inj ((rfl : j_meth[190]? = some _).symm.trans h1); cases Option.some.inj ((rfl : j_code[190]? = some _).symm.trans h2); exact rfl
theorem j_good_191 : j_good 191 := fun q c h1 h2 => by cases Option.some.inj ((rfl : j_meth[191]? = some _).symm.trans h1); cases Option.some.inj ((rfl : j_code[191]? = some _).symm.trans h2); exact rfl
theorem j_good_192 : j_good 192 := fun q c h1 h2 => by cases Option.some.inj ((rfl : j_meth[192]? = some _).symm.trans h1); cases Option.some.inj ((rfl : j_code[192]? = some _).symm.trans h2); exact rfl
theorem j_good_193 : j_good 193 := fun q c h1 h2 => by cases Option.some.inj ((rfl : j_meth[193]? = some _).symm.trans h1); cases Option.some.inj ((rfl : j_code[193]? = some _).symm.trans h2); exact rfl
theorem j_good_194 : j_good 194 := fun q c h1 h2 => by cases Option.some.inj ((rfl : j_meth[194]? = some _).symm.trans h1); cases Option.some.inj ((rfl : j_code[194]? = some _).symm.trans h2); exact rfl
theorem j_good_195 : j_good 195 := fun q c h1 h2 => by cases Option.some.inj ((rfl : j_meth[195]? = some _).symm.trans h1); cases Option.some.inj ((rfl : j_code[195]? = some _).symm.trans h2); exact rfl
theorem j_good_196 : j_good 196 := fun q c h1 h2 => by cases Option.some.inj ((rfl : j_meth[196]? = some _).symm.trans h1); cases Option.some.inj ((rfl : j_code[196]? = some _).symm.trans h2); exact rfl
theorem j_good_197 : j_good 197 := fun q c h1 h2 => by cases Option.some.inj ((rfl : j_meth[197]? = some _).symm.trans h1); cases Option.some.inj ((rfl : j_code[197]? = some _).symm.trans h2); exact rfl
theorem j_good_198 : j_good 198 := fun q c h1 h2 => by cases Option.some.inj ((rfl : j_meth[198]? = some _).symm.trans h1); cases Option.some.inj ((rfl : j_code[198]? = some _).symm.trans h2); exact rfl
theorem j_good_199 : j_good 199 := fun q c h1 h2 => by cases Option.some.inj ((rfl : j_meth[199]? = some _).symm.trans h1); cases Option.some.inj ((rfl : j_code[199]? = some _).symm.trans h2); exact rfl
theorem j_good_200 : j_good 200 := fun q c h1 h2 => by cases Option.some.inj ((rfl : j_meth[200]? = some _).symm.trans h1); cases Option.some.inj ((rfl : j_code[200]? = some _).symm.trans h2); exact rfl
theorem j_good_201 : j_good 201 := fun q c h1 h2 => by cases Option.some.inj ((rfl : j_meth[201]? = some _).symm.trans h1); cases Option.some.inj ((rfl : j_code[201]? = some _).symm.trans h2); exact rfl
theorem j_good_202 : j_good 202 := fun q c h1 h2 => by cases Option.some.inj ((rfl : j_meth[202]? = some _).symm.trans h1); cases Option.some.inj ((rfl : j_code[202]? = some _).symm.trans h2); exact rfl
theorem j_good_203 : j_good 203 := fun q c h1 h2 => by cases Option.some.inj ((rfl : j_meth[203]? = some _).symm.trans h1); cases Option.some.inj ((rfl : j_code[203]? = some _).symm.trans h2); exact rfl
theorem j_good_204 : j_good 204 := fun q c h1 h2 => by cases Option.some.inj ((rfl : j_meth[204]? = some _).symm.trans h1); cases Option.some.inj ((rfl : j_code[204]? = some _).symm.trans h2); exact rfl
theorem j_good_205 : j_good 205 := fun q c h1 h2 => by cases Option.some.inj ((rfl : j_meth[205]? = some _).symm.trans h1); cases Option.some.inj ((rfl : j_code[205]? = some _).symm.trans h2); exact rfl
theorem j_good_206 : j_good 206 := fun q c h1 h2 => by cases Option.some.inj ((rfl : j_meth[206]? = some _).symm.trans h1); cases Option.some.inj ((rfl : j_code[206]? = some _).symm.trans h2); exact rfl
theorem j_good_207 : j_good 207 := fun q c h1 h2 => by cases Option.some.inj ((rfl : j_meth[207]? = some _).symm.trans h1); cases Option.some.inj ((rfl : j_code[207]? = some _).symm.trans h2); exact rfl
theorem j_good_208 : j_good 208 := fun q c h1 h2 => by cases Option.some.inj ((rfl : j_meth[208]? = some _).symm.trans h1); cases Option.some.inj ((rfl : j_code[208]? = some _).symm.trans h2); exact rfl
theorem j_good_209 : j_good 209 := fun q c h1 h2 => by cases Option.some.inj ((rfl : j_meth[209]? = some _).symm.trans h1); cases Option.some.inj ((rfl : j_code[209]? = some _).symm.trans h2); exact rfl
theorem j_good_210 : j_good 210 := fun q c h1 h2 => by cases Option.some.inj ((rfl : j_meth[210]? = some _).symm.trans h1); cases Option.some.inj ((rfl : j_code[210]? = some _).symm.trans h2); exact rfl
theorem j_good_211 : j_good 211 := fun q c h1 h2 => by cases Option.some.inj ((rfl : j_meth[211]? = some _).symm.trans h1); cases Option.some.inj ((rfl : j_code[211]? = some _).symm.trans h2); exact rfl
theorem j_good_212 : j_good 212 := fun q c h1 h2 => by cases Option.some.inj ((rfl : j_meth[212]? = some _).symm.trans h1); cases Option.some.inj ((rfl : j_code[212]? = some _).symm.trans h2); exact rfl
theorem j_good_213 : j_good 213 := fun q c h1 h2 => by cases Option.some.inj ((rfl : j_meth[213]? = some _).symm.trans h1); cases Option.some.inj ((rfl : j_code[213]? = some _).symm.trans h2); exact rfl
theorem j_good_214 : j_good 214 := fun q c h1 h2 => by cases Option.some.inj ((rfl : j_meth[214]? = some _).symm.trans h1); cases Option.some.inj ((rfl : j_code[214]? = some _).symm.trans h2); exact rfl
theorem j_good_215 : j_good 215 := fun q c h1 h2 => by cases Option.some.inj ((rfl : j_meth[215]? = some _).symm.trans h1); cases Option.some.inj ((rfl : j_code[215]? = some _).symm.trans h2); exact rfl
theorem j_good_216 : j_good 216 := fun q c h1 h2 => by cases Option.some.inj ((rfl : j_meth[216]? = some _).symm.trans h1); cases Option.some.inj ((rfl : j_code[216]? = some _).symm.trans h2); exact rfl
theorem j_good_217 : j_good 217 := fun q c h1 h2 => by cases Option.some.inj ((rfl : j_meth[217]? = some _).symm.trans h1); cases Option.some.inj ((rfl : j_code[217]? = some _).symm.trans h2); exact rfl
theorem j_good_218 : j_good 218 := fun q c h1 h2 => by cases Option.some.inj ((rfl : j_meth[218]? = some _).symm.trans h1); cases Option.some.inj ((rfl : j_code[218]? = some _).symm.trans h2); exact rfl
theorem j_good_219 : j_good 219 := fun q c h1 h2 => by cases Option.some.inj ((rfl : j_meth[219]? = some _).symm.trans h1); cases Option.some.inj ((rfl : j_code[219]? = some _).symm.trans h2); exact rfl
theorem j_good_220 : j_good 220 := fun q c h1 h2 => by cases Option.some.inj ((rfl : j_meth[220]? = some _).symm.trans h1); cases Option.some.inj ((rfl : j_code[220]? = some _).symm.trans h2); exact rfl
theorem j_good_221 : j_good 221 := fun q c h1 h2 => by cases Option.some.inj ((rfl : j_meth[221]? = some _).symm.trans h1); cases Option.some.inj ((rfl : j_code[221]? = some _).symm.trans h2); exact rfl
theorem j_good_222 : j_good 222 := fun q c h1 h2 => by cases Option.some.inj ((rfl : j_meth[222]? = some _).symm.trans h1); cases Option.some.inj ((rfl : j_code[222]? = some _).symm.trans h2); exact rfl
theorem j_good_223 : j_good 223 := fun q c h1 h2 => by cases Option.some.inj ((rfl : j_meth[223]? = some _).symm.trans h1); cases Option.some.inj ((rfl : j_code[223]? = some _).symm.trans h2); exact rfl
theorem j_good_224 : j_good 224 := fun q c h1 h2 => by cases Option.some.inj ((rfl : j_meth[224]? = some _).symm.trans h1); cases Option.some.inj ((rfl : j_code[224]? = some _).symm.trans h2); exact rfl
theorem j_good_225 : j_good 225 := fun q c h1 h2 => by cases Option.some.inj ((rfl : j_meth[225]? = some _).symm.trans h1); cases Option.some.inj ((rfl : j_code[225]? = some _).symm.trans h2); exact rfl
theorem j_good_226 : j_good 226 := fun q c h1 h2 => by cases Option.some.inj ((rfl : j_meth[226]? = some _).symm.trans h1); cases Option.some.inj ((rfl : j_code[226]? = some _).symm.trans h2); exact rfl
theorem j_good_227 : j_good 227 := fun q c h1 h2 => by cases Option.some.inj ((rfl : j_meth[227]? = some _).symm.trans h1); cases Option.some.inj ((rfl : j_code[227]? = some _).symm.trans h2); exact rfl
theorem j_good_228 : j_good 228 := fun q c h1 h2 => by cases Option.some.inj ((rfl : j_meth[228]? = some _).symm.trans h1); cases Option.some.inj ((rfl : j_code[228]? = some _).symm.trans h2); exact rfl
theorem j_good_229 : j_good 229 := fun q c h1 h2 => by cases Option.some.inj ((rfl : j_meth[229]? = some _).symm.trans h1); cases Option.some.inj ((rfl : j_code[229]? = some _).symm.trans h2); exact rfl
theorem j_good_230 : j_good 230 := fun q c h1 h2 => by cases Option.some.inj ((rfl : j_meth[230]? = some _).symm.trans h1); cases Option.some.inj ((rfl : j_code[230]? = some _).symm.trans h2); exact rfl
theorem j_good_231 : j_good 231 := fun q c h1 h2 => by cases Option.some.inj ((rfl : j_meth[231]? = some _).symm.trans h1); cases Option.some.inj ((rfl : j_code[231]? = some _).symm.trans h2); exact rfl
theorem j_good_232 : j_good 232 := fun q c h1 h2 => by cases Option.some.inj ((rfl : j_meth[232]? = some _).symm.trans h1); cases Option.some.inj ((rfl : j_code[232]? = some _).symm.trans h2); exact rfl
theorem j_good_233 : j_good 233 := fun q c h1 h2 => by cases Option.some.inj ((rfl : j_meth[233]? = some _).symm.trans h1); cases Option.some.inj ((rfl : j_code[233]? = some _).symm.trans h2); exact rfl
theorem j_good_234 : j_good 234 := fun q c h1 h2 => by cases Option.some.inj ((rfl : j_meth[234]? = some _).symm.trans h1); cases Option.some.inj ((rfl : j_code[234]? = some _).symm.trans h2); exact rfl
theorem j_good_235 : j_good 235 := fun q c h1 h2 => by cases Option.some.inj ((rfl : j_meth[235]? = some _).symm.trans h1); cases Option.some.inj ((rfl : j_code[235]? = some _).symm.trans h2); exact rfl
theorem j_good_236 : j_good 236 := fun q c h1 h2 => by cases Option.some.inj ((rfl : j_meth[236]? = some _).symm.trans h1); cases Option.some.inj ((rfl : j_code[236]? = some _).symm.trans h2); exact rfl
theorem j_good_237 : j_good 237 := fun q c h1 h2 => by cases Option.some.inj ((rfl : j_meth[237]? = some _).symm.trans h1); cases Option.some.inj ((rfl : j_code[237]? = some _).symm.trans h2); exact rfl
theorem j_good_238 : j_good 238 := fun q c h1 h2 => by cases Option.some.inj ((rfl : j_meth[238]? = some _).symm.trans h1); cases Option.some.inj ((rfl : j_code[238]? = some _).symm.trans h2); exact rfl
theorem j_good_239 : j_good 239 := fun q c h1 h2 => by cases Option.some.inj ((rfl : j_meth[239]? = some _).symm.trans h1); cases Option.some.inj ((rfl : j_code[239]? = some _).symm.trans h2); exact rfl
theorem j_good_240 : j_good 240 := fun q c h1 h2 => by cases Option.some.inj ((rfl : j_meth[240]? = some _).symm.trans h1); cases Option.some.inj ((rfl : j_code[240]? = some _).symm.trans h2); exact rfl
theorem j_good_241 : j_good 241 := fun q c h1 h2 => by cases Option.some.inj ((rfl : j_meth[241]? = some _).symm.trans h1); cases Option.some.inj ((rfl : j_code[241]? = some _).symm.trans h2); exact rfl
theorem j_good_242 : j_good 242 := fun q c h1 h2 => by cases Option.some.inj ((rfl : j_meth[242]? = some _).symm.trans h1); cases Option.some.inj ((rfl : j_code[242]? = some _).symm.trans h2); exact rfl
theorem j_good_243 : j_good 243 := fun q c h1 h2 => by cases Option.some.inj ((rfl : j_meth[243]? = some _).symm.trans h1); cases Option.some.inj ((rfl : j_code[243]? = some _).symm.trans h2); exact rfl
theorem j_good_244 : j_good 244 := fun q c h1 h2 => by cases Option.some.inj ((rfl : j_meth[244]? = some _).symm.trans h1); cases Option.some.inj ((rfl : j_code[244]? = some _).symm.trans h2); exact rfl
theorem j_good_245 : j_good 245 := fun q c h1 h2 => by cases Option.some.inj ((rfl : j_meth[245]? = some _).symm.trans h1); cases Option.some.inj ((rfl : j_code[245]? = some _).symm.trans h2); exact rfl
theorem j_good_246 : j_good 246 := fun q c h1 h2 => by cases Option.some.inj ((rfl : j_meth[246]? = some _).symm.trans h1); cases Option.some.inj ((rfl : j_code[246]? = some _).symm.trans h2); exact rfl
theorem j_good_247 : j_good 247 := fun q c h1 h2 => by cases Option.some.inj ((rfl : j_meth[247]? = some _).symm.trans h1); cases Option.some.inj ((rfl : j_code[247]? = some _).symm.trans h2); exact rfl
theorem j_good_248 : j_good 248 := fun q c h1 h2 => by cases Option.some.inj ((rfl : j_meth[248]? = some _).symm.trans h1); cases Option.some.inj ((rfl : j_code[248]? = some _).symm.trans h2); exact rfl
theorem j_good_249 : j_good 249 := fun q c h1 h2 => by cases Option.some.inj ((rfl : j_meth[249]? = some _).symm.trans h1); cases Option.some.inj ((rfl : j_code[249]? = some _).symm.trans h2); exact rfl
theorem j_good_250 : j_good 250 := fun q c h1 h2 => by cases Option.some.inj ((rfl : j_meth[250]? = some _).symm.trans h1); cases Option.some.inj ((rfl : j_code[250]? = some _).symm.trans h2); exact rfl
theorem j_good_251 : j_good 251 := fun q c h1 h2 => by cases Option.some.inj ((rfl : j_meth[251]? = some _).symm.trans h1); cases Option.some.inj ((rfl : j_code[251]? = some _).symm.trans h2); exact rfl
theorem j_good_252 : j_good 252 := fun q c h1 h2 => by cases Option.some.inj ((rfl : j_meth[252]? = some _).symm.trans h1); cases Option.some.inj ((rfl : j_code[252]? = some _).symm.trans h2); exact rfl
theorem j_good_253 : j_good 253 := fun q c h1 h2 => by cases Option.some.inj ((rfl : j_meth[253]? = some _).symm.trans h1); cases Option.some.inj ((rfl : j_code[253]? = some _).symm.trans h2); exact rfl
theorem j_good_254 : j_good 254 := fun q c h1 h2 => by cases Option.some.inj ((rfl : j_meth[254]? = some _).symm.trans h1); cases Option.some.inj ((rfl : j_code[254]? = some _).symm.trans h2); exact rfl
theorem j_good_255 : j_good 255 := fun q c h1 h2 => by cases Option.some.inj ((rfl : j_meth[255]? = some _).symm.trans h1); cases Option.some.inj ((rfl : j_code[255]? = some _).symm.trans h2); exact rfl
theorem j_good_256 : j_good 256 := fun q c h1 h2 => by cases Option.some.inj ((rfl : j_meth[256]? = some _).symm.trans h1); cases Option.some.inj ((rfl : j_code[256]? = some _).symm.trans h2); exact rfl
theorem j_good_257 : j_good 257 := fun q c h1 h2 => by cases Option.some.inj ((rfl : j_meth[257]? = some _).symm.trans h1); cases Option.some.inj ((rfl : j_code[257]? = some _).symm.trans h2); exact rfl
theorem j_good_258 : j_good 258 := fun q c h1 h2 => by cases Option.some.inj ((rfl : j_meth[258]? = some _).symm.trans h1); cases Option.some.inj ((rfl : j_code[258]? = some _).symm.trans h2); exact rfl
theorem j_good_259 : j_good 259 := fun q c h1 h2 => by cases Option.some.inj ((rfl : j_meth[259]? = some _).symm.trans h1); cases Option.some.inj ((rfl : j_code[259]? = some _).symm.trans h2); exact rfl
theorem j_good_260 : j_good 260 := fun q c h1 h2 => by cases Option.some.inj ((rfl : j_meth[260]? = some _).symm.trans h1); cases Option.some.inj ((rfl : j_code[260]? = some _).symm.trans h2); exact rfl
theorem j_good_261 : j_good 261 := fun q c h1 h2 => by cases Option.some.inj ((rfl : j_meth[261]? = some _).symm.trans h1); cases Option.some.inj ((rfl : j_code[261]? = some _).symm.trans h2); exact rfl
theorem j_good_262 : j_good 262 := fun q c h1 h2 => by cases Option.some.inj ((rfl : j_meth[262]? = some _).symm.trans h1); cases Option.some.inj ((rfl : j_code[262]? = some _).symm.trans h2); exact rfl
theorem j_good_263 : j_good 263 := fun q c h1 h2 => by cases Option.some.inj ((rfl : j_meth[263]? = some _).symm.trans h1); cases Option.some.inj ((rfl : j_code[263]? = some _).symm.trans h2); exact rfl
theorem j_good_264 : j_good 264 := fun q c h1 h2 => by cases Option.some.inj ((rfl : j_meth[264]? = some _).symm.trans h1); cases Option.some.inj ((rfl : j_code[264]? = some _).symm.trans h2); exact rfl
theorem j_good_265 : j_good 265 := fun q c h1 h2 => by cases Option.some.inj ((rfl : j_meth[265]? = some _).symm.trans h1); cases Option.some.inj ((rfl : j_code[265]? = some _).symm.trans h2); exact j_dk_265
theorem j_good_266 : j_good 266 := fun q c h1 h2 => by cases Option.some.inj ((rfl : j_meth[266]? = some _).symm.trans h1); cases Option.some.inj ((rfl : j_code[266]? = some _).symm.trans h2); exact j_dk_266
theorem j_good_267 : j_good 267 := fun q c h1 h2 => by cases Option.some.inj ((rfl : j_meth[267]? = some _).symm.trans h1); cases Option.some.inj ((rfl : j_code[267]? = some _).symm.trans h2); exact j_dk_267
theorem j_good_268 : j_good 268 := fun q c h1 h2 => by cases Option.some.inj ((rfl : j_meth[268]? = some _).symm.trans h1); cases Option.some.inj ((rfl : j_code[268]? = some _).symm.trans h2); exact j_dk_268
theorem j_good_269 : j_good 269 := fun q c h1 h2 => by cases Option.some.inj ((rfl : j_meth[269]? = some _).symm.trans h1); cases Option.some.inj ((rfl : j_code[269]? = some _).symm.trans h2); exact j_dk_269
theorem j_good_270 : j_good 270 := fun q c h1 h2 => by cases Option.some.inj ((rfl : j_meth[270]? = some _).symm.trans h1); cases Option.some.inj ((rfl : j_code[270]? = some _).symm.trans h2); exact j_dk_270
theorem j_good_271 : j_good 271 := fun q c h1 h2 => by cases Option.some.inj ((rfl : j_meth[271]? = some _).symm.trans h1); cases Option.some.inj ((rfl : j_code[271]? = some _).symm.trans h2); exact j_dk_271
theorem j_good_272 : j_good 272 := fun q c h1 h2 => by cases Option.some.inj ((rfl : j_meth[272]? = some _).symm.trans h1); cases Option.some.inj ((rfl : j_code[272]? = some _).symm.trans h2); exact j_dk_272
theorem j_good_274 : j_good 274 := fun q c h1 h2 => by cases Option.some.inj ((rfl : j_meth[274]? = some _).symm.trans h1); cases Option.some.inj ((rfl : j_code[274]? = some _).symm.trans h2); exact j_dk_274
theorem j_good_275 : j_good 275 := fun q c h1 h2 => by cases Option.some.inj ((rfl : j_meth[275]? = some _).symm.trans h1); cases Option.some.inj ((rfl : j_code[275]? = some _).symm.trans h2); exact j_dk_275
theorem j_good_277 : j_good 277 := fun q c h1 h2 => by cases Option.some.inj ((rfl : j_meth[277]? = some _).symm.trans h1); cases Option.some.inj ((rfl : j_code[277]? = some _).symm.trans h2); exact j_dk_277
theorem j_good_278 : j_good 278 := fun q c h1 h2 => by cases Option.some.inj ((rfl : j_meth[278]? = some _).symm.trans h1); cases Option.some.inj ((rfl : j_code[278]? = some _).symm.trans h2); exact j_dk_278
theorem j_good_279 : j_good 279 := fun q c h1 h2 => by cases Option.some.inj ((rfl : j_meth[279]? = some _).symm.trans h1); cases Option.some.inj ((rfl : j_code[279]? = some _).symm.trans h2); exact j_dk_279
theorem j_good_280 : j_good 280 := fun q c h1 h2 => by cases Option.some.inj ((rfl : j_meth[280]? = some _).symm.trans h1); cases Option.some.inj ((rfl : j_code[280]? = some _).symm.trans h2); exact j_dk_280
theorem j_good_281 : j_good 281 := fun q c h1 h2 => by cases Option.some.inj ((rfl : j_meth[281]? = some _).symm.trans h1); cases Option.some.inj ((rfl : j_code[281]? = some _).symm.trans h2); exact j_dk_281
theorem j_good_282 : j_good 282 := fun q c h1 h2 => by cases Option.some.inj ((rfl : j_meth[282]? = some _).symm.trans h1); cases Option.some.inj ((rfl : j_code[282]? = some _).symm.trans h2); exact j_dk_282
theorem j_good_283 : j_good 283 := fun q c h1 h2 => by cases Option.some.inj ((rfl : j_meth[283]? = some _).symm.trans h1); cases Option.some.inj ((rfl : j_code[283]? = some _).symm.trans h2); exact j_dk_283
theorem j_good_284 : j_good 284 := fun q c h1 h2 => by cases Option.some.inj ((rfl : j_meth[284]? = some _).symm.trans h1); cases Option.some.inj ((rfl : j_code[284]? = some _).symm.trans h2); exact j_dk_284
theorem j_good_285 : j_good 285 := fun q c h1 h2 => by cases Option.some.inj ((rfl : j_meth[285]? = some _).symm.trans h1); cases Option.some.inj ((rfl : j_code[285]? = some _).symm.trans h2); exact j_dk_285
theorem j_good_286 : j_good 286 := fun q c h1 h2 => by cases Option.some.inj ((rfl : j_meth[286]? = some _).symm.trans h1); cases Option.some.inj ((rfl : j_code[286]? = some _).symm.trans h2); exact j_dk_286
theorem j_good_287 : j_good 287 := fun q c h1 h2 => by cases Option.some.inj ((rfl : j_meth[287]? = some _).symm.trans h1); cases Option.some.inj ((rfl : j_code[287]? = some _).symm.trans h2); exact j_dk_287
theorem j_good_288 : j_good 288 := fun q c h1 h2 => by cases Option.some.inj ((rfl : j_meth[288]? = some _).symm.trans h1); cases Option.some.inj ((rfl : j_code[288]? = some _).symm.trans h2); exact j_dk_288
theorem j_good_289 : j_good 289 := fun q c h1 h2 => by cases Option.some.inj ((rfl : j_meth[289]? = some _).symm.trans h1); cases Option.some.inj ((rfl : j_code[289]? = some _).symm.trans h2); exact j_dk_289
theorem j_good_290 : j_good 290 := fun q c h1 h2 => by cases Option.some.inj ((rfl : j_meth[290]? = some _).symm.trans h1); cases Option.some.inj ((rfl : j_code[290]? = some _).symm.trans h2); exact j_dk_290
theorem j_good_291 : j_good 291 := fun q c h1 h2 => by cases Option.some.inj ((rfl : j_meth[291]? = some _).symm.trans h1); cases Option.some.inj ((rfl : j_code[291]? = some _).symm.trans h2); exact j_dk_291
theorem j_good_292 : j_good 292 := fun q c h1 h2 => by cases Option.some.inj ((rfl : j_meth[292]? = some _).symm.trans h1); cases Option.some.inj ((rfl : j_code[292]? = some _).symm.trans h2); exact j_dk_292
theorem j_good_293 : j_good 293 := fun q c h1 h2 => by cases Option.some.inj ((rfl : j_meth[293]? = some _).symm.trans h1); cases Option.some.inj ((rfl : j_code[293]? = some _).symm.trans h2); exact j_dk_293
theorem j_good_294 : j_good 294 := fun q c h1 h2 => by cases Option.some.inj ((rfl : j_meth[294]? = some _).symm.trans h1); cases Option.some.inj ((rfl : j_code[294]? = some _).symm.trans h2); exact j_dk_294
theorem j_good_295 : j_good 295 := fun q c h1 h2 => by cases Option.some.inj ((rfl : j_meth[295]? = some _).symm.trans h1); cases Option.some.inj ((rfl : j_code[295]? = some _).symm.trans h2); exact j_dk_295
theorem j_good_296 : j_good 296 := fun q c h1 h2 => by cases Option.some.inj ((rfl : j_meth[296]? = some _).symm.trans h1); cases Option.some.inj ((rfl : j_code[296]? = some _).symm.trans h2); exact j_dk_296
theorem j_good_297 : j_good 297 := fun q c h1 h2 => by cases Option.some.inj ((rfl : j_meth[297]? = some _).symm.trans h1); cases Option.some.inj ((rfl : j_code[297]? = some _).symm.trans h2); exact j_dk_297
theorem j_good_298 : j_good 298 := fun q c h1 h2 => by cases Option.some.inj ((rfl : j_meth[298]? = some _).symm.trans h1); cases Option.some.inj ((rfl : j_code[298]? = some _).symm.trans h2); exact j_dk_298
theorem j_good_299 : j_good 299 := fun q c h1 h2 => by cases Option.some.inj ((rfl : j_meth[299]? = some _).symm.trans h1); cases Option.some.inj ((rfl : j_code[299]? = some _).symm.trans h2); exact j_dk_299
theorem j_good_300 : j_good 300 := fun q c h1 h2 => by cases Option.some.inj ((rfl : j_meth[300]? = some _).symm.trans h1); cases Option.some.inj ((rfl : j_code[300]? = some _).symm.trans h2); exact j_dk_300
theorem j_good_301 : j_good 301 := fun q c h1 h2 => by cases Option.some.inj ((rfl : j_meth[301]? = some _).symm.trans h1); cases Option.some.inj ((rfl : j_code[301]? = some _).symm.trans h2); exact j_dk_301
theorem j_good_302 : j_good 302 := fun q c h1 h2 => by cases Option.some.inj ((rfl : j_meth[302]? = some _).symm.trans h1); cases Option.some.inj ((rfl : j_code[302]? = some _).symm.trans h2); exact j_dk_302
theorem j_good_303 : j_good 303 := fun q c h1 h2 => by cases Option.some.inj ((rfl : j_meth[303]? = some _).symm.trans h1); cases Option.some.inj ((rfl : j_code[303]? = some _).symm.trans h2); exact j_dk_303
theorem j_good_304 : j_good 304 := fun q c h1 h2 => by cases Option.some.inj ((rfl : j_meth[304]? = some _).symm.trans h1); cases Option.some.inj ((rfl : j_code[304]? = some _).symm.trans h2); exact j_dk_304
theorem j_good_305 : j_good 305 := fun q c h1 h2 => by cases Option.some.inj ((rfl : j_meth[305]? = some _).symm.trans h1); cases Option.some.inj ((rfl : j_code[305]? = some _).symm.trans h2); exact j_dk_305
theorem j_good_306 : j_good 306 := fun q c h1 h2 => by cases Option.some.inj ((rfl : j_meth[306]? = some _).symm.trans h1); cases Option.some.inj ((rfl : j_code[306]? = some _).symm.trans h2); exact j_dk_306
theorem j_good_307 : j_good 307 := fun q c h1 h2 => by cases Option.some.inj ((rfl : j_meth[307]? = some _).symm.trans h1); cases Option.some.inj ((rfl : j_code[307]? = some _).symm.trans h2); exact j_dk_307
theorem j_good_308 : j_good 308 := fun q c h1 h2 => by cases Option.some.inj ((rfl : j_meth[308]? = some _).symm.trans h1); cases Option.some.inj ((rfl : j_code[308]? = some _).symm.trans h2); exact j_dk_308
theorem j_good_309 : j_good 309 := fun q c h1 h2 => by cases Option.some.inj ((rfl : j_meth[309]? = some _).symm.trans h1); cases Option.some.inj ((rfl : j_code[309]? = some _).symm.trans h2); exact j_dk_309
theorem j_good_all : ∀ y, ¬ j_spc y → j_good y := fun y hy => match y, hy with
  | 0, _ => j_good_0
  | 1, _ => j_good_1
  | 2, _ => j_good_2
  | 3, _ => j_good_3
  | 4, _ => j_good_4
  | 5, _ => j_good_5
  | 6, _ => j_good_6
  | 7, _ => j_good_7
  | 8, _ => j_good_8
  | 9, _ => j_good_9
  | 10, _ => j_good_10
  | 11, _ => j_good_11
  | 12, _ => j_good_12
  | 13, _ => j_good_13
  | 14, _ => j_good_14
  | 15, _ => j_good_15
  | 16, _ => j_good_16
  | 17, _ => j_good_17
  | 18, _ => j_good_18
  | 19, _ => j_good_19
  | 20, _ => j_good_20
  | 21, _ => j_good_21
  | 22, _ => j_good_22
  | 23, _ => j_good_23
  | 24, _ => j_good_24
  | 25, _ => j_good_25
  | 26, _ => j_good_26
  | 27, _ => j_good_27
  | 28, _ => j_good_28
  | 29, _ => j_good_29
  | 30, _ => j_good_30
  | 31, _ => j_good_31
  | 32, _ => j_good_32
  | 33, _ => j_good_33
  | 34, _ => j_good_34
  | 35, _ => j_good_35
  | 36, _ => j_good_36
  | 37, _ => j_good_37
  | 38, _ => j_good_38
  | 39, _ => j_good_39
  | 40, _ => j_good_40
  | 41, _ => j_good_41
  | 42, _ => j_good_42
  | 43, _ => j_good_43
  | 44, _ => j_good_44
  | 45, _ => j_good_45
  | 46, _ => j_good_46
  | 47, _ => j_good_47
  | 48, _ => j_good_48
  | 49, _ => j_good_49
  | 50, _ => j_good_50
  | 51, _ => j_good_51
  | 52, _ => j_good_52
  | 53, _ => j_good_53
  | 54, _ => j_good_54
  | 55, _ => j_good_55
  | 56, _ => j_good_56
  | 57, _ => j_good_57
  | 58, _ => j_good_58
  | 59, _ => j_good_59
  | 60, _ => j_good_60
  | 61, _ => j_good_61
  | 62, _ => j_good_62
  | 63, _ => j_good_63
  | 64, _ => j_good_64
  | 65, _ => j_good_65
  | 66, _ => j_good_66
  | 67, _ => j_good_67
  | 68, _ => j_good_68
  | 69, _ => j_good_69
  | 70, _ => j_good_70
  | 71, _ => j_good_71
  | 72, _ => j_good_72
  | 73, _ => j_good_73
  | 74, _ => j_good_74
  | 75, _ => j_good_75
  | 76, _ => j_good_76
  | 77, _ => j_good_77
  | 78, _ => j_good_78
  | 79, _ => j_good_79
  | 80, _ => j_good_80
  | 81, _ => j_good_81
  | 82, _ => j_good_82
  | 83, _ => j_good_83
  | 84, _ => j_good_84
  | 85, _ => j_good_85
  | 86, _ => j_good_86
  | 87, _ => j_good_87
  | 88, _ => j_good_88
  | 89, _ => j_good_89
  | 90, _ => j_good_90
  | 91, _ => j_good_91
  | 92, _ => j_good_92
  | 93, _ => j_good_93
  | 94, _ => j_good_94
  | 95, _ => j_good_95
  | 96, _ => j_good_96
  | 97, _ => j_good_97
  | 98, _ => j_good_98
  | 99, _ => j_good_99
  | 100, _ => j_good_100
  | 101, _ => j_good_101
  | 102, _ => j_good_102
  | 103, _ => j_good_103
  | 104, _ => j_good_104
  | 105, _ => j_good_105
  | 106, _ => j_good_106
  | 107, _ => j_good_107
  | 108, _ => j_good_108
  | 109, _ => j_good_109
  | 110, _ => j_good_110
  | 111, _ => j_good_111
  | 112, _ => j_good_112
  | 113, _ => j_good_113
  | 114, _ => j_good_114
  | 115, _ => j_good_115
  | 116, _ => j_good_116
  | 117, _ => j_good_117
  | 118, _ => j_good_118
  | 119, _ => j_good_119
  | 120, _ => j_good_120
  | 121, _ => j_good_121
  | 122, _ => j_good_122
  | 123, _ => j_good_123
  | 124, _ => j_good_124
  | 125, _ => j_good_125
  | 126, _ => j_good_126
  | 127, _ => j_good_127
  | 128, _ => j_good_128
  | 129, _ => j_good_129
  | 130, _ => j_good_130
  | 131, _ => j_good_131
  | 132, _ => j_good_132
  | 133, _ => j_good_133
  | 134, _ => j_good_134
  | 135, _ => j_good_135
  | 136, _ => j_good_136
  | 137, _ => j_good_137
  | 138, _ => j_good_138
  | 139, _ => j_good_139
  | 140, _ => j_good_140
  | 141, _ => j_good_141
  | 142, _ => j_good_142
  | 143, _ => j_good_143
  | 144, _ => j_good_144
  | 145, _ => j_good_145
  | 146, _ => j_good_146
  | 147, _ => j_good_147
  | 148, _ => j_good_148
  | 149, _ => j_good_149
  | 150, _ => j_good_150
  | 151, _ => j_good_151
  | 152, _ => j_good_152
  | 153, _ => j_good_153
  | 154, _ => j_good_154
  | 155, _ => j_good_155
  | 156, _ => j_good_156
  | 157, _ => j_good_157
  | 158, _ => j_good_158
  | 159, _ => j_good_159
  | 160, _ => j_good_160
  | 161, _ => j_good_161
  | 162, _ => j_good_162
  | 163, _ => j_good_163
  | 164, _ => j_good_164
  | 165, _ => j_good_165
  | 166, _ => j_good_166
  | 167, _ => j_good_167
  | 168, _ => j_good_168
  | 169, _ => j_good_169
  | 170, _ => j_good_170
  | 171, _ => j_good_171
  | 172, _ => j_good_172
  | 173, _ => j_good_173
  | 174, _ => j_good_174
  | 175, _ => j_good_175
  | 176, _ => j_good_176
  | 177, _ => j_good_177
  | 178, _ => j_good_178
  | 179, _ => j_good_179
  | 180, _ => j_good_180
  | 181, _ => j_good_181
  | 182, _ => j_good_182
  | 183, _ => j_good_183
  | 184, _ => j_good_184
  | 185, _ => j_good_185
  | 186, _ => j_good_186
  | 187, _ => j_good_187
  | 188, _ => j_good_188
  | 189, _ => j_good_189
  | 190, _ => j_good_190
  | 191, _ => j_good_191
  | 192, _ => j_good_192
  | 193, _ => j_good_193
  | 194, _ => j_good_194
  | 195, _ => j_good_195
  | 196, _ => j_good_196
  | 197, _ => j_good_197
  | 198, _ => j_good_198
  | 199, _ => j_good_199
  | 200, _ => j_good_200
  | 201, _ => j_good_201
  | 202, _ => j_good_202
  | 203, _ => j_good_203
  | 204, _ => j_good_204
  | 205, _ => j_good_205
  | 206, _ => j_good_206
  | 207, _ => j_good_207
  | 208, _ => j_good_208
  | 209, _ => j_good_209
  | 210, _ => j_good_210
  | 211, _ => j_good_211
  | 212, _ => j_good_212
  | 213, _ => j_good_213
  | 214, _ => j_good_214
  | 215, _ => j_good_215
  | 216, _ => j_good_216
  | 217, _ => j_good_217
  | 218, _ => j_good_218
  | 219, _ => j_good_219
  | 220, _ => j_good_220
  | 221, _ => j_good_221
  | 222, _ => j_good_222
  | 223, _ => j_good_223
  | 224, _ => j_good_224
  | 225, _ => j_good_225
  | 226, _ => j_good_226
  | 227, _ => j_good_227
  | 228, _ => j_good_228
  | 229, _ => j_good_229
  | 230, _ => j_good_230
  | 231, _ => j_good_231
  | 232, _ => j_good_232
  | 233, _ => j_good_233
  | 234, _ => j_good_234
  | 235, _ => j_good_235
  | 236, _ => j_good_236
  | 237, _ => j_good_237
  | 238, _ => j_good_238
  | 239, _ => j_good_239
  | 240, _ => j_good_240
  | 241, _ => j_good_241
  | 242, _ => j_good_242
  | 243, _ => j_good_243
  | 244, _ => j_good_244
  | 245, _ => j_good_245
  | 246, _ => j_good_246
  | 247, _ => j_good_247
  | 248, _ => j_good_248
  | 249, _ => j_good_249
  | 250, _ => j_good_250
  | 251, _ => j_good_251
  | 252, _ => j_good_252
  | 253, _ => j_good_253
  | 254, _ => j_good_254
  | 255, _ => j_good_255
  | 256, _ => j_good_256
  | 257, _ => j_good_257
  | 258, _ => j_good_258
  | 259, _ => j_good_259
  | 260, _ => j_good_260
  | 261, _ => j_good_261
  | 262, _ => j_good_262
  | 263, _ => j_good_263
  | 264, _ => j_good_264
  | 265, _ => j_good_265
  | 266, _ => j_good_266
  | 267, _ => j_good_267
  | 268, _ => j_good_268
  | 269, _ => j_good_269
  | 270, _ => j_good_270
  | 271, _ => j_good_271
  | 272, _ => j_good_272
  | 273, hy => absurd (by unfold j_spc; decide) hy
  | 274, _ => j_good_274
  | 275, _ => j_good_275
  | 276, hy => absurd (by unfold j_spc; decide) hy
  | 277, _ => j_good_277
  | 278, _ => j_good_278
  | 279, _ => j_good_279
  | 280, _ => j_good_280
  | 281, _ => j_good_281
  | 282, _ => j_good_282
  | 283, _ => j_good_283
  | 284, _ => j_good_284
  | 285, _ => j_good_285
  | 286, _ => j_good_286
  | 287, _ => j_good_287
  | 288, _ => j_good_288
  | 289, _ => j_good_289
  | 290, _ => j_good_290
  | 291, _ => j_good_291
  | 292, _ => j_good_292
  | 293, _ => j_good_293
  | 294, _ => j_good_294
  | 295, _ => j_good_295
  | 296, _ => j_good_296
  | 297, _ => j_good_297
  | 298, _ => j_good_298
  | 299, _ => j_good_299
  | 300, _ => j_good_300
  | 301, _ => j_good_301
  | 302, _ => j_good_302
  | 303, _ => j_good_303
  | 304, _ => j_good_304
  | 305, _ => j_good_305
  | 306, _ => j_good_306
  | 307, _ => j_good_307
  | 308, _ => j_good_308
  | 309, _ => j_good_309
  | k + 310, _ => fun q c h1 _ => by
    have h : (k + 310) < j_meth.length := (List.getElem?_eq_some_iff.mp h1).1
    have h2 : j_meth.length = 310 := by decide +kernel
    omega
