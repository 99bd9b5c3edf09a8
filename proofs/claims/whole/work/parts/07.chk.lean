/-! The tables hold what the program's rows name: decided by the kernel. -/
/-- a word of the tables, by its place -/
def j_w (p : Nat) (w : Cond) : Bool := decide (lw_tbl[p]? = some w) && goodWord w
def j_ftw (t : Nat × Nat × Nat × Nat × Nat) : Bool := match vwCl[t.2.2.1]? with
  | some q => decide (t.2.2.2.1 < q.2.2) && (decide ((q.2.1 t.2.2.2.1).1 = q.1) && j_w t.2.2.2.2 (.fieldLink (j_cnm t.1) t.2.1 q.1 (q.2.1 t.2.2.2.1).2.1 (q.2.1 t.2.2.2.1).2.2.1))
  | none => false
theorem j_ft_ok : j_ft.all j_ftw = true := by decide +kernel
def j_fnw (t : Nat × Nat × Nat × Nat × Nat × Nat) : Cond := .fieldLinkNest (j_cnm t.1) t.2.1 (j_cnm t.2.2.1) ((vwCl.getD t.2.2.1 ("", TX0, 0)).2.1 t.2.2.2.1).2.1 ((vwCl.getD t.2.2.1 ("", TX0, 0)).2.1 t.2.2.2.1).2.2.1 (j_cnm t.2.2.2.2.1)
def j_fnk (t : Nat × Nat × Nat × Nat × Nat × Nat) : Bool := match vwCl[t.2.2.1]? with
  | some q => decide (t.2.2.2.1 < q.2.2) && (decide ((q.2.1 t.2.2.2.1).1 = q.1) && decide (j_cnm t.2.2.1 = q.1) && decide (lw_tbl[t.2.2.2.2.2]? = some (j_fnw t)))
  | none => false
theorem j_fn_ok : j_fn.all j_fnk = true := by decide +kernel
theorem j_fs_ok : j_fs.all (fun t => j_w t.2.2 (.fieldLink (j_cnm t.1) t.2.1 "WholePacks" "TENS" "[I")) = true := by decide +kernel
def j_fsw (t : Nat × Nat × Nat × Nat) : Cond := .fieldLinkNest (j_cnm t.1) t.2.1 "WholePacks" "TENS" "[I" (j_cnm t.2.2.1)
theorem j_fsn_ok : j_fsn.all (fun t => decide (lw_tbl[t.2.2.2]? = some (j_fsw t))) = true := by decide +kernel
noncomputable def j_mnm (a : Nat) : MethodName := if a = 9999 then arraycopyName else if a = 9998 then objectInit else match j_meth[a]? with
  | some m => m.1
  | none => arraycopyName
theorem j_mt_ok : j_mt.all (fun t => j_w t.2.2.2 (.methodLink (j_cnm t.1) t.2.1 (j_mnm t.2.2.1))) = true := by decide +kernel
noncomputable def j_mnw (t : Nat × Nat × Nat × Nat × Nat) : Cond := .methodLinkNest (j_cnm t.1) t.2.1 (j_mnm t.2.2.1) (j_cnm t.2.2.2.1)
theorem j_mn_ok : j_mn.all (fun t => decide (lw_tbl[t.2.2.2.2]? = some (j_mnw t))) = true := by decide +kernel
theorem j_ct_ok : j_ct.all (fun t => decide (t.2.2.1 < 13) && j_w t.2.2.2 (.classLink (j_cnm t.1) t.2.1 (j_cnm t.2.2.1))) = true := by decide +kernel
def j_ktw (t : Nat × Nat × Nat × Int × Nat) : Bool := if t.2.2.1 = 0 then j_w t.2.2.2.2 (.constant (j_cnm t.1) t.2.1 (Int32.ofInt t.2.2.2.1)) && decide ((Int32.ofInt t.2.2.2.1).toInt = t.2.2.2.1) else j_w t.2.2.2.2 (.constantLong (j_cnm t.1) t.2.1 (Int64.ofInt t.2.2.2.1)) && decide ((Int64.ofInt t.2.2.2.1).toInt = t.2.2.2.1)
theorem j_kt_ok : j_kt.all j_ktw = true := by decide +kernel
/-- a method's own words -/
def j_mok (q : j_M) (w : Nat × Nat × Nat × Nat) : Bool := (j_w w.2.1 (.initialized q.1.cls) && (decide (q.1.cls = j_cnm q.2.2.2.2.1) && ((decide (q.1.cls ≠ "java/lang/invoke/MethodHandle" ∧ q.1.cls ≠ "java/lang/invoke/VarHandle" ∧ (parseMethodDescriptor q.1.desc).map (fun d => d.parameters.length) = some q.2.2.2.2.2.2) && (decide (q.2.2.1 ≤ 13) &&
  (match q.2.2.2.2.2.1 with
  | 0 => j_w w.2.2.1 (.instanceMethod q.1) && (j_w w.2.2.2 (.selects q.1.cls q.1 q.1) && decide (q.2.2.2.2.1 < 13))
  | 1 => j_w w.2.2.1 (.static q.1)
  | _ => j_w w.2.2.1 (.instanceMethod q.1) && (decide (q.1.name = "<init>") && decide (q.2.2.2.1 = none))))))))
set_option maxRecDepth 20000 in
theorem j_cw_0 : Cond.code yX0_init cX0_init 1 none ∈ tables_1_1 := List.mem_of_getElem? (i := 220) rfl
set_option maxRecDepth 20000 in
theorem j_cw_1 : Cond.code yX0_clear cX0_clear 1 none ∈ tables_1_3 := List.mem_of_getElem? (i := 88) rfl
set_option maxRecDepth 20000 in
theorem j_cw_2 : Cond.code yX0_formOf cX0_formOf 3 (some .long) ∈ tables_1_3 := List.mem_of_getElem? (i := 154) rfl
set_option maxRecDepth 20000 in
theorem j_cw_3 : Cond.code yX0_weightOf cX0_weightOf 3 (some .long) ∈ tables_1_3 := List.mem_of_getElem? (i := 224) rfl
set_option maxRecDepth 20000 in
theorem j_cw_4 : Cond.code yX0_make cX0_make 7 (some .boolean) ∈ tables_1_3 := List.mem_of_getElem? (i := 139) rfl
set_option maxRecDepth 20000 in
theorem j_cw_5 : Cond.code yX0_tellIn cX0_tellIn 11 (some .long) ∈ tables_1_3 := List.mem_of_getElem? (i := 143) rfl
set_option maxRecDepth 20000 in
theorem j_cw_6 : Cond.code yX0_isProved cX0_isProved 7 (some .boolean) ∈ tables_1_3 := List.mem_of_getElem? (i := 232) rfl
set_option maxRecDepth 20000 in
theorem j_cw_7 : Cond.code yX1_init cX1_init 1 none ∈ tables_1_1 := List.mem_of_getElem? (i := 35) rfl
set_option maxRecDepth 20000 in
theorem j_cw_8 : Cond.code yX1_become cX1_become 2 none ∈ tables_1_4 := List.mem_of_getElem? (i := 35) rfl
set_option maxRecDepth 20000 in
theorem j_cw_9 : Cond.code yX1_startAgain cX1_startAgain 2 none ∈ tables_1_2 := List.mem_of_getElem? (i := 200) rfl
set_option maxRecDepth 20000 in
theorem j_cw_10 : Cond.code yX1_addRule cX1_addRule 4 none ∈ tables_1_2 := List.mem_of_getElem? (i := 228) rfl
set_option maxRecDepth 20000 in
theorem j_cw_11 : Cond.code yX1_factorOf cX1_factorOf 3 (some .int) ∈ tables_1_3 := List.mem_of_getElem? (i := 7) rfl
set_option maxRecDepth 20000 in
theorem j_cw_12 : Cond.code yX1_setFactor cX1_setFactor 4 none ∈ tables_1_2 := List.mem_of_getElem? (i := 232) rfl
set_option maxRecDepth 20000 in
theorem j_cw_13 : Cond.code yX1_formOf cX1_formOf 4 (some .int) ∈ tables_1_3 := List.mem_of_getElem? (i := 79) rfl
set_option maxRecDepth 20000 in
theorem j_cw_14 : Cond.code yX1_costOf cX1_costOf 4 (some .int) ∈ tables_1_4 := List.mem_of_getElem? (i := 209) rfl
set_option maxRecDepth 20000 in
theorem j_cw_15 : Cond.code yX1_firstBroken cX1_firstBroken 5 (some .int) ∈ tables_1_4 := List.mem_of_getElem? (i := 84) rfl
set_option maxRecDepth 20000 in
theorem j_cw_16 : Cond.code yX1_digitOf cX1_digitOf 5 (some .int) ∈ tables_1_4 := List.mem_of_getElem? (i := 89) rfl
set_option maxRecDepth 20000 in
theorem j_cw_17 : Cond.code yX1_change cX1_change 5 none ∈ tables_1_5 := List.mem_of_getElem? (i := 5) rfl
set_option maxRecDepth 20000 in
theorem j_cw_18 : Cond.code yX1_drawRules cX1_drawRules 6 none ∈ tables_1_4 := List.mem_of_getElem? (i := 192) rfl
set_option maxRecDepth 20000 in
theorem j_cw_19 : Cond.code yX1_stirred cX1_stirred 1 (some .int) ∈ tables_1_4 := List.mem_of_getElem? (i := 196) rfl
set_option maxRecDepth 20000 in
theorem j_cw_20 : Cond.code yX2_init cX2_init 1 none ∈ tables_1_1 := List.mem_of_getElem? (i := 78) rfl
set_option maxRecDepth 20000 in
theorem j_cw_21 : Cond.code yX2_become cX2_become 2 none ∈ tables_1_5 := List.mem_of_getElem? (i := 25) rfl
set_option maxRecDepth 20000 in
theorem j_cw_22 : Cond.code yX2_clear cX2_clear 1 none ∈ tables_1_2 := List.mem_of_getElem? (i := 207) rfl
set_option maxRecDepth 20000 in
theorem j_cw_23 : Cond.code yX2_placeOf cX2_placeOf 3 (some .int) ∈ tables_1_4 := List.mem_of_getElem? (i := 205) rfl
set_option maxRecDepth 20000 in
theorem j_cw_24 : Cond.code yX2_gainOf cX2_gainOf 2 (some .int) ∈ tables_1_4 := List.mem_of_getElem? (i := 226) rfl
set_option maxRecDepth 20000 in
theorem j_cw_25 : Cond.code yX2_insert cX2_insert 5 none ∈ tables_1_4 := List.mem_of_getElem? (i := 53) rfl
set_option maxRecDepth 20000 in
theorem j_cw_26 : Cond.code yX2_keepIfCheap cX2_keepIfCheap 3 none ∈ tables_1_4 := List.mem_of_getElem? (i := 45) rfl
set_option maxRecDepth 20000 in
theorem j_cw_27 : Cond.code yX2_isAhead cX2_isAhead 4 (some .boolean) ∈ tables_1_4 := List.mem_of_getElem? (i := 49) rfl
set_option maxRecDepth 20000 in
theorem j_cw_28 : Cond.code yX3_init cX3_init 1 none ∈ tables_1_1 := List.mem_of_getElem? (i := 152) rfl
set_option maxRecDepth 20000 in
theorem j_cw_29 : Cond.code yX3_work cX3_work 5 (some .int) ∈ tables_1_3 := List.mem_of_getElem? (i := 71) rfl
set_option maxRecDepth 20000 in
theorem j_cw_30 : Cond.code yX3_worthOf cX3_worthOf 3 (some .int) ∈ tables_1_4 := List.mem_of_getElem? (i := 157) rfl
set_option maxRecDepth 20000 in
theorem j_cw_31 : Cond.code yX4_init cX4_init 1 none ∈ tables_1_1 := List.mem_of_getElem? (i := 29) rfl
set_option maxRecDepth 20000 in
theorem j_cw_32 : Cond.code yX4_become cX4_become 2 none ∈ tables_1_5 := List.mem_of_getElem? (i := 20) rfl
set_option maxRecDepth 20000 in
theorem j_cw_33 : Cond.code yX4_startAgain cX4_startAgain 2 none ∈ tables_1_2 := List.mem_of_getElem? (i := 196) rfl
set_option maxRecDepth 20000 in
theorem j_cw_34 : Cond.code yX4_addSeen cX4_addSeen 3 none ∈ tables_1_4 := List.mem_of_getElem? (i := 167) rfl
set_option maxRecDepth 20000 in
theorem j_cw_35 : Cond.code yX4_addPlan cX4_addPlan 4 none ∈ tables_1_4 := List.mem_of_getElem? (i := 237) rfl
set_option maxRecDepth 20000 in
theorem j_cw_36 : Cond.code yX4_handForm cX4_handForm 4 (some .long) ∈ tables_1_4 := List.mem_of_getElem? (i := 10) rfl
set_option maxRecDepth 20000 in
theorem j_cw_37 : Cond.code yX5_init cX5_init 1 none ∈ tables_1_1 := List.mem_of_getElem? (i := 158) rfl
set_option maxRecDepth 20000 in
theorem j_cw_38 : Cond.code yX5_start cX5_start 5 none ∈ tables_1_3 := List.mem_of_getElem? (i := 75) rfl
set_option maxRecDepth 20000 in
theorem j_cw_39 : Cond.code yX5_addRow cX5_addRow 6 (some .int) ∈ tables_1_3 := List.mem_of_getElem? (i := 84) rfl
set_option maxRecDepth 20000 in
theorem j_cw_40 : Cond.code yX5_addLeast cX5_addLeast 5 none ∈ tables_1_4 := List.mem_of_getElem? (i := 115) rfl
set_option maxRecDepth 20000 in
theorem j_cw_41 : Cond.code yX5_addMost cX5_addMost 5 none ∈ tables_1_4 := List.mem_of_getElem? (i := 120) rfl
set_option maxRecDepth 20000 in
theorem j_cw_42 : Cond.code yX5_addCut cX5_addCut 5 none ∈ tables_1_3 := List.mem_of_getElem? (i := 161) rfl
set_option maxRecDepth 20000 in
theorem j_cw_43 : Cond.code yX5_restOf cX5_restOf 3 (some .long) ∈ tables_1_3 := List.mem_of_getElem? (i := 132) rfl
set_option maxRecDepth 20000 in
theorem j_cw_44 : Cond.code yX5_wholeOf cX5_wholeOf 3 (some .long) ∈ tables_1_3 := List.mem_of_getElem? (i := 147) rfl
set_option maxRecDepth 20000 in
theorem j_cw_45 : Cond.code yX5_repair cX5_repair 4 (some .int) ∈ tables_1_3 := List.mem_of_getElem? (i := 92) rfl
set_option maxRecDepth 20000 in
theorem j_cw_46 : Cond.code yX5_lowestRow cX5_lowestRow 3 (some .int) ∈ tables_1_3 := List.mem_of_getElem? (i := 96) rfl
set_option maxRecDepth 20000 in
theorem j_cw_47 : Cond.code yX5_nearestColumn cX5_nearestColumn 4 (some .int) ∈ tables_1_3 := List.mem_of_getElem? (i := 100) rfl
set_option maxRecDepth 20000 in
theorem j_cw_48 : Cond.code yX5_isNearer cX5_isNearer 8 (some .boolean) ∈ tables_1_3 := List.mem_of_getElem? (i := 104) rfl
set_option maxRecDepth 20000 in
theorem j_cw_49 : Cond.code yX5_pivot cX5_pivot 6 (some .boolean) ∈ tables_1_3 := List.mem_of_getElem? (i := 108) rfl
set_option maxRecDepth 20000 in
theorem j_cw_50 : Cond.code yX5_freshenRow cX5_freshenRow 11 (some .boolean) ∈ tables_1_3 := List.mem_of_getElem? (i := 112) rfl
set_option maxRecDepth 20000 in
theorem j_cw_51 : Cond.code yX5_mixed cX5_mixed 11 (some .long) ∈ tables_1_3 := List.mem_of_getElem? (i := 116) rfl
set_option maxRecDepth 20000 in
theorem j_cw_52 : Cond.code yX5_rowOf cX5_rowOf 3 (some .int) ∈ tables_1_3 := List.mem_of_getElem? (i := 189) rfl
set_option maxRecDepth 20000 in
theorem j_cw_53 : Cond.code yX5_rightOf cX5_rightOf 3 (some .long) ∈ tables_1_3 := List.mem_of_getElem? (i := 185) rfl
set_option maxRecDepth 20000 in
theorem j_cw_54 : Cond.code yX5_floorOf cX5_floorOf 2 (some .long) ∈ tables_1_4 := List.mem_of_getElem? (i := 130) rfl
set_option maxRecDepth 20000 in
theorem j_cw_55 : Cond.code yX5_riseOf cX5_riseOf 3 (some .long) ∈ tables_1_3 := List.mem_of_getElem? (i := 207) rfl
set_option maxRecDepth 20000 in
theorem j_cw_56 : Cond.code yX5_partedRow cX5_partedRow 2 (some .int) ∈ tables_1_3 := List.mem_of_getElem? (i := 128) rfl
set_option maxRecDepth 20000 in
theorem j_cw_57 : Cond.code yX5_partedPack cX5_partedPack 2 (some .int) ∈ tables_1_4 := List.mem_of_getElem? (i := 125) rfl
set_option maxRecDepth 20000 in
theorem j_cw_58 : Cond.code yX5_rowNumber cX5_rowNumber 3 (some .long) ∈ tables_1_3 := List.mem_of_getElem? (i := 174) rfl
set_option maxRecDepth 20000 in
theorem j_cw_59 : Cond.code yX5_costNumber cX5_costNumber 2 (some .long) ∈ tables_1_3 := List.mem_of_getElem? (i := 170) rfl
set_option maxRecDepth 20000 in
theorem j_cw_60 : Cond.code yX6_init cX6_init 1 none ∈ tables_1_2 := List.mem_of_getElem? (i := 132) rfl
set_option maxRecDepth 20000 in
theorem j_cw_61 : Cond.code yX6_lay cX6_lay 4 none ∈ tables_1_5 := List.mem_of_getElem? (i := 43) rfl
set_option maxRecDepth 20000 in
theorem j_cw_62 : Cond.code yX6_trimmed cX6_trimmed 4 (some .long) ∈ tables_1_5 := List.mem_of_getElem? (i := 54) rfl
set_option maxRecDepth 20000 in
theorem j_cw_63 : Cond.code yX6_holds cX6_holds 4 (some .boolean) ∈ tables_1_5 := List.mem_of_getElem? (i := 66) rfl
set_option maxRecDepth 20000 in
theorem j_cw_64 : Cond.code yX7_init cX7_init 1 none ∈ tables_1_2 := List.mem_of_getElem? (i := 97) rfl
set_option maxRecDepth 20000 in
theorem j_cw_65 : Cond.code yX7_findFault cX7_findFault 3 (some .int) ∈ tables_1_3 := List.mem_of_getElem? (i := 28) rfl
set_option maxRecDepth 20000 in
theorem j_cw_66 : Cond.code yX7_addRulesTo cX7_addRulesTo 4 none ∈ tables_1_3 := List.mem_of_getElem? (i := 57) rfl
set_option maxRecDepth 20000 in
theorem j_cw_67 : Cond.code yX7_here cX7_here 1 (some .int) ∈ tables_1_3 := List.mem_of_getElem? (i := 40) rfl
set_option maxRecDepth 20000 in
theorem j_cw_68 : Cond.code yX7_skip cX7_skip 2 (some .boolean) ∈ tables_1_3 := List.mem_of_getElem? (i := 36) rfl
set_option maxRecDepth 20000 in
theorem j_cw_69 : Cond.code yX7_atDigit cX7_atDigit 1 (some .boolean) ∈ tables_1_3 := List.mem_of_getElem? (i := 48) rfl
set_option maxRecDepth 20000 in
theorem j_cw_70 : Cond.code yX7_readClause cX7_readClause 3 (some .boolean) ∈ tables_1_3 := List.mem_of_getElem? (i := 32) rfl
set_option maxRecDepth 20000 in
theorem j_cw_71 : Cond.code yX7_readTerm cX7_readTerm 5 (some .boolean) ∈ tables_1_3 := List.mem_of_getElem? (i := 44) rfl
set_option maxRecDepth 20000 in
theorem j_cw_72 : Cond.code yX7_readBound cX7_readBound 4 (some .boolean) ∈ tables_1_3 := List.mem_of_getElem? (i := 53) rfl
set_option maxRecDepth 20000 in
theorem j_cw_73 : Cond.code yX8_init cX8_init 1 none ∈ tables_1_2 := List.mem_of_getElem? (i := 15) rfl
set_option maxRecDepth 20000 in
theorem j_cw_74 : Cond.code yX8_grow cX8_grow 4 (some .int) ∈ tables_1_4 := List.mem_of_getElem? (i := 105) rfl
set_option maxRecDepth 20000 in
theorem j_cw_75 : Cond.code yX8_split cX8_split 6 (some .boolean) ∈ tables_1_4 := List.mem_of_getElem? (i := 139) rfl
set_option maxRecDepth 20000 in
theorem j_cw_76 : Cond.code yX8_inherit cX8_inherit 2 none ∈ tables_1_4 := List.mem_of_getElem? (i := 143) rfl
set_option maxRecDepth 20000 in
theorem j_cw_77 : Cond.code yX8_relax cX8_relax 5 (some .boolean) ∈ tables_1_4 := List.mem_of_getElem? (i := 110) rfl
set_option maxRecDepth 20000 in
theorem j_cw_78 : Cond.code yX8_mostHopeful cX8_mostHopeful 3 (some .int) ∈ tables_1_4 := List.mem_of_getElem? (i := 135) rfl
set_option maxRecDepth 20000 in
theorem j_cw_79 : Cond.code yX8_valueOf cX8_valueOf 2 (some .long) ∈ tables_1_4 := List.mem_of_getElem? (i := 148) rfl
set_option maxRecDepth 20000 in
theorem j_cw_80 : Cond.code yX9_init cX9_init 1 none ∈ tables_1_2 := List.mem_of_getElem? (i := 62) rfl
set_option maxRecDepth 20000 in
theorem j_cw_81 : Cond.code yX9_start cX9_start 4 none ∈ tables_1_4 := List.mem_of_getElem? (i := 31) rfl
set_option maxRecDepth 20000 in
theorem j_cw_82 : Cond.code yX9_step cX9_step 2 none ∈ tables_1_4 := List.mem_of_getElem? (i := 57) rfl
set_option maxRecDepth 20000 in
theorem j_cw_83 : Cond.code yX9_move cX9_move 4 none ∈ tables_1_4 := List.mem_of_getElem? (i := 61) rfl
set_option maxRecDepth 20000 in
theorem j_cw_84 : Cond.code yX9_obeys cX9_obeys 2 (some .boolean) ∈ tables_1_4 := List.mem_of_getElem? (i := 41) rfl
set_option maxRecDepth 20000 in
theorem j_cw_85 : Cond.code yX9_broken cX9_broken 3 (some .int) ∈ tables_1_4 := List.mem_of_getElem? (i := 71) rfl
set_option maxRecDepth 20000 in
theorem j_cw_86 : Cond.code yX9_isBeyond cX9_isBeyond 5 (some .boolean) ∈ tables_1_4 := List.mem_of_getElem? (i := 97) rfl
set_option maxRecDepth 20000 in
theorem j_cw_87 : Cond.code yX10_init cX10_init 1 none ∈ tables_1_1 := List.mem_of_getElem? (i := 21) rfl
set_option maxRecDepth 20000 in
theorem j_cw_88 : Cond.code yX10_size cX10_size 3 (some .int) ∈ tables_1_2 := List.mem_of_getElem? (i := 192) rfl
set_option maxRecDepth 20000 in
theorem j_cw_89 : Cond.code yX10_cost cX10_cost 4 (some .int) ∈ tables_1_2 := List.mem_of_getElem? (i := 212) rfl
set_option maxRecDepth 20000 in
theorem j_cw_90 : Cond.code yX10_rule cX10_rule 3 (some .int) ∈ tables_1_2 := List.mem_of_getElem? (i := 221) rfl
set_option maxRecDepth 20000 in
theorem j_cw_91 : Cond.code yX10_factor cX10_factor 5 (some .int) ∈ tables_1_2 := List.mem_of_getElem? (i := 236) rfl
set_option maxRecDepth 20000 in
theorem j_cw_92 : Cond.code yX10_bound cX10_bound 4 (some .int) ∈ tables_1_3 := List.mem_of_getElem? (i := 12) rfl
set_option maxRecDepth 20000 in
theorem j_cw_93 : Cond.code yX10_less cX10_less 1 (some .int) ∈ tables_1_3 := List.mem_of_getElem? (i := 16) rfl
set_option maxRecDepth 20000 in
theorem j_cw_94 : Cond.code yX10_feed cX10_feed 2 (some .int) ∈ tables_1_3 := List.mem_of_getElem? (i := 20) rfl
set_option maxRecDepth 20000 in
theorem j_cw_95 : Cond.code yX10_read cX10_read 2 (some .int) ∈ tables_1_3 := List.mem_of_getElem? (i := 24) rfl
set_option maxRecDepth 20000 in
theorem j_cw_96 : Cond.code yX10_ruleOf cX10_ruleOf 3 (some .int) ∈ tables_1_3 := List.mem_of_getElem? (i := 63) rfl
set_option maxRecDepth 20000 in
theorem j_cw_97 : Cond.code yX10_solve cX10_solve 2 (some .int) ∈ tables_1_3 := List.mem_of_getElem? (i := 67) rfl
set_option maxRecDepth 20000 in
theorem j_cw_98 : Cond.code yX10_entry cX10_entry 4 (some .long) ∈ tables_1_3 := List.mem_of_getElem? (i := 165) rfl
set_option maxRecDepth 20000 in
theorem j_cw_99 : Cond.code yX10_amount cX10_amount 3 (some .long) ∈ tables_1_3 := List.mem_of_getElem? (i := 178) rfl
set_option maxRecDepth 20000 in
theorem j_cw_100 : Cond.code yX10_value cX10_value 2 (some .long) ∈ tables_1_3 := List.mem_of_getElem? (i := 199) rfl
set_option maxRecDepth 20000 in
theorem j_cw_101 : Cond.code yX10_price cX10_price 3 (some .long) ∈ tables_1_3 := List.mem_of_getElem? (i := 203) rfl
set_option maxRecDepth 20000 in
theorem j_cw_102 : Cond.code yX10_cut cX10_cut 3 (some .long) ∈ tables_1_3 := List.mem_of_getElem? (i := 211) rfl
set_option maxRecDepth 20000 in
theorem j_cw_103 : Cond.code yX10_weight cX10_weight 6 (some .long) ∈ tables_1_3 := List.mem_of_getElem? (i := 220) rfl
set_option maxRecDepth 20000 in
theorem j_cw_104 : Cond.code yX10_proved cX10_proved 2 (some .int) ∈ tables_1_3 := List.mem_of_getElem? (i := 228) rfl
set_option maxRecDepth 20000 in
theorem j_cw_105 : Cond.code yX10_hand cX10_hand 4 (some .int) ∈ tables_1_3 := List.mem_of_getElem? (i := 238) rfl
set_option maxRecDepth 20000 in
theorem j_cw_106 : Cond.code yX10_by cX10_by 3 (some .int) ∈ tables_1_4 := List.mem_of_getElem? (i := 2) rfl
set_option maxRecDepth 20000 in
theorem j_cw_107 : Cond.code yX10_points cX10_points 2 (some .long) ∈ tables_1_4 := List.mem_of_getElem? (i := 6) rfl
set_option maxRecDepth 20000 in
theorem j_cw_108 : Cond.code yX10_bites cX10_bites 5 (some .int) ∈ tables_1_4 := List.mem_of_getElem? (i := 19) rfl
set_option maxRecDepth 20000 in
theorem j_cw_109 : Cond.code yX10_box cX10_box 3 (some .int) ∈ tables_1_4 := List.mem_of_getElem? (i := 23) rfl
set_option maxRecDepth 20000 in
theorem j_cw_110 : Cond.code yX10_nth cX10_nth 3 (some .int) ∈ tables_1_4 := List.mem_of_getElem? (i := 27) rfl
set_option maxRecDepth 20000 in
theorem j_cw_111 : Cond.code yX10_many cX10_many 4 (some .int) ∈ tables_1_4 := List.mem_of_getElem? (i := 67) rfl
set_option maxRecDepth 20000 in
theorem j_cw_112 : Cond.code yX10_breaks cX10_breaks 2 (some .int) ∈ tables_1_4 := List.mem_of_getElem? (i := 75) rfl
set_option maxRecDepth 20000 in
theorem j_cw_113 : Cond.code yX10_lost cX10_lost 3 (some .int) ∈ tables_1_4 := List.mem_of_getElem? (i := 93) rfl
set_option maxRecDepth 20000 in
theorem j_cw_114 : Cond.code yX10_branch cX10_branch 3 (some .int) ∈ tables_1_4 := List.mem_of_getElem? (i := 101) rfl
set_option maxRecDepth 20000 in
theorem j_cw_115 : Cond.code yX10_would cX10_would 3 (some .int) ∈ tables_1_4 := List.mem_of_getElem? (i := 152) rfl
set_option maxRecDepth 20000 in
theorem j_cw_116 : Cond.code yX10_see cX10_see 3 (some .int) ∈ tables_1_4 := List.mem_of_getElem? (i := 163) rfl
set_option maxRecDepth 20000 in
theorem j_cw_117 : Cond.code yX10_fits cX10_fits 6 (some .int) ∈ tables_1_4 := List.mem_of_getElem? (i := 171) rfl
set_option maxRecDepth 20000 in
theorem j_cw_118 : Cond.code yX10_odds cX10_odds 9 (some .long) ∈ tables_1_4 := List.mem_of_getElem? (i := 180) rfl
set_option maxRecDepth 20000 in
theorem j_cw_119 : Cond.code yX10_mean cX10_mean 4 (some .long) ∈ tables_1_4 := List.mem_of_getElem? (i := 184) rfl
set_option maxRecDepth 20000 in
theorem j_cw_120 : Cond.code yX10_drawn cX10_drawn 3 (some .int) ∈ tables_1_4 := List.mem_of_getElem? (i := 188) rfl
set_option maxRecDepth 20000 in
theorem j_cw_121 : Cond.code yX10_offer cX10_offer 5 (some .int) ∈ tables_1_4 := List.mem_of_getElem? (i := 201) rfl
set_option maxRecDepth 20000 in
theorem j_cw_122 : Cond.code yX10_offered cX10_offered 3 (some .int) ∈ tables_1_4 := List.mem_of_getElem? (i := 214) rfl
set_option maxRecDepth 20000 in
theorem j_cw_123 : Cond.code yX10_upTo cX10_upTo 4 (some .int) ∈ tables_1_4 := List.mem_of_getElem? (i := 218) rfl
set_option maxRecDepth 20000 in
theorem j_cw_124 : Cond.code yX10_dearest cX10_dearest 3 (some .int) ∈ tables_1_4 := List.mem_of_getElem? (i := 222) rfl
set_option maxRecDepth 20000 in
theorem j_cw_125 : Cond.code yX10_plan cX10_plan 4 (some .int) ∈ tables_1_4 := List.mem_of_getElem? (i := 230) rfl
set_option maxRecDepth 20000 in
theorem j_cw_126 : Cond.code yX10_ends cX10_ends 2 (some .int) ∈ tables_1_5 := List.mem_of_getElem? (i := 1) rfl
set_option maxRecDepth 20000 in
theorem j_cw_127 : Cond.code yX10_judge cX10_judge 5 (some .int) ∈ tables_1_5 := List.mem_of_getElem? (i := 9) rfl
set_option maxRecDepth 20000 in
theorem j_cw_128 : Cond.code yX10_image cX10_image 1 (some .int) ∈ tables_1_5 := List.mem_of_getElem? (i := 16) rfl
set_option maxRecDepth 20000 in
theorem j_cw_129 : Cond.code yX10_undo cX10_undo 1 (some .int) ∈ tables_1_5 := List.mem_of_getElem? (i := 31) rfl
set_option maxRecDepth 20000 in
theorem j_cw_130 : Cond.code yX10_count cX10_count 2 (some .int) ∈ tables_1_5 := List.mem_of_getElem? (i := 35) rfl
set_option maxRecDepth 20000 in
theorem j_cw_131 : Cond.code yX10_tape cX10_tape 4 (some .int) ∈ tables_1_5 := List.mem_of_getElem? (i := 39) rfl
set_option maxRecDepth 20000 in
theorem j_cw_132 : Cond.code yX10_item cX10_item 5 (some .int) ∈ tables_1_5 := List.mem_of_getElem? (i := 50) rfl
set_option maxRecDepth 20000 in
theorem j_cw_133 : Cond.code yX10_peek cX10_peek 3 (some .long) ∈ tables_1_5 := List.mem_of_getElem? (i := 58) rfl
set_option maxRecDepth 20000 in
theorem j_cw_134 : Cond.code yX10_shift cX10_shift 6 (some .int) ∈ tables_1_5 := List.mem_of_getElem? (i := 62) rfl
set_option maxRecDepth 20000 in
theorem j_cw_135 : Cond.code yX10_isPack cX10_isPack 2 (some .boolean) ∈ tables_1_2 := List.mem_of_getElem? (i := 216) rfl
set_option maxRecDepth 20000 in
theorem j_cw_136 : Cond.code yX10_isRule cX10_isRule 2 (some .boolean) ∈ tables_1_3 := List.mem_of_getElem? (i := 0) rfl
set_option maxRecDepth 20000 in
theorem j_cw_137 : Cond.code yX10_isCut cX10_isCut 2 (some .boolean) ∈ tables_1_3 := List.mem_of_getElem? (i := 215) rfl
set_option maxRecDepth 20000 in
theorem j_cw_138 : Cond.code yX10_isCode cX10_isCode 2 (some .boolean) ∈ tables_1_4 := List.mem_of_getElem? (i := 79) rfl
set_option maxRecDepth 20000 in
theorem j_cw_139 : Cond.code yX10_isBound cX10_isBound 1 (some .boolean) ∈ tables_1_2 := List.mem_of_getElem? (i := 224) rfl
set_option maxRecDepth 20000 in
theorem j_cw_140 : Cond.code yX10_isFactor cX10_isFactor 1 (some .boolean) ∈ tables_1_3 := List.mem_of_getElem? (i := 3) rfl
set_option maxRecDepth 20000 in
theorem j_cw_141 : Cond.code yX10_isPart cX10_isPart 1 (some .boolean) ∈ tables_1_3 := List.mem_of_getElem? (i := 181) rfl
set_option maxRecDepth 20000 in
theorem j_cw_142 : Cond.code yX10_isTape cX10_isTape 1 (some .boolean) ∈ tables_1_5 := List.mem_of_getElem? (i := 12) rfl
set_option maxRecDepth 20000 in
theorem j_cw_143 : Cond.code yX10_isPlanned cX10_isPlanned 2 (some .boolean) ∈ tables_1_4 := List.mem_of_getElem? (i := 233) rfl
set_option maxRecDepth 20000 in
theorem j_cw_144 : Cond.code yX10_isNear cX10_isNear 2 (some .boolean) ∈ tables_1_3 := List.mem_of_getElem? (i := 119) rfl
set_option maxRecDepth 20000 in
theorem j_cw_145 : Cond.code yX10_isSeenSo cX10_isSeenSo 2 (some .boolean) ∈ tables_1_4 := List.mem_of_getElem? (i := 175) rfl
set_option maxRecDepth 20000 in
theorem j_cw_146 : Cond.code yX10_lowest cX10_lowest 12 (some .long) ∈ tables_1_3 := List.mem_of_getElem? (i := 192) rfl
set_option maxRecDepth 20000 in
theorem j_cw_147 : Cond.code yX11_init cX11_init 1 none ∈ tables_1_5 := List.mem_of_getElem? (i := 78) rfl
set_option maxRecDepth 20000 in
theorem j_cw_148 : Cond.code yX12_init cX12_init 2 none ∈ tables_1_5 := List.mem_of_getElem? (i := 72) rfl
set_option maxRecDepth 20000 in
theorem j_cw_149 : Cond.code yX12_begins cX12_begins 4 none ∈ tables_1_5 := List.mem_of_getElem? (i := 156) rfl
set_option maxRecDepth 20000 in
theorem j_cw_150 : Cond.code yX12_isIn cX12_isIn 6 (some .boolean) ∈ tables_1_6 := List.mem_of_getElem? (i := 11) rfl
set_option maxRecDepth 20000 in
theorem j_cw_151 : Cond.code yX12_n cX12_n 1 (some .int) ∈ tables_1_6 := List.mem_of_getElem? (i := 15) rfl
set_option maxRecDepth 20000 in
theorem j_cw_152 : Cond.code yX12_isPack cX12_isPack 2 (some .boolean) ∈ tables_1_6 := List.mem_of_getElem? (i := 23) rfl
set_option maxRecDepth 20000 in
theorem j_cw_153 : Cond.code yX12_isRule cX12_isRule 2 (some .boolean) ∈ tables_1_6 := List.mem_of_getElem? (i := 42) rfl
set_option maxRecDepth 20000 in
theorem j_cw_154 : Cond.code yX12_sortOf cX12_sortOf 2 (some .int) ∈ tables_1_6 := List.mem_of_getElem? (i := 129) rfl
set_option maxRecDepth 20000 in
theorem j_cw_155 : Cond.code yX12_boundOf cX12_boundOf 2 (some .int) ∈ tables_1_6 := List.mem_of_getElem? (i := 56) rfl
set_option maxRecDepth 20000 in
theorem j_cw_156 : Cond.code yX12_factorOf cX12_factorOf 3 (some .int) ∈ tables_1_6 := List.mem_of_getElem? (i := 48) rfl
set_option maxRecDepth 20000 in
theorem j_cw_157 : Cond.code yX12_pointOf cX12_pointOf 3 (some .long) ∈ tables_1_6 := List.mem_of_getElem? (i := 137) rfl
set_option maxRecDepth 20000 in
theorem j_cw_158 : Cond.code yX12_limitOf cX12_limitOf 2 (some .long) ∈ tables_1_6 := List.mem_of_getElem? (i := 125) rfl
set_option maxRecDepth 20000 in
theorem j_cw_159 : Cond.code yX12_size cX12_size 3 (some .int) ∈ tables_1_6 := List.mem_of_getElem? (i := 7) rfl
set_option maxRecDepth 20000 in
theorem j_cw_160 : Cond.code yX12_cost cX12_cost 4 (some .int) ∈ tables_1_6 := List.mem_of_getElem? (i := 19) rfl
set_option maxRecDepth 20000 in
theorem j_cw_161 : Cond.code yX12_addsRule cX12_addsRule 5 none ∈ tables_1_6 := List.mem_of_getElem? (i := 34) rfl
set_option maxRecDepth 20000 in
theorem j_cw_162 : Cond.code yX12_rule cX12_rule 3 (some .int) ∈ tables_1_6 := List.mem_of_getElem? (i := 28) rfl
set_option maxRecDepth 20000 in
theorem j_cw_163 : Cond.code yX12_factor cX12_factor 5 (some .int) ∈ tables_1_6 := List.mem_of_getElem? (i := 38) rfl
set_option maxRecDepth 20000 in
theorem j_cw_164 : Cond.code yX12_bound cX12_bound 4 (some .int) ∈ tables_1_6 := List.mem_of_getElem? (i := 52) rfl
set_option maxRecDepth 20000 in
theorem j_cw_165 : Cond.code yX12_less cX12_less 1 (some .int) ∈ tables_1_6 := List.mem_of_getElem? (i := 60) rfl
set_option maxRecDepth 20000 in
theorem j_cw_166 : Cond.code yX12_ruleOf cX12_ruleOf 3 (some .int) ∈ tables_1_6 := List.mem_of_getElem? (i := 64) rfl
set_option maxRecDepth 20000 in
theorem j_cw_167 : Cond.code yX12_feed cX12_feed 2 (some .int) ∈ tables_1_6 := List.mem_of_getElem? (i := 68) rfl
set_option maxRecDepth 20000 in
theorem j_cw_168 : Cond.code yX12_here cX12_here 1 (some .int) ∈ tables_1_6 := List.mem_of_getElem? (i := 93) rfl
set_option maxRecDepth 20000 in
theorem j_cw_169 : Cond.code yX12_takes cX12_takes 2 (some .boolean) ∈ tables_1_6 := List.mem_of_getElem? (i := 89) rfl
set_option maxRecDepth 20000 in
theorem j_cw_170 : Cond.code yX12_isDigit cX12_isDigit 1 (some .boolean) ∈ tables_1_6 := List.mem_of_getElem? (i := 101) rfl
set_option maxRecDepth 20000 in
theorem j_cw_171 : Cond.code yX12_readsTerm cX12_readsTerm 5 (some .boolean) ∈ tables_1_6 := List.mem_of_getElem? (i := 97) rfl
set_option maxRecDepth 20000 in
theorem j_cw_172 : Cond.code yX12_readsSum cX12_readsSum 3 (some .boolean) ∈ tables_1_6 := List.mem_of_getElem? (i := 85) rfl
set_option maxRecDepth 20000 in
theorem j_cw_173 : Cond.code yX12_readsBound cX12_readsBound 5 (some .boolean) ∈ tables_1_6 := List.mem_of_getElem? (i := 108) rfl
set_option maxRecDepth 20000 in
theorem j_cw_174 : Cond.code yX12_readsClause cX12_readsClause 3 (some .boolean) ∈ tables_1_6 := List.mem_of_getElem? (i := 81) rfl
set_option maxRecDepth 20000 in
theorem j_cw_175 : Cond.code yX12_readsAll cX12_readsAll 3 (some .int) ∈ tables_1_6 := List.mem_of_getElem? (i := 77) rfl
set_option maxRecDepth 20000 in
theorem j_cw_176 : Cond.code yX12_read cX12_read 4 (some .int) ∈ tables_1_6 := List.mem_of_getElem? (i := 73) rfl
set_option maxRecDepth 20000 in
theorem j_cw_177 : Cond.code yX12_addsRow cX12_addsRow 6 none ∈ tables_1_6 := List.mem_of_getElem? (i := 133) rfl
set_option maxRecDepth 20000 in
theorem j_cw_178 : Cond.code yX12_first cX12_first 4 none ∈ tables_1_6 := List.mem_of_getElem? (i := 121) rfl
set_option maxRecDepth 20000 in
theorem j_cw_179 : Cond.code yX12_isNear cX12_isNear 2 (some .boolean) ∈ tables_1_6 := List.mem_of_getElem? (i := 157) rfl
set_option maxRecDepth 20000 in
theorem j_cw_180 : Cond.code yX12_tries cX12_tries 13 (some .boolean) ∈ tables_1_6 := List.mem_of_getElem? (i := 154) rfl
set_option maxRecDepth 20000 in
theorem j_cw_181 : Cond.code yX12_pivots cX12_pivots 7 (some .boolean) ∈ tables_1_6 := List.mem_of_getElem? (i := 150) rfl
set_option maxRecDepth 20000 in
theorem j_cw_182 : Cond.code yX12_columnFor cX12_columnFor 9 (some .int) ∈ tables_1_6 := List.mem_of_getElem? (i := 145) rfl
set_option maxRecDepth 20000 in
theorem j_cw_183 : Cond.code yX12_repairs cX12_repairs 4 (some .int) ∈ tables_1_6 := List.mem_of_getElem? (i := 141) rfl
set_option maxRecDepth 20000 in
theorem j_cw_184 : Cond.code yX12_rowOf cX12_rowOf 4 (some .int) ∈ tables_1_6 := List.mem_of_getElem? (i := 205) rfl
set_option maxRecDepth 20000 in
theorem j_cw_185 : Cond.code yX12_partly cX12_partly 3 (some .int) ∈ tables_1_6 := List.mem_of_getElem? (i := 163) rfl
set_option maxRecDepth 20000 in
theorem j_cw_186 : Cond.code yX12_leftPoint cX12_leftPoint 4 (some .long) ∈ tables_1_6 := List.mem_of_getElem? (i := 176) rfl
set_option maxRecDepth 20000 in
theorem j_cw_187 : Cond.code yX12_leftLimit cX12_leftLimit 3 (some .long) ∈ tables_1_6 := List.mem_of_getElem? (i := 180) rfl
set_option maxRecDepth 20000 in
theorem j_cw_188 : Cond.code yX12_tells cX12_tells 11 (some .boolean) ∈ tables_1_6 := List.mem_of_getElem? (i := 171) rfl
set_option maxRecDepth 20000 in
theorem j_cw_189 : Cond.code yX12_cuts cX12_cuts 7 (some .boolean) ∈ tables_1_6 := List.mem_of_getElem? (i := 167) rfl
set_option maxRecDepth 20000 in
theorem j_cw_190 : Cond.code yX12_slot cX12_slot 1 (some .int) ∈ tables_1_6 := List.mem_of_getElem? (i := 184) rfl
set_option maxRecDepth 20000 in
theorem j_cw_191 : Cond.code yX12_solves cX12_solves 5 (some .int) ∈ tables_1_6 := List.mem_of_getElem? (i := 117) rfl
set_option maxRecDepth 20000 in
theorem j_cw_192 : Cond.code yX12_worth cX12_worth 2 (some .int) ∈ tables_1_7 := List.mem_of_getElem? (i := 117) rfl
set_option maxRecDepth 20000 in
theorem j_cw_193 : Cond.code yX12_solve cX12_solve 2 (some .int) ∈ tables_1_6 := List.mem_of_getElem? (i := 112) rfl
set_option maxRecDepth 20000 in
theorem j_cw_194 : Cond.code yX12_entry cX12_entry 3 (some .long) ∈ tables_1_6 := List.mem_of_getElem? (i := 188) rfl
set_option maxRecDepth 20000 in
theorem j_cw_195 : Cond.code yX12_lowest cX12_lowest 11 (some .long) ∈ tables_1_6 := List.mem_of_getElem? (i := 208) rfl
set_option maxRecDepth 20000 in
theorem j_cw_196 : Cond.code yX12_isPart cX12_isPart 1 (some .boolean) ∈ tables_1_6 := List.mem_of_getElem? (i := 197) rfl
set_option maxRecDepth 20000 in
theorem j_cw_197 : Cond.code yX12_amountIn cX12_amountIn 4 (some .long) ∈ tables_1_6 := List.mem_of_getElem? (i := 201) rfl
set_option maxRecDepth 20000 in
theorem j_cw_198 : Cond.code yX12_amount cX12_amount 3 (some .long) ∈ tables_1_6 := List.mem_of_getElem? (i := 194) rfl
set_option maxRecDepth 20000 in
theorem j_cw_199 : Cond.code yX12_value cX12_value 2 (some .long) ∈ tables_1_6 := List.mem_of_getElem? (i := 212) rfl
set_option maxRecDepth 20000 in
theorem j_cw_200 : Cond.code yX12_price cX12_price 4 (some .long) ∈ tables_1_6 := List.mem_of_getElem? (i := 216) rfl
set_option maxRecDepth 20000 in
theorem j_cw_201 : Cond.code yX12_isCut cX12_isCut 2 (some .boolean) ∈ tables_1_6 := List.mem_of_getElem? (i := 224) rfl
set_option maxRecDepth 20000 in
theorem j_cw_202 : Cond.code yX12_cut cX12_cut 3 (some .long) ∈ tables_1_6 := List.mem_of_getElem? (i := 220) rfl
set_option maxRecDepth 20000 in
theorem j_cw_203 : Cond.code yX12_weight cX12_weight 4 (some .long) ∈ tables_1_6 := List.mem_of_getElem? (i := 228) rfl
set_option maxRecDepth 20000 in
theorem j_cw_204 : Cond.code yX12_weighed cX12_weighed 6 (some .long) ∈ tables_1_6 := List.mem_of_getElem? (i := 237) rfl
set_option maxRecDepth 20000 in
theorem j_cw_205 : Cond.code yX12_proved cX12_proved 4 (some .int) ∈ tables_1_6 := List.mem_of_getElem? (i := 233) rfl
set_option maxRecDepth 20000 in
theorem j_cw_206 : Cond.code yX12_hand cX12_hand 4 (some .int) ∈ tables_1_7 := List.mem_of_getElem? (i := 2) rfl
set_option maxRecDepth 20000 in
theorem j_cw_207 : Cond.code yX12_by cX12_by 3 (some .int) ∈ tables_1_7 := List.mem_of_getElem? (i := 6) rfl
set_option maxRecDepth 20000 in
theorem j_cw_208 : Cond.code yX12_points cX12_points 5 (some .long) ∈ tables_1_7 := List.mem_of_getElem? (i := 11) rfl
set_option maxRecDepth 20000 in
theorem j_cw_209 : Cond.code yX12_bites cX12_bites 4 (some .int) ∈ tables_1_7 := List.mem_of_getElem? (i := 19) rfl
set_option maxRecDepth 20000 in
theorem j_cw_210 : Cond.code yX12_codes cX12_codes 3 (some .int) ∈ tables_1_7 := List.mem_of_getElem? (i := 69) rfl
set_option maxRecDepth 20000 in
theorem j_cw_211 : Cond.code yX12_isCode cX12_isCode 2 (some .boolean) ∈ tables_1_7 := List.mem_of_getElem? (i := 65) rfl
set_option maxRecDepth 20000 in
theorem j_cw_212 : Cond.code yX12_mixes cX12_mixes 4 none ∈ tables_1_7 := List.mem_of_getElem? (i := 38) rfl
set_option maxRecDepth 20000 in
theorem j_cw_213 : Cond.code yX12_costOf cX12_costOf 4 (some .int) ∈ tables_1_7 := List.mem_of_getElem? (i := 34) rfl
set_option maxRecDepth 20000 in
theorem j_cw_214 : Cond.code yX12_isBroken cX12_isBroken 5 (some .boolean) ∈ tables_1_7 := List.mem_of_getElem? (i := 46) rfl
set_option maxRecDepth 20000 in
theorem j_cw_215 : Cond.code yX12_broken cX12_broken 3 (some .int) ∈ tables_1_7 := List.mem_of_getElem? (i := 42) rfl
set_option maxRecDepth 20000 in
theorem j_cw_216 : Cond.code yX12_nextCode cX12_nextCode 5 (some .int) ∈ tables_1_7 := List.mem_of_getElem? (i := 53) rfl
set_option maxRecDepth 20000 in
theorem j_cw_217 : Cond.code yX12_box cX12_box 3 (some .int) ∈ tables_1_7 := List.mem_of_getElem? (i := 24) rfl
set_option maxRecDepth 20000 in
theorem j_cw_218 : Cond.code yX12_nth cX12_nth 6 (some .int) ∈ tables_1_7 := List.mem_of_getElem? (i := 29) rfl
set_option maxRecDepth 20000 in
theorem j_cw_219 : Cond.code yX12_many cX12_many 4 (some .int) ∈ tables_1_7 := List.mem_of_getElem? (i := 57) rfl
set_option maxRecDepth 20000 in
theorem j_cw_220 : Cond.code yX12_breaks cX12_breaks 3 (some .int) ∈ tables_1_7 := List.mem_of_getElem? (i := 61) rfl
set_option maxRecDepth 20000 in
theorem j_cw_221 : Cond.code yX12_isLost cX12_isLost 5 (some .boolean) ∈ tables_1_7 := List.mem_of_getElem? (i := 77) rfl
set_option maxRecDepth 20000 in
theorem j_cw_222 : Cond.code yX12_lost cX12_lost 3 (some .int) ∈ tables_1_7 := List.mem_of_getElem? (i := 73) rfl
set_option maxRecDepth 20000 in
theorem j_cw_223 : Cond.code yX12_comes cX12_comes 7 (some .int) ∈ tables_1_7 := List.mem_of_getElem? (i := 89) rfl
set_option maxRecDepth 20000 in
theorem j_cw_224 : Cond.code yX12_bounds cX12_bounds 4 none ∈ tables_1_7 := List.mem_of_getElem? (i := 97) rfl
set_option maxRecDepth 20000 in
theorem j_cw_225 : Cond.code yX12_relaxes cX12_relaxes 4 (some .int) ∈ tables_1_7 := List.mem_of_getElem? (i := 93) rfl
set_option maxRecDepth 20000 in
theorem j_cw_226 : Cond.code yX12_hopeful cX12_hopeful 3 (some .int) ∈ tables_1_7 := List.mem_of_getElem? (i := 101) rfl
set_option maxRecDepth 20000 in
theorem j_cw_227 : Cond.code yX12_partlyOf cX12_partlyOf 3 (some .int) ∈ tables_1_7 := List.mem_of_getElem? (i := 105) rfl
set_option maxRecDepth 20000 in
theorem j_cw_228 : Cond.code yX12_branches cX12_branches 5 (some .int) ∈ tables_1_7 := List.mem_of_getElem? (i := 85) rfl
set_option maxRecDepth 20000 in
theorem j_cw_229 : Cond.code yX12_branch cX12_branch 3 (some .int) ∈ tables_1_7 := List.mem_of_getElem? (i := 81) rfl
set_option maxRecDepth 20000 in
theorem j_cw_230 : Cond.code yX12_worthWith cX12_worthWith 6 (some .int) ∈ tables_1_7 := List.mem_of_getElem? (i := 113) rfl
set_option maxRecDepth 20000 in
theorem j_cw_231 : Cond.code yX12_would cX12_would 3 (some .int) ∈ tables_1_7 := List.mem_of_getElem? (i := 109) rfl
set_option maxRecDepth 20000 in
theorem j_cw_232 : Cond.code yX12_see cX12_see 3 (some .int) ∈ tables_1_7 := List.mem_of_getElem? (i := 121) rfl
set_option maxRecDepth 20000 in
theorem j_cw_233 : Cond.code yX12_isSeen cX12_isSeen 2 (some .boolean) ∈ tables_1_7 := List.mem_of_getElem? (i := 129) rfl
set_option maxRecDepth 20000 in
theorem j_cw_234 : Cond.code yX12_fits cX12_fits 6 (some .int) ∈ tables_1_7 := List.mem_of_getElem? (i := 125) rfl
set_option maxRecDepth 20000 in
theorem j_cw_235 : Cond.code yX12_odds cX12_odds 8 (some .long) ∈ tables_1_7 := List.mem_of_getElem? (i := 133) rfl
set_option maxRecDepth 20000 in
theorem j_cw_236 : Cond.code yX12_mean cX12_mean 4 (some .long) ∈ tables_1_7 := List.mem_of_getElem? (i := 138) rfl
set_option maxRecDepth 20000 in
theorem j_cw_237 : Cond.code yX12_lends cX12_lends 2 none ∈ tables_1_7 := List.mem_of_getElem? (i := 147) rfl
set_option maxRecDepth 20000 in
theorem j_cw_238 : Cond.code yX12_takesBack cX12_takesBack 2 none ∈ tables_1_7 := List.mem_of_getElem? (i := 156) rfl
set_option maxRecDepth 20000 in
theorem j_cw_239 : Cond.code yX12_draws cX12_draws 2 (some .int) ∈ tables_1_7 := List.mem_of_getElem? (i := 151) rfl
set_option maxRecDepth 20000 in
theorem j_cw_240 : Cond.code yX12_drawn cX12_drawn 5 (some .int) ∈ tables_1_7 := List.mem_of_getElem? (i := 142) rfl
set_option maxRecDepth 20000 in
theorem j_cw_241 : Cond.code yX12_offerOf cX12_offerOf 3 (some .int) ∈ tables_1_7 := List.mem_of_getElem? (i := 164) rfl
set_option maxRecDepth 20000 in
theorem j_cw_242 : Cond.code yX12_offer cX12_offer 5 (some .int) ∈ tables_1_7 := List.mem_of_getElem? (i := 160) rfl
set_option maxRecDepth 20000 in
theorem j_cw_243 : Cond.code yX12_isAhead cX12_isAhead 4 (some .boolean) ∈ tables_1_7 := List.mem_of_getElem? (i := 177) rfl
set_option maxRecDepth 20000 in
theorem j_cw_244 : Cond.code yX12_place cX12_place 4 (some .int) ∈ tables_1_7 := List.mem_of_getElem? (i := 173) rfl
set_option maxRecDepth 20000 in
theorem j_cw_245 : Cond.code yX12_offered cX12_offered 4 (some .int) ∈ tables_1_7 := List.mem_of_getElem? (i := 168) rfl
set_option maxRecDepth 20000 in
theorem j_cw_246 : Cond.code yX12_upTo cX12_upTo 4 (some .int) ∈ tables_1_7 := List.mem_of_getElem? (i := 181) rfl
set_option maxRecDepth 20000 in
theorem j_cw_247 : Cond.code yX12_gain cX12_gain 2 (some .int) ∈ tables_1_7 := List.mem_of_getElem? (i := 189) rfl
set_option maxRecDepth 20000 in
theorem j_cw_248 : Cond.code yX12_dearest cX12_dearest 3 (some .int) ∈ tables_1_7 := List.mem_of_getElem? (i := 185) rfl
set_option maxRecDepth 20000 in
theorem j_cw_249 : Cond.code yX12_isStep cX12_isStep 2 (some .boolean) ∈ tables_1_7 := List.mem_of_getElem? (i := 196) rfl
set_option maxRecDepth 20000 in
theorem j_cw_250 : Cond.code yX12_plan cX12_plan 5 (some .int) ∈ tables_1_7 := List.mem_of_getElem? (i := 193) rfl
set_option maxRecDepth 20000 in
theorem j_cw_251 : Cond.code yX12_goes cX12_goes 4 none ∈ tables_1_7 := List.mem_of_getElem? (i := 204) rfl
set_option maxRecDepth 20000 in
theorem j_cw_252 : Cond.code yX12_ends cX12_ends 2 (some .int) ∈ tables_1_7 := List.mem_of_getElem? (i := 200) rfl
set_option maxRecDepth 20000 in
theorem j_cw_253 : Cond.code yX12_isTape cX12_isTape 1 (some .boolean) ∈ tables_1_7 := List.mem_of_getElem? (i := 211) rfl
set_option maxRecDepth 20000 in
theorem j_cw_254 : Cond.code yX12_judge cX12_judge 4 (some .int) ∈ tables_1_7 := List.mem_of_getElem? (i := 208) rfl
set_option maxRecDepth 20000 in
theorem j_cw_255 : Cond.code yX12_image cX12_image 2 (some .int) ∈ tables_1_7 := List.mem_of_getElem? (i := 215) rfl
set_option maxRecDepth 20000 in
theorem j_cw_256 : Cond.code yX12_undo cX12_undo 2 (some .int) ∈ tables_1_7 := List.mem_of_getElem? (i := 219) rfl
set_option maxRecDepth 20000 in
theorem j_cw_257 : Cond.code yX12_count cX12_count 3 (some .int) ∈ tables_1_7 := List.mem_of_getElem? (i := 223) rfl
set_option maxRecDepth 20000 in
theorem j_cw_258 : Cond.code yX12_tape cX12_tape 5 (some .int) ∈ tables_1_7 := List.mem_of_getElem? (i := 227) rfl
set_option maxRecDepth 20000 in
theorem j_cw_259 : Cond.code yX12_held cX12_held 3 (some .long) ∈ tables_1_7 := List.mem_of_getElem? (i := 234) rfl
set_option maxRecDepth 20000 in
theorem j_cw_260 : Cond.code yX12_item cX12_item 5 (some .int) ∈ tables_1_7 := List.mem_of_getElem? (i := 231) rfl
set_option maxRecDepth 20000 in
theorem j_cw_261 : Cond.code yX12_peek cX12_peek 3 (some .long) ∈ tables_1_7 := List.mem_of_getElem? (i := 238) rfl
set_option maxRecDepth 20000 in
theorem j_cw_262 : Cond.code yX12_shift cX12_shift 7 (some .int) ∈ tables_1_8 := List.mem_of_getElem? (i := 2) rfl
set_option maxRecDepth 20000 in
theorem j_cw_263 : Cond.code yJ9_floorDiv_7cf53 cJ9_floorDiv_7cf53 3 (some .int) ∈ tables_1_4 := List.mem_of_getElem? (i := 14) rfl
set_option maxRecDepth 20000 in
theorem j_cw_264 : Cond.code yJ9_floorDiv_b2ac5 cJ9_floorDiv_b2ac5 3 (some .long) ∈ tables_1_7 := List.mem_of_getElem? (i := 14) rfl
set_option maxRecDepth 20000 in
theorem j_cw_265 : Cond.code yJ9_floorDiv_f86c9 cJ9_floorDiv_f86c9 6 (some .long) ∈ tables_1_3 := List.mem_of_getElem? (i := 150) rfl
set_option maxRecDepth 20000 in
theorem j_cw_266 : Cond.code yJ9_floorMod_f86c9 cJ9_floorMod_f86c9 6 (some .long) ∈ tables_1_3 := List.mem_of_getElem? (i := 135) rfl
set_option maxRecDepth 20000 in
theorem j_cw_267 : Cond.code yJ9_abs_067f4 cJ9_abs_067f4 2 (some .long) ∈ tables_1_3 := List.mem_of_getElem? (i := 195) rfl
set_option maxRecDepth 20000 in
theorem j_cw_268 : Cond.code yJ9_min_7cf53 cJ9_min_7cf53 2 (some .int) ∈ tables_1_7 := List.mem_of_getElem? (i := 49) rfl
set_option maxRecDepth 20000 in
theorem j_cw_269 : Cond.code yJ7_fill_d0a16 cJ7_fill_d0a16 5 none ∈ tables_1_5 := List.mem_of_getElem? (i := 46) rfl
set_option maxRecDepth 20000 in
theorem j_cw_270 : Cond.code yJ7_fill_53178 cJ7_fill_53178 4 none ∈ tables_1_2 := List.mem_of_getElem? (i := 203) rfl
theorem j_tab {w : Cond} (k : Nat) (h : w ∈ [tables_1_1, tables_1_2, tables_1_3, tables_1_4, tables_1_5, tables_1_6, tables_1_7, tables_1_8][k]?.getD []) : w ∈ lw_tbl := by
  refine List.mem_append_right _ ?_
  unfold tables_1
  match k, h with
  | 0, h => exact List.mem_append_left _ h
  | 1, h => exact List.mem_append_right _ (List.mem_append_left _ h)
  | 2, h => exact List.mem_append_right _ (List.mem_append_right _ (List.mem_append_left _ h))
  | 3, h => exact List.mem_append_right _ (List.mem_append_right _ (List.mem_append_right _ (List.mem_append_left _ h)))
  | 4, h => exact List.mem_append_right _ (List.mem_append_right _ (List.mem_append_right _ (List.mem_append_right _ (List.mem_append_left _ h))))
  | 5, h => exact List.mem_append_right _ (List.mem_append_right _ (List.mem_append_right _ (List.mem_append_right _ (List.mem_append_right _ (List.mem_append_left _ h)))))
  | 6, h => exact List.mem_append_right _ (List.mem_append_right _ (List.mem_append_right _ (List.mem_append_right _ (List.mem_append_right _ (List.mem_append_right _ (List.mem_append_left _ h))))))
  | 7, h => exact List.mem_append_right _ (List.mem_append_right _ (List.mem_append_right _ (List.mem_append_right _ (List.mem_append_right _ (List.mem_append_right _ (List.mem_append_right _ (h)))))))
  | k + 8, h => exact absurd h (by simp)
theorem j_cw_all : ∀ (y : Nat) (q : j_M), j_meth[y]? = some q → y ≠ 271 → Cond.code q.1 q.2.1 q.2.2.1 q.2.2.2.1 ∈ lw_tbl := fun y q h hy => match y, h, hy with
  | 0, h, _ => by cases Option.some.inj ((rfl : j_meth[0]? = some _).symm.trans h); exact j_tab 0 j_cw_0
  | 1, h, _ => by cases Option.some.inj ((rfl : j_meth[1]? = some _).symm.trans h); exact j_tab 2 j_cw_1
  | 2, h, _ => by cases Option.some.inj ((rfl : j_meth[2]? = some _).symm.trans h); exact j_tab 2 j_cw_2
  | 3, h, _ => by cases Option.some.inj ((rfl : j_meth[3]? = some _).symm.trans h); exact j_tab 2 j_cw_3
  | 4, h, _ => by cases Option.some.inj ((rfl : j_meth[4]? = some _).symm.trans h); exact j_tab 2 j_cw_4
  | 5, h, _ => by cases Option.some.inj ((rfl : j_meth[5]? = some _).symm.trans h); exact j_tab 2 j_cw_5
  | 6, h, _ => by cases Option.some.inj ((rfl : j_meth[6]? = some _).symm.trans h); exact j_tab 2 j_cw_6
  | 7, h, _ => by cases Option.some.inj ((rfl : j_meth[7]? = some _).symm.trans h); exact j_tab 0 j_cw_7
  | 8, h, _ => by cases Option.some.inj ((rfl : j_meth[8]? = some _).symm.trans h); exact j_tab 3 j_cw_8
  | 9, h, _ => by cases Option.some.inj ((rfl : j_meth[9]? = some _).symm.trans h); exact j_tab 1 j_cw_9
  | 10, h, _ => by cases Option.some.inj ((rfl : j_meth[10]? = some _).symm.trans h); exact j_tab 1 j_cw_10
  | 11, h, _ => by cases Option.some.inj ((rfl : j_meth[11]? = some _).symm.trans h); exact j_tab 2 j_cw_11
  | 12, h, _ => by cases Option.some.inj ((rfl : j_meth[12]? = some _).symm.trans h); exact j_tab 1 j_cw_12
  | 13, h, _ => by cases Option.some.inj ((rfl : j_meth[13]? = some _).symm.trans h); exact j_tab 2 j_cw_13
  | 14, h, _ => by cases Option.some.inj ((rfl : j_meth[14]? = some _).symm.trans h); exact j_tab 3 j_cw_14
  | 15, h, _ => by cases Option.some.inj ((rfl : j_meth[15]? = some _).symm.trans h); exact j_tab 3 j_cw_15
  | 16, h, _ => by cases Option.some.inj ((rfl : j_meth[16]? = some _).symm.trans h); exact j_tab 3 j_cw_16
  | 17, h, _ => by cases Option.some.inj ((rfl : j_meth[17]? = some _).symm.trans h); exact j_tab 4 j_cw_17
  | 18, h, _ => by cases Option.some.inj ((rfl : j_meth[18]? = some _).symm.trans h); exact j_tab 3 j_cw_18
  | 19, h, _ => by cases Option.some.inj ((rfl : j_meth[19]? = some _).symm.trans h); exact j_tab 3 j_cw_19
  | 20, h, _ => by cases Option.some.inj ((rfl : j_meth[20]? = some _).symm.trans h); exact j_tab 0 j_cw_20
  | 21, h, _ => by cases Option.some.inj ((rfl : j_meth[21]? = some _).symm.trans h); exact j_tab 4 j_cw_21
  | 22, h, _ => by cases Option.some.inj ((rfl : j_meth[22]? = some _).symm.trans h); exact j_tab 1 j_cw_22
  | 23, h, _ => by cases Option.some.inj ((rfl : j_meth[23]? = some _).symm.trans h); exact j_tab 3 j_cw_23
  | 24, h, _ => by cases Option.some.inj ((rfl : j_meth[24]? = some _).symm.trans h); exact j_tab 3 j_cw_24
  | 25, h, _ => by cases Option.some.inj ((rfl : j_meth[25]? = some _).symm.trans h); exact j_tab 3 j_cw_25
  | 26, h, _ => by cases Option.some.inj ((rfl : j_meth[26]? = some _).symm.trans h); exact j_tab 3 j_cw_26
  | 27, h, _ => by cases Option.some.inj ((rfl : j_meth[27]? = some _).symm.trans h); exact j_tab 3 j_cw_27
  | 28, h, _ => by cases Option.some.inj ((rfl : j_meth[28]? = some _).symm.trans h); exact j_tab 0 j_cw_28
  | 29, h, _ => by cases Option.some.inj ((rfl : j_meth[29]? = some _).symm.trans h); exact j_tab 2 j_cw_29
  | 30, h, _ => by cases Option.some.inj ((rfl : j_meth[30]? = some _).symm.trans h); exact j_tab 3 j_cw_30
  | 31, h, _ => by cases Option.some.inj ((rfl : j_meth[31]? = some _).symm.trans h); exact j_tab 0 j_cw_31
  | 32, h, _ => by cases Option.some.inj ((rfl : j_meth[32]? = some _).symm.trans h); exact j_tab 4 j_cw_32
  | 33, h, _ => by cases Option.some.inj ((rfl : j_meth[33]? = some _).symm.trans h); exact j_tab 1 j_cw_33
  | 34, h, _ => by cases Option.some.inj ((rfl : j_meth[34]? = some _).symm.trans h); exact j_tab 3 j_cw_34
  | 35, h, _ => by cases Option.some.inj ((rfl : j_meth[35]? = some _).symm.trans h); exact j_tab 3 j_cw_35
  | 36, h, _ => by cases Option.some.inj ((rfl : j_meth[36]? = some _).symm.trans h); exact j_tab 3 j_cw_36
  | 37, h, _ => by cases Option.some.inj ((rfl : j_meth[37]? = some _).symm.trans h); exact j_tab 0 j_cw_37
  | 38, h, _ => by cases Option.some.inj ((rfl : j_meth[38]? = some _).symm.trans h); exact j_tab 2 j_cw_38
  | 39, h, _ => by cases Option.some.inj ((rfl : j_meth[39]? = some _).symm.trans h); exact j_tab 2 j_cw_39
  | 40, h, _ => by cases Option.some.inj ((rfl : j_meth[40]? = some _).symm.trans h); exact j_tab 3 j_cw_40
  | 41, h, _ => by cases Option.some.inj ((rfl : j_meth[41]? = some _).symm.trans h); exact j_tab 3 j_cw_41
  | 42, h, _ => by cases Option.some.inj ((rfl : j_meth[42]? = some _).symm.trans h); exact j_tab 2 j_cw_42
  | 43, h, _ => by cases Option.some.inj ((rfl : j_meth[43]? = some _).symm.trans h); exact j_tab 2 j_cw_43
  | 44, h, _ => by cases Option.some.inj ((rfl : j_meth[44]? = some _).symm.trans h); exact j_tab 2 j_cw_44
  | 45, h, _ => by cases Option.some.inj ((rfl : j_meth[45]? = some _).symm.trans h); exact j_tab 2 j_cw_45
  | 46, h, _ => by cases Option.some.inj ((rfl : j_meth[46]? = some _).symm.trans h); exact j_tab 2 j_cw_46
  | 47, h, _ => by cases Option.some.inj ((rfl : j_meth[47]? = some _).symm.trans h); exact j_tab 2 j_cw_47
  | 48, h, _ => by cases Option.some.inj ((rfl : j_meth[48]? = some _).symm.trans h); exact j_tab 2 j_cw_48
  | 49, h, _ => by cases Option.some.inj ((rfl : j_meth[49]? = some _).symm.trans h); exact j_tab 2 j_cw_49
  | 50, h, _ => by cases Option.some.inj ((rfl : j_meth[50]? = some _).symm.trans h); exact j_tab 2 j_cw_50
  | 51, h, _ => by cases Option.some.inj ((rfl : j_meth[51]? = some _).symm.trans h); exact j_tab 2 j_cw_51
  | 52, h, _ => by cases Option.some.inj ((rfl : j_meth[52]? = some _).symm.trans h); exact j_tab 2 j_cw_52
  | 53, h, _ => by cases Option.some.inj ((rfl : j_meth[53]? = some _).symm.trans h); exact j_tab 2 j_cw_53
  | 54, h, _ => by cases Option.some.inj ((rfl : j_meth[54]? = some _).symm.trans h); exact j_tab 3 j_cw_54
  | 55, h, _ => by cases Option.some.inj ((rfl : j_meth[55]? = some _).symm.trans h); exact j_tab 2 j_cw_55
  | 56, h, _ => by cases Option.some.inj ((rfl : j_meth[56]? = some _).symm.trans h); exact j_tab 2 j_cw_56
  | 57, h, _ => by cases Option.some.inj ((rfl : j_meth[57]? = some _).symm.trans h); exact j_tab 3 j_cw_57
  | 58, h, _ => by cases Option.some.inj ((rfl : j_meth[58]? = some _).symm.trans h); exact j_tab 2 j_cw_58
  | 59, h, _ => by cases Option.some.inj ((rfl : j_meth[59]? = some _).symm.trans h); exact j_tab 2 j_cw_59
  | 60, h, _ => by cases Option.some.inj ((rfl : j_meth[60]? = some _).symm.trans h); exact j_tab 1 j_cw_60
  | 61, h, _ => by cases Option.some.inj ((rfl : j_meth[61]? = some _).symm.trans h); exact j_tab 4 j_cw_61
  | 62, h, _ => by cases Option.some.inj ((rfl : j_meth[62]? = some _).symm.trans h); exact j_tab 4 j_cw_62
  | 63, h, _ => by cases Option.some.inj ((rfl : j_meth[63]? = some _).symm.trans h); exact j_tab 4 j_cw_63
  | 64, h, _ => by cases Option.some.inj ((rfl : j_meth[64]? = some _).symm.trans h); exact j_tab 1 j_cw_64
  | 65, h, _ => by cases Option.some.inj ((rfl : j_meth[65]? = some _).symm.trans h); exact j_tab 2 j_cw_65
  | 66, h, _ => by cases Option.some.inj ((rfl : j_meth[66]? = some _).symm.trans h); exact j_tab 2 j_cw_66
  | 67, h, _ => by cases Option.some.inj ((rfl : j_meth[67]? = some _).symm.trans h); exact j_tab 2 j_cw_67
  | 68, h, _ => by cases Option.some.inj ((rfl : j_meth[68]? = some _).symm.trans h); exact j_tab 2 j_cw_68
  | 69, h, _ => by cases Option.some.inj ((rfl : j_meth[69]? = some _).symm.trans h); exact j_tab 2 j_cw_69
  | 70, h, _ => by cases Option.some.inj ((rfl : j_meth[70]? = some _).symm.trans h); exact j_tab 2 j_cw_70
  | 71, h, _ => by cases Option.some.inj ((rfl : j_meth[71]? = some _).symm.trans h); exact j_tab 2 j_cw_71
  | 72, h, _ => by cases Option.some.inj ((rfl : j_meth[72]? = some _).symm.trans h); exact j_tab 2 j_cw_72
  | 73, h, _ => by cases Option.some.inj ((rfl : j_meth[73]? = some _).symm.trans h); exact j_tab 1 j_cw_73
  | 74, h, _ => by cases Option.some.inj ((rfl : j_meth[74]? = some _).symm.trans h); exact j_tab 3 j_cw_74
  | 75, h, _ => by cases Option.some.inj ((rfl : j_meth[75]? = some _).symm.trans h); exact j_tab 3 j_cw_75
  | 76, h, _ => by cases Option.some.inj ((rfl : j_meth[76]? = some _).symm.trans h); exact j_tab 3 j_cw_76
  | 77, h, _ => by cases Option.some.inj ((rfl : j_meth[77]? = some _).symm.trans h); exact j_tab 3 j_cw_77
  | 78, h, _ => by cases Option.some.inj ((rfl : j_meth[78]? = some _).symm.trans h); exact j_tab 3 j_cw_78
  | 79, h, _ => by cases Option.some.inj ((rfl : j_meth[79]? = some _).symm.trans h); exact j_tab 3 j_cw_79
  | 80, h, _ => by cases Option.some.inj ((rfl : j_meth[80]? = some _).symm.trans h); exact j_tab 1 j_cw_80
  | 81, h, _ => by cases Option.some.inj ((rfl : j_meth[81]? = some _).symm.trans h); exact j_tab 3 j_cw_81
  | 82, h, _ => by cases Option.some.inj ((rfl : j_meth[82]? = some _).symm.trans h); exact j_tab 3 j_cw_82
  | 83, h, _ => by cases Option.some.inj ((rfl : j_meth[83]? = some _).symm.trans h); exact j_tab 3 j_cw_83
  | 84, h, _ => by cases Option.some.inj ((rfl : j_meth[84]? = some _).symm.trans h); exact j_tab 3 j_cw_84
  | 85, h, _ => by cases Option.some.inj ((rfl : j_meth[85]? = some _).symm.trans h); exact j_tab 3 j_cw_85
  | 86, h, _ => by cases Option.some.inj ((rfl : j_meth[86]? = some _).symm.trans h); exact j_tab 3 j_cw_86
  | 87, h, _ => by cases Option.some.inj ((rfl : j_meth[87]? = some _).symm.trans h); exact j_tab 0 j_cw_87
  | 88, h, _ => by cases Option.some.inj ((rfl : j_meth[88]? = some _).symm.trans h); exact j_tab 1 j_cw_88
  | 89, h, _ => by cases Option.some.inj ((rfl : j_meth[89]? = some _).symm.trans h); exact j_tab 1 j_cw_89
  | 90, h, _ => by cases Option.some.inj ((rfl : j_meth[90]? = some _).symm.trans h); exact j_tab 1 j_cw_90
  | 91, h, _ => by cases Option.some.inj ((rfl : j_meth[91]? = some _).symm.trans h); exact j_tab 1 j_cw_91
  | 92, h, _ => by cases Option.some.inj ((rfl : j_meth[92]? = some _).symm.trans h); exact j_tab 2 j_cw_92
  | 93, h, _ => by cases Option.some.inj ((rfl : j_meth[93]? = some _).symm.trans h); exact j_tab 2 j_cw_93
  | 94, h, _ => by cases Option.some.inj ((rfl : j_meth[94]? = some _).symm.trans h); exact j_tab 2 j_cw_94
  | 95, h, _ => by cases Option.some.inj ((rfl : j_meth[95]? = some _).symm.trans h); exact j_tab 2 j_cw_95
  | 96, h, _ => by cases Option.some.inj ((rfl : j_meth[96]? = some _).symm.trans h); exact j_tab 2 j_cw_96
  | 97, h, _ => by cases Option.some.inj ((rfl : j_meth[97]? = some _).symm.trans h); exact j_tab 2 j_cw_97
  | 98, h, _ => by cases Option.some.inj ((rfl : j_meth[98]? = some _).symm.trans h); exact j_tab 2 j_cw_98
  | 99, h, _ => by cases Option.some.inj ((rfl : j_meth[99]? = some _).symm.trans h); exact j_tab 2 j_cw_99
  | 100, h, _ => by cases Option.some.inj ((rfl : j_meth[100]? = some _).symm.trans h); exact j_tab 2 j_cw_100
  | 101, h, _ => by cases Option.some.inj ((rfl : j_meth[101]? = some _).symm.trans h); exact j_tab 2 j_cw_101
  | 102, h, _ => by cases Option.some.inj ((rfl : j_meth[102]? = some _).symm.trans h); exact j_tab 2 j_cw_102
  | 103, h, _ => by cases Option.some.inj ((rfl : j_meth[103]? = some _).symm.trans h); exact j_tab 2 j_cw_103
  | 104, h, _ => by cases Option.some.inj ((rfl : j_meth[104]? = some _).symm.trans h); exact j_tab 2 j_cw_104
  | 105, h, _ => by cases Option.some.inj ((rfl : j_meth[105]? = some _).symm.trans h); exact j_tab 2 j_cw_105
  | 106, h, _ => by cases Option.some.inj ((rfl : j_meth[106]? = some _).symm.trans h); exact j_tab 3 j_cw_106
  | 107, h, _ => by cases Option.some.inj ((rfl : j_meth[107]? = some _).symm.trans h); exact j_tab 3 j_cw_107
  | 108, h, _ => by cases Option.some.inj ((rfl : j_meth[108]? = some _).symm.trans h); exact j_tab 3 j_cw_108
  | 109, h, _ => by cases Option.some.inj ((rfl : j_meth[109]? = some _).symm.trans h); exact j_tab 3 j_cw_109
  | 110, h, _ => by cases Option.some.inj ((rfl : j_meth[110]? = some _).symm.trans h); exact j_tab 3 j_cw_110
  | 111, h, _ => by cases Option.some.inj ((rfl : j_meth[111]? = some _).symm.trans h); exact j_tab 3 j_cw_111
  | 112, h, _ => by cases Option.some.inj ((rfl : j_meth[112]? = some _).symm.trans h); exact j_tab 3 j_cw_112
  | 113, h, _ => by cases Option.some.inj ((rfl : j_meth[113]? = some _).symm.trans h); exact j_tab 3 j_cw_113
  | 114, h, _ => by cases Option.some.inj ((rfl : j_meth[114]? = some _).symm.trans h); exact j_tab 3 j_cw_114
  | 115, h, _ => by cases Option.some.inj ((rfl : j_meth[115]? = some _).symm.trans h); exact j_tab 3 j_cw_115
  | 116, h, _ => by cases Option.some.inj ((rfl : j_meth[116]? = some _).symm.trans h); exact j_tab 3 j_cw_116
  | 117, h, _ => by cases Option.some.inj ((rfl : j_meth[117]? = some _).symm.trans h); exact j_tab 3 j_cw_117
  | 118, h, _ => by cases Option.some.inj ((rfl : j_meth[118]? = some _).symm.trans h); exact j_tab 3 j_cw_118
  | 119, h, _ => by cases Option.some.inj ((rfl : j_meth[119]? = some _).symm.trans h); exact j_tab 3 j_cw_119
  | 120, h, _ => by cases Option.some.inj ((rfl : j_meth[120]? = some _).symm.trans h); exact j_tab 3 j_cw_120
  | 121, h, _ => by cases Option.some.inj ((rfl : j_meth[121]? = some _).symm.trans h); exact j_tab 3 j_cw_121
  | 122, h, _ => by cases Option.some.inj ((rfl : j_meth[122]? = some _).symm.trans h); exact j_tab 3 j_cw_122
  | 123, h, _ => by cases Option.some.inj ((rfl : j_meth[123]? = some _).symm.trans h); exact j_tab 3 j_cw_123
  | 124, h, _ => by cases Option.some.inj ((rfl : j_meth[124]? = some _).symm.trans h); exact j_tab 3 j_cw_124
  | 125, h, _ => by cases Option.some.inj ((rfl : j_meth[125]? = some _).symm.trans h); exact j_tab 3 j_cw_125
  | 126, h, _ => by cases Option.some.inj ((rfl : j_meth[126]? = some _).symm.trans h); exact j_tab 4 j_cw_126
  | 127, h, _ => by cases Option.some.inj ((rfl : j_meth[127]? = some _).symm.trans h); exact j_tab 4 j_cw_127
  | 128, h, _ => by cases Option.some.inj ((rfl : j_meth[128]? = some _).symm.trans h); exact j_tab 4 j_cw_128
  | 129, h, _ => by cases Option.some.inj ((rfl : j_meth[129]? = some _).symm.trans h); exact j_tab 4 j_cw_129
  | 130, h, _ => by cases Option.some.inj ((rfl : j_meth[130]? = some _).symm.trans h); exact j_tab 4 j_cw_130
  | 131, h, _ => by cases Option.some.inj ((rfl : j_meth[131]? = some _).symm.trans h); exact j_tab 4 j_cw_131
  | 132, h, _ => by cases Option.some.inj ((rfl : j_meth[132]? = some _).symm.trans h); exact j_tab 4 j_cw_132
  | 133, h, _ => by cases Option.some.inj ((rfl : j_meth[133]? = some _).symm.trans h); exact j_tab 4 j_cw_133
  | 134, h, _ => by cases Option.some.inj ((rfl : j_meth[134]? = some _).symm.trans h); exact j_tab 4 j_cw_134
  | 135, h, _ => by cases Option.some.inj ((rfl : j_meth[135]? = some _).symm.trans h); exact j_tab 1 j_cw_135
  | 136, h, _ => by cases Option.some.inj ((rfl : j_meth[136]? = some _).symm.trans h); exact j_tab 2 j_cw_136
  | 137, h, _ => by cases Option.some.inj ((rfl : j_meth[137]? = some _).symm.trans h); exact j_tab 2 j_cw_137
  | 138, h, _ => by cases Option.some.inj ((rfl : j_meth[138]? = some _).symm.trans h); exact j_tab 3 j_cw_138
  | 139, h, _ => by cases Option.some.inj ((rfl : j_meth[139]? = some _).symm.trans h); exact j_tab 1 j_cw_139
  | 140, h, _ => by cases Option.some.inj ((rfl : j_meth[140]? = some _).symm.trans h); exact j_tab 2 j_cw_140
  | 141, h, _ => by cases Option.some.inj ((rfl : j_meth[141]? = some _).symm.trans h); exact j_tab 2 j_cw_141
  | 142, h, _ => by cases Option.some.inj ((rfl : j_meth[142]? = some _).symm.trans h); exact j_tab 4 j_cw_142
  | 143, h, _ => by cases Option.some.inj ((rfl : j_meth[143]? = some _).symm.trans h); exact j_tab 3 j_cw_143
  | 144, h, _ => by cases Option.some.inj ((rfl : j_meth[144]? = some _).symm.trans h); exact j_tab 2 j_cw_144
  | 145, h, _ => by cases Option.some.inj ((rfl : j_meth[145]? = some _).symm.trans h); exact j_tab 3 j_cw_145
  | 146, h, _ => by cases Option.some.inj ((rfl : j_meth[146]? = some _).symm.trans h); exact j_tab 2 j_cw_146
  | 147, h, _ => by cases Option.some.inj ((rfl : j_meth[147]? = some _).symm.trans h); exact j_tab 4 j_cw_147
  | 148, h, _ => by cases Option.some.inj ((rfl : j_meth[148]? = some _).symm.trans h); exact j_tab 4 j_cw_148
  | 149, h, _ => by cases Option.some.inj ((rfl : j_meth[149]? = some _).symm.trans h); exact j_tab 4 j_cw_149
  | 150, h, _ => by cases Option.some.inj ((rfl : j_meth[150]? = some _).symm.trans h); exact j_tab 5 j_cw_150
  | 151, h, _ => by cases Option.some.inj ((rfl : j_meth[151]? = some _).symm.trans h); exact j_tab 5 j_cw_151
  | 152, h, _ => by cases Option.some.inj ((rfl : j_meth[152]? = some _).symm.trans h); exact j_tab 5 j_cw_152
  | 153, h, _ => by cases Option.some.inj ((rfl : j_meth[153]? = some _).symm.trans h); exact j_tab 5 j_cw_153
  | 154, h, _ => by cases Option.some.inj ((rfl : j_meth[154]? = some _).symm.trans h); exact j_tab 5 j_cw_154
  | 155, h, _ => by cases Option.some.inj ((rfl : j_meth[155]? = some _).symm.trans h); exact j_tab 5 j_cw_155
  | 156, h, _ => by cases Option.some.inj ((rfl : j_meth[156]? = some _).symm.trans h); exact j_tab 5 j_cw_156
  | 157, h, _ => by cases Option.some.inj ((rfl : j_meth[157]? = some _).symm.trans h); exact j_tab 5 j_cw_157
  | 158, h, _ => by cases Option.some.inj ((rfl : j_meth[158]? = some _).symm.trans h); exact j_tab 5 j_cw_158
  | 159, h, _ => by cases Option.some.inj ((rfl : j_meth[159]? = some _).symm.trans h); exact j_tab 5 j_cw_159
  | 160, h, _ => by cases Option.some.inj ((rfl : j_meth[160]? = some _).symm.trans h); exact j_tab 5 j_cw_160
  | 161, h, _ => by cases Option.some.inj ((rfl : j_meth[161]? = some _).symm.trans h); exact j_tab 5 j_cw_161
  | 162, h, _ => by cases Option.some.inj ((rfl : j_meth[162]? = some _).symm.trans h); exact j_tab 5 j_cw_162
  | 163, h, _ => by cases Option.some.inj ((rfl : j_meth[163]? = some _).symm.trans h); exact j_tab 5 j_cw_163
  | 164, h, _ => by cases Option.some.inj ((rfl : j_meth[164]? = some _).symm.trans h); exact j_tab 5 j_cw_164
  | 165, h, _ => by cases Option.some.inj ((rfl : j_meth[165]? = some _).symm.trans h); exact j_tab 5 j_cw_165
  | 166, h, _ => by cases Option.some.inj ((rfl : j_meth[166]? = some _).symm.trans h); exact j_tab 5 j_cw_166
  | 167, h, _ => by cases Option.some.inj ((rfl : j_meth[167]? = some _).symm.trans h); exact j_tab 5 j_cw_167
  | 168, h, _ => by cases Option.some.inj ((rfl : j_meth[168]? = some _).symm.trans h); exact j_tab 5 j_cw_168
  | 169, h, _ => by cases Option.some.inj ((rfl : j_meth[169]? = some _).symm.trans h); exact j_tab 5 j_cw_169
  | 170, h, _ => by cases Option.some.inj ((rfl : j_meth[170]? = some _).symm.trans h); exact j_tab 5 j_cw_170
  | 171, h, _ => by cases Option.some.inj ((rfl : j_meth[171]? = some _).symm.trans h); exact j_tab 5 j_cw_171
  | 172, h, _ => by cases Option.some.inj ((rfl : j_meth[172]? = some _).symm.trans h); exact j_tab 5 j_cw_172
  | 173, h, _ => by cases Option.some.inj ((rfl : j_meth[173]? = some _).symm.trans h); exact j_tab 5 j_cw_173
  | 174, h, _ => by cases Option.some.inj ((rfl : j_meth[174]? = some _).symm.trans h); exact j_tab 5 j_cw_174
  | 175, h, _ => by cases Option.some.inj ((rfl : j_meth[175]? = some _).symm.trans h); exact j_tab 5 j_cw_175
  | 176, h, _ => by cases Option.some.inj ((rfl : j_meth[176]? = some _).symm.trans h); exact j_tab 5 j_cw_176
  | 177, h, _ => by cases Option.some.inj ((rfl : j_meth[177]? = some _).symm.trans h); exact j_tab 5 j_cw_177
  | 178, h, _ => by cases Option.some.inj ((rfl : j_meth[178]? = some _).symm.trans h); exact j_tab 5 j_cw_178
  | 179, h, _ => by cases Option.some.inj ((rfl : j_meth[179]? = some _).symm.trans h); exact j_tab 5 j_cw_179
  | 180, h, _ => by cases Option.some.inj ((rfl : j_meth[180]? = some _).symm.trans h); exact j_tab 5 j_cw_180
  | 181, h, _ => by cases Option.some.inj ((rfl : j_meth[181]? = some _).symm.trans h); exact j_tab 5 j_cw_181
  | 182, h, _ => by cases Option.some.inj ((rfl : j_meth[182]? = some _).symm.trans h); exact j_tab 5 j_cw_182
  | 183, h, _ => by cases Option.some.inj ((rfl : j_meth[183]? = some _).symm.trans h); exact j_tab 5 j_cw_183
  | 184, h, _ => by cases Option.some.inj ((rfl : j_meth[184]? = some _).symm.trans h); exact j_tab 5 j_cw_184
  | 185, h, _ => by cases Option.some.inj ((rfl : j_meth[185]? = some _).symm.trans h); exact j_tab 5 j_cw_185
  | 186, h, _ => by cases Option.some.inj ((rfl : j_meth[186]? = some _).symm.trans h); exact j_tab 5 j_cw_186
  | 187, h, _ => by cases Option.some.inj ((rfl : j_meth[187]? = some _).symm.trans h); exact j_tab 5 j_cw_187
  | 188, h, _ => by cases Option.some.inj ((rfl : j_meth[188]? = some _).symm.trans h); exact j_tab 5 j_cw_188
  | 189, h, _ => by cases Option.some.inj ((rfl : j_meth[189]? = some _).symm.trans h); exact j_tab 5 j_cw_189
  | 190, h, _ => by cases Option.some.inj ((rfl : j_meth[190]? = some _).symm.trans h); exact j_tab 5 j_cw_190
  | 191, h, _ => by cases Option.some.inj ((rfl : j_meth[191]? = some _).symm.trans h); exact j_tab 5 j_cw_191
  | 192, h, _ => by cases Option.some.inj ((rfl : j_meth[192]? = some _).symm.trans h); exact j_tab 6 j_cw_192
  | 193, h, _ => by cases Option.some.inj ((rfl : j_meth[193]? = some _).symm.trans h); exact j_tab 5 j_cw_193
  | 194, h, _ => by cases Option.some.inj ((rfl : j_meth[194]? = some _).symm.trans h); exact j_tab 5 j_cw_194
  | 195, h, _ => by cases Option.some.inj ((rfl : j_meth[195]? = some _).symm.trans h); exact j_tab 5 j_cw_195
  | 196, h, _ => by cases Option.some.inj ((rfl : j_meth[196]? = some _).symm.trans h); exact j_tab 5 j_cw_196
  | 197, h, _ => by cases Option.some.inj ((rfl : j_meth[197]? = some _).symm.trans h); exact j_tab 5 j_cw_197
  | 198, h, _ => by cases Option.some.inj ((rfl : j_meth[198]? = some _).symm.trans h); exact j_tab 5 j_cw_198
  | 199, h, _ => by cases Option.some.inj ((rfl : j_meth[199]? = some _).symm.trans h); exact j_tab 5 j_cw_199
  | 200, h, _ => by cases Option.some.inj ((rfl : j_meth[200]? = some _).symm.trans h); exact j_tab 5 j_cw_200
  | 201, h, _ => by cases Option.some.inj ((rfl : j_meth[201]? = some _).symm.trans h); exact j_tab 5 j_cw_201
  | 202, h, _ => by cases Option.some.inj ((rfl : j_meth[202]? = some _).symm.trans h); exact j_tab 5 j_cw_202
  | 203, h, _ => by cases Option.some.inj ((rfl : j_meth[203]? = some _).symm.trans h); exact j_tab 5 j_cw_203
  | 204, h, _ => by cases Option.some.inj ((rfl : j_meth[204]? = some _).symm.trans h); exact j_tab 5 j_cw_204
  | 205, h, _ => by cases Option.some.inj ((rfl : j_meth[205]? = some _).symm.trans h); exact j_tab 5 j_cw_205
  | 206, h, _ => by cases Option.some.inj ((rfl : j_meth[206]? = some _).symm.trans h); exact j_tab 6 j_cw_206
  | 207, h, _ => by cases Option.some.inj ((rfl : j_meth[207]? = some _).symm.trans h); exact j_tab 6 j_cw_207
  | 208, h, _ => by cases Option.some.inj ((rfl : j_meth[208]? = some _).symm.trans h); exact j_tab 6 j_cw_208
  | 209, h, _ => by cases Option.some.inj ((rfl : j_meth[209]? = some _).symm.trans h); exact j_tab 6 j_cw_209
  | 210, h, _ => by cases Option.some.inj ((rfl : j_meth[210]? = some _).symm.trans h); exact j_tab 6 j_cw_210
  | 211, h, _ => by cases Option.some.inj ((rfl : j_meth[211]? = some _).symm.trans h); exact j_tab 6 j_cw_211
  | 212, h, _ => by cases Option.some.inj ((rfl : j_meth[212]? = some _).symm.trans h); exact j_tab 6 j_cw_212
  | 213, h, _ => by cases Option.some.inj ((rfl : j_meth[213]? = some _).symm.trans h); exact j_tab 6 j_cw_213
  | 214, h, _ => by cases Option.some.inj ((rfl : j_meth[214]? = some _).symm.trans h); exact j_tab 6 j_cw_214
  | 215, h, _ => by cases Option.some.inj ((rfl : j_meth[215]? = some _).symm.trans h); exact j_tab 6 j_cw_215
  | 216, h, _ => by cases Option.some.inj ((rfl : j_meth[216]? = some _).symm.trans h); exact j_tab 6 j_cw_216
  | 217, h, _ => by cases Option.some.inj ((rfl : j_meth[217]? = some _).symm.trans h); exact j_tab 6 j_cw_217
  | 218, h, _ => by cases Option.some.inj ((rfl : j_meth[218]? = some _).symm.trans h); exact j_tab 6 j_cw_218
  | 219, h, _ => by cases Option.some.inj ((rfl : j_meth[219]? = some _).symm.trans h); exact j_tab 6 j_cw_219
  | 220, h, _ => by cases Option.some.inj ((rfl : j_meth[220]? = some _).symm.trans h); exact j_tab 6 j_cw_220
  | 221, h, _ => by cases Option.some.inj ((rfl : j_meth[221]? = some _).symm.trans h); exact j_tab 6 j_cw_221
  | 222, h, _ => by cases Option.some.inj ((rfl : j_meth[222]? = some _).symm.trans h); exact j_tab 6 j_cw_222
  | 223, h, _ => by cases Option.some.inj ((rfl : j_meth[223]? = some _).symm.trans h); exact j_tab 6 j_cw_223
  | 224, h, _ => by cases Option.some.inj ((rfl : j_meth[224]? = some _).symm.trans h); exact j_tab 6 j_cw_224
  | 225, h, _ => by cases Option.some.inj ((rfl : j_meth[225]? = some _).symm.trans h); exact j_tab 6 j_cw_225
  | 226, h, _ => by cases Option.some.inj ((rfl : j_meth[226]? = some _).symm.trans h); exact j_tab 6 j_cw_226
  | 227, h, _ => by cases Option.some.inj ((rfl : j_meth[227]? = some _).symm.trans h); exact j_tab 6 j_cw_227
  | 228, h, _ => by cases Option.some.inj ((rfl : j_meth[228]? = some _).symm.trans h); exact j_tab 6 j_cw_228
  | 229, h, _ => by cases Option.some.inj ((rfl : j_meth[229]? = some _).symm.trans h); exact j_tab 6 j_cw_229
  | 230, h, _ => by cases Option.some.inj ((rfl : j_meth[230]? = some _).symm.trans h); exact j_tab 6 j_cw_230
  | 231, h, _ => by cases Option.some.inj ((rfl : j_meth[231]? = some _).symm.trans h); exact j_tab 6 j_cw_231
  | 232, h, _ => by cases Option.some.inj ((rfl : j_meth[232]? = some _).symm.trans h); exact j_tab 6 j_cw_232
  | 233, h, _ => by cases Option.some.inj ((rfl : j_meth[233]? = some _).symm.trans h); exact j_tab 6 j_cw_233
  | 234, h, _ => by cases Option.some.inj ((rfl : j_meth[234]? = some _).symm.trans h); exact j_tab 6 j_cw_234
  | 235, h, _ => by cases Option.some.inj ((rfl : j_meth[235]? = some _).symm.trans h); exact j_tab 6 j_cw_235
  | 236, h, _ => by cases Option.some.inj ((rfl : j_meth[236]? = some _).symm.trans h); exact j_tab 6 j_cw_236
  | 237, h, _ => by cases Option.some.inj ((rfl : j_meth[237]? = some _).symm.trans h); exact j_tab 6 j_cw_237
  | 238, h, _ => by cases Option.some.inj ((rfl : j_meth[238]? = some _).symm.trans h); exact j_tab 6 j_cw_238
  | 239, h, _ => by cases Option.some.inj ((rfl : j_meth[239]? = some _).symm.trans h); exact j_tab 6 j_cw_239
  | 240, h, _ => by cases Option.some.inj ((rfl : j_meth[240]? = some _).symm.trans h); exact j_tab 6 j_cw_240
  | 241, h, _ => by cases Option.some.inj ((rfl : j_meth[241]? = some _).symm.trans h); exact j_tab 6 j_cw_241
  | 242, h, _ => by cases Option.some.inj ((rfl : j_meth[242]? = some _).symm.trans h); exact j_tab 6 j_cw_242
  | 243, h, _ => by cases Option.some.inj ((rfl : j_meth[243]? = some _).symm.trans h); exact j_tab 6 j_cw_243
  | 244, h, _ => by cases Option.some.inj ((rfl : j_meth[244]? = some _).symm.trans h); exact j_tab 6 j_cw_244
  | 245, h, _ => by cases Option.some.inj ((rfl : j_meth[245]? = some _).symm.trans h); exact j_tab 6 j_cw_245
  | 246, h, _ => by cases Option.some.inj ((rfl : j_meth[246]? = some _).symm.trans h); exact j_tab 6 j_cw_246
  | 247, h, _ => by cases Option.some.inj ((rfl : j_meth[247]? = some _).symm.trans h); exact j_tab 6 j_cw_247
  | 248, h, _ => by cases Option.some.inj ((rfl : j_meth[248]? = some _).symm.trans h); exact j_tab 6 j_cw_248
  | 249, h, _ => by cases Option.some.inj ((rfl : j_meth[249]? = some _).symm.trans h); exact j_tab 6 j_cw_249
  | 250, h, _ => by cases Option.some.inj ((rfl : j_meth[250]? = some _).symm.trans h); exact j_tab 6 j_cw_250
  | 251, h, _ => by cases Option.some.inj ((rfl : j_meth[251]? = some _).symm.trans h); exact j_tab 6 j_cw_251
  | 252, h, _ => by cases Option.some.inj ((rfl : j_meth[252]? = some _).symm.trans h); exact j_tab 6 j_cw_252
  | 253, h, _ => by cases Option.some.inj ((rfl : j_meth[253]? = some _).symm.trans h); exact j_tab 6 j_cw_253
  | 254, h, _ => by cases Option.some.inj ((rfl : j_meth[254]? = some _).symm.trans h); exact j_tab 6 j_cw_254
  | 255, h, _ => by cases Option.some.inj ((rfl : j_meth[255]? = some _).symm.trans h); exact j_tab 6 j_cw_255
  | 256, h, _ => by cases Option.some.inj ((rfl : j_meth[256]? = some _).symm.trans h); exact j_tab 6 j_cw_256
  | 257, h, _ => by cases Option.some.inj ((rfl : j_meth[257]? = some _).symm.trans h); exact j_tab 6 j_cw_257
  | 258, h, _ => by cases Option.some.inj ((rfl : j_meth[258]? = some _).symm.trans h); exact j_tab 6 j_cw_258
  | 259, h, _ => by cases Option.some.inj ((rfl : j_meth[259]? = some _).symm.trans h); exact j_tab 6 j_cw_259
  | 260, h, _ => by cases Option.some.inj ((rfl : j_meth[260]? = some _).symm.trans h); exact j_tab 6 j_cw_260
  | 261, h, _ => by cases Option.some.inj ((rfl : j_meth[261]? = some _).symm.trans h); exact j_tab 6 j_cw_261
  | 262, h, _ => by cases Option.some.inj ((rfl : j_meth[262]? = some _).symm.trans h); exact j_tab 7 j_cw_262
  | 263, h, _ => by cases Option.some.inj ((rfl : j_meth[263]? = some _).symm.trans h); exact j_tab 3 j_cw_263
  | 264, h, _ => by cases Option.some.inj ((rfl : j_meth[264]? = some _).symm.trans h); exact j_tab 6 j_cw_264
  | 265, h, _ => by cases Option.some.inj ((rfl : j_meth[265]? = some _).symm.trans h); exact j_tab 2 j_cw_265
  | 266, h, _ => by cases Option.some.inj ((rfl : j_meth[266]? = some _).symm.trans h); exact j_tab 2 j_cw_266
  | 267, h, _ => by cases Option.some.inj ((rfl : j_meth[267]? = some _).symm.trans h); exact j_tab 2 j_cw_267
  | 268, h, _ => by cases Option.some.inj ((rfl : j_meth[268]? = some _).symm.trans h); exact j_tab 6 j_cw_268
  | 269, h, _ => by cases Option.some.inj ((rfl : j_meth[269]? = some _).symm.trans h); exact j_tab 4 j_cw_269
  | 270, h, _ => by cases Option.some.inj ((rfl : j_meth[270]? = some _).symm.trans h); exact j_tab 1 j_cw_270
  | 271, _, hy => absurd rfl hy
  | k + 272, h, _ => by
    have h1 : (k + 272) < j_meth.length := (List.getElem?_eq_some_iff.mp h).1
    have h2 : j_meth.length = 272 := by decide +kernel
    omega
theorem j_mw_0 : (((j_meth.zip j_mw).drop 0).take 20).all (fun q => j_mok q.1 q.2) = true := by decide +kernel
theorem j_mw_1 : (((j_meth.zip j_mw).drop 20).take 20).all (fun q => j_mok q.1 q.2) = true := by decide +kernel
theorem j_mw_2 : (((j_meth.zip j_mw).drop 40).take 20).all (fun q => j_mok q.1 q.2) = true := by decide +kernel
theorem j_mw_3 : (((j_meth.zip j_mw).drop 60).take 20).all (fun q => j_mok q.1 q.2) = true := by decide +kernel
theorem j_mw_4 : (((j_meth.zip j_mw).drop 80).take 20).all (fun q => j_mok q.1 q.2) = true := by decide +kernel
theorem j_mw_5 : (((j_meth.zip j_mw).drop 100).take 20).all (fun q => j_mok q.1 q.2) = true := by decide +kernel
theorem j_mw_6 : (((j_meth.zip j_mw).drop 120).take 20).all (fun q => j_mok q.1 q.2) = true := by decide +kernel
theorem j_mw_7 : (((j_meth.zip j_mw).drop 140).take 20).all (fun q => j_mok q.1 q.2) = true := by decide +kernel
theorem j_mw_8 : (((j_meth.zip j_mw).drop 160).take 20).all (fun q => j_mok q.1 q.2) = true := by decide +kernel
theorem j_mw_9 : (((j_meth.zip j_mw).drop 180).take 20).all (fun q => j_mok q.1 q.2) = true := by decide +kernel
theorem j_mw_10 : (((j_meth.zip j_mw).drop 200).take 20).all (fun q => j_mok q.1 q.2) = true := by decide +kernel
theorem j_mw_11 : (((j_meth.zip j_mw).drop 220).take 20).all (fun q => j_mok q.1 q.2) = true := by decide +kernel
theorem j_mw_12 : (((j_meth.zip j_mw).drop 240).take 20).all (fun q => j_mok q.1 q.2) = true := by decide +kernel
theorem j_mw_13 : (((j_meth.zip j_mw).drop 260).take 11).all (fun q => j_mok q.1 q.2) = true := by decide +kernel
theorem j_len : j_meth.length = 272 ∧ j_code.length = 272 ∧ j_mw.length = 272 := by decide +kernel
def j_tf (c k : Nat) : FieldType := match c with
  | 0 => tyX0 k | 1 => tyX1 k | 2 => tyX2 k | 3 => tyX3 k | 4 => tyX4 k | 5 => tyX5 k | 6 => tyX6 k
  | 7 => tyX7 k | 8 => tyX8 k | 9 => tyX9 k | 10 => tyX10 k | 11 => tyX11 k | _ => tyX12 k
/-- the classes: their fields' words, types, names, and that they can be made -/
def j_clk (c : Nat) : Bool := match vwCl[c]? with
  | some q => (u_ws q.1 q.2.1 q.2.2).all (fun w => lw_tbl.any (fun v => decide (v = w)) && goodWord w) && ((List.range q.2.2).all (fun k => decide (parseFieldDescriptor (q.2.1 k).2.2.1 = some (j_tf c k)) && (decide ((q.2.1 k).1 = q.1) && (j_tf c k == .int || j_tf c k == .long || j_tf c k == .boolean || (match j_tf c k with | .object _ => true | .array _ => true | _ => false)))) && ((List.range q.2.2).all (fun a => (List.range q.2.2).all (fun b => a == b || decide ((q.2.1 a).2.1 ≠ (q.2.1 b).2.1))) && (lw_tbl.any (fun v => decide (v = .instantiable q.1 q.2.2)) && (goodWord (.instantiable q.1 q.2.2) && (lw_tbl.any (fun v => decide (v = .initialized q.1)) && (goodWord (.initialized q.1) && (decide (j_cnm c = q.1) && decide (q.2.2 < 100))))))))
  | none => false
theorem j_cl_ok : (List.range 13).all j_clk = true := by decide +kernel
def j_has (w : Cond) : Bool := lw_tbl.any (fun v => decide (v = w)) && goodWord w
theorem j_misc : (j_has (.instanceMethod objectInit) && (j_has (.code objectInit ⟨#[0xb1]⟩ 1 none) && (j_has (.native arraycopyName) && (j_has (.static arraycopyName) && (j_has (.initialized "java/lang/System") && (j_has (.arrayClass .int) && (j_has (.arrayClass .long) && (j_has (.arrayClass .byte) && (j_has (.arrayClass .boolean) && j_has (.classLink RX6 18 ("[" ++ (FieldType.array FieldType.long).toString))))))))))) = true := by decide +kernel
theorem j_over : lw_tbl.any (fun v => decide (v = .arrayOver (.array .long))) = true := by decide +kernel
theorem j_lays : lw_tbl.any (fun v => decide (v = .laysStatic "WholePacks" "TENS" "[I")) = true := by decide +kernel
theorem j_pf_ok : j_meth.all (fun q => plainName q.1.cls || (decide (q.1.cls = "java/lang/Math") && !(Jvm.Free.JP.floatDescs.contains q.1.desc))) = true := by decide +kernel
theorem j_pf {y : Nat} {q : j_M} (h : j_meth[y]? = some q) : plainFor q.1 = true := by
  have h1 := List.all_eq_true.mp j_pf_ok q (List.mem_of_getElem? h)
  rw [Bool.or_eq_true] at h1
  rcases h1 with h1 | h1
  · exact plainFor_of_name h1
  · rw [Bool.and_eq_true] at h1
    exact Jvm.Free.JP.mathPlain (of_decide_eq_true h1.1) (by simpa using h1.2)
