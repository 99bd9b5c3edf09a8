/-! The tables hold what the program's rows name: decided by the kernel. -/
/-- a word of the tables, by its place -/
def j_w (p : Nat) (w : Cond) : Bool := decide (lw_tb2[p]? = some w) && goodWord w
def j_ftw (t : Nat × Nat × Nat × Nat × Nat) : Bool := match vwCl[t.2.2.1]? with
  | some q => decide (t.2.2.2.1 < q.2.2) && (j_w t.2.2.2.2 (.fieldLink (j_cnm t.1) t.2.1 (q.2.1 t.2.2.2.1).1 (q.2.1 t.2.2.2.1).2.1 (q.2.1 t.2.2.2.1).2.2.1))
  | none => false
theorem j_ft_ok : j_ft.all j_ftw = true := by decide +kernel
def j_fnw (t : Nat × Nat × Nat × Nat × Nat × Nat) : Cond := .fieldLinkNest (j_cnm t.1) t.2.1 (j_cnm t.2.2.1) ((vwCl.getD t.2.2.1 ("", TX0, 0)).2.1 t.2.2.2.1).2.1 ((vwCl.getD t.2.2.1 ("", TX0, 0)).2.1 t.2.2.2.1).2.2.1 (j_cnm t.2.2.2.2.1)
def j_fnk (t : Nat × Nat × Nat × Nat × Nat × Nat) : Bool := match vwCl[t.2.2.1]? with
  | some q => decide (t.2.2.2.1 < q.2.2) && (decide ((q.2.1 t.2.2.2.1).1 = q.1) && decide (j_cnm t.2.2.1 = q.1) && decide (lw_tb2[t.2.2.2.2.2]? = some (j_fnw t)))
  | none => false
/-- statics of the JDK -/
def j_gsw (t : Nat × Nat × Nat × Nat) : Cond := if t.2.2.1 = 98 then .fieldLink (j_cnm t.1) t.2.1 "java/lang/String" "COMPACT_STRINGS" "Z" else if t.2.2.1 = 96 then .fieldLink (j_cnm t.1) t.2.1 "java/lang/Integer" "DigitOnes" "[B" else .fieldLink (j_cnm t.1) t.2.1 "java/lang/Integer" "DigitTens" "[B"
theorem j_gs_ok : j_gs.all (fun t => (t.2.2.1 == 98 || (t.2.2.1 == 96 || t.2.2.1 == 97)) && j_w t.2.2.2 (j_gsw t)) = true := by decide +kernel
/-- texts -/
theorem j_st_ok : j_st.all (fun t => match j_tx[t.2.2.1]? with | some x => decide (t.2.1 = x.1) && (t.1 == 13 && decide (lw_tb2[t.2.2.2]? = some (.stringRef (j_cnm t.1) t.2.1 x.2.1))) | none => false) = true := by decide +kernel
theorem j_fn_ok : j_fn.all j_fnk = true := by decide +kernel
theorem j_fs_ok : j_fs.all (fun t => j_w t.2.2 (.fieldLink (j_cnm t.1) t.2.1 "WholePacks" "TENS" "[I")) = true := by decide +kernel
def j_fsw (t : Nat × Nat × Nat × Nat) : Cond := .fieldLinkNest (j_cnm t.1) t.2.1 "WholePacks" "TENS" "[I" (j_cnm t.2.2.1)
theorem j_fsn_ok : j_fsn.all (fun t => decide (lw_tb2[t.2.2.2]? = some (j_fsw t))) = true := by decide +kernel
noncomputable def j_mnm (a : Nat) : MethodName := if a = 9999 then arraycopyName else if a = 9998 then objectInit else match j_meth[a]? with
  | some m => m.1
  | none => arraycopyName
/-- what StringBuilder has of its superclass -/
def j_asb (y : MethodName) : MethodName := ⟨"java/lang/AbstractStringBuilder", y.name, y.desc⟩
theorem j_vu_ok : j_vu.all (fun t => j_w t.2.2.2.2.1 (.methodLink (j_cnm t.1) t.2.1 (j_asb (j_mnm t.2.2.1))) && (j_w t.2.2.2.2.2.1 (.selects "java/lang/StringBuilder" (j_asb (j_mnm t.2.2.1)) (j_mnm t.2.2.1)) && (j_w t.2.2.2.2.2.2 (.sameMethod "java/lang/AbstractStringBuilder" "java/lang/AbstractStringBuilder" (j_mnm t.2.2.1).name (j_mnm t.2.2.1).desc) && ((t.2.2.2.1 == 1 && decide (j_mnm t.2.2.1 = j_asb (j_mnm t.2.2.1))) || (t.2.2.2.1 == 2 && t.2.2.1 == 287))))) = true := by decide +kernel
theorem j_mt_ok : j_mt.all (fun t => j_w t.2.2.2 (.methodLink (j_cnm t.1) t.2.1 (j_mnm t.2.2.1))) = true := by decide +kernel
noncomputable def j_mnw (t : Nat × Nat × Nat × Nat × Nat) : Cond := .methodLinkNest (j_cnm t.1) t.2.1 (j_mnm t.2.2.1) (j_cnm t.2.2.2.1)
theorem j_mn_ok : j_mn.all (fun t => decide (lw_tb2[t.2.2.2.2]? = some (j_mnw t))) = true := by decide +kernel
theorem j_ct_ok : j_ct.all (fun t => decide (t.2.2.1 < 13) && j_w t.2.2.2 (.classLink (j_cnm t.1) t.2.1 (j_cnm t.2.2.1))) = true := by decide +kernel
def j_ktw (t : Nat × Nat × Nat × Int × Nat) : Bool := if t.2.2.1 = 0 then j_w t.2.2.2.2 (.constant (j_cnm t.1) t.2.1 (Int32.ofInt t.2.2.2.1)) && decide ((Int32.ofInt t.2.2.2.1).toInt = t.2.2.2.1) else j_w t.2.2.2.2 (.constantLong (j_cnm t.1) t.2.1 (Int64.ofInt t.2.2.2.1)) && decide ((Int64.ofInt t.2.2.2.1).toInt = t.2.2.2.1)
theorem j_kt_ok : j_kt.all j_ktw = true := by decide +kernel
def j_has (w : Cond) : Bool := lw_tb2.any (fun v => decide (v = w)) && goodWord w
/-- a method's own words -/
def j_mok (y : Nat) (q : j_M) (w : Nat × Nat × Nat × Nat) : Bool := q.2.2.2.2.2.1 == 3 || (j_w w.2.1 (.initialized q.1.cls) && (decide (q.1.cls = j_cnm q.2.2.2.2.1) && ((decide (q.1.cls ≠ "java/lang/invoke/MethodHandle" ∧ q.1.cls ≠ "java/lang/invoke/VarHandle" ∧ (parseMethodDescriptor q.1.desc).map (fun d => d.parameters.length) = some (q.2.2.2.2.2.2 + if y = 277 ∨ y = 282 then 1 else 0)) && (decide (q.2.2.1 ≤ 13) &&
  (match q.2.2.2.2.2.1 with
  | 0 => j_w w.2.2.1 (.instanceMethod q.1) && ((!(decide (q.2.2.2.2.1 < 13) && y != 287) || j_w w.2.2.2 (.selects q.1.cls q.1 q.1)) && (decide (q.1.name ≠ "<init>") && (decide (q.2.2.2.2.1 < 13) || (q.2.2.2.2.1 == 16 && j_has (.sameMethod q.1.cls q.1.cls q.1.name q.1.desc)))))
  | 1 => j_w w.2.2.1 (.static q.1)
  | _ => j_w w.2.2.1 (.instanceMethod q.1) && (decide (q.1.name = "<init>") && decide (q.2.2.2.1 = none))))))))
set_option maxRecDepth 20000 in
theorem j_cw_0 : Cond.code yX0_init cX0_init 1 none ∈ tables_1_1 := List.mem_of_getElem? (i := 215) rfl
set_option maxRecDepth 20000 in
theorem j_cw_1 : Cond.code yX0_clear cX0_clear 1 none ∈ tables_1_3 := List.mem_of_getElem? (i := 59) rfl
set_option maxRecDepth 20000 in
theorem j_cw_2 : Cond.code yX0_formOf cX0_formOf 3 (some .long) ∈ tables_1_3 := List.mem_of_getElem? (i := 125) rfl
set_option maxRecDepth 20000 in
theorem j_cw_4 : Cond.code yX0_make cX0_make 7 (some .boolean) ∈ tables_1_3 := List.mem_of_getElem? (i := 110) rfl
set_option maxRecDepth 20000 in
theorem j_cw_5 : Cond.code yX0_tellIn cX0_tellIn 11 (some .long) ∈ tables_1_3 := List.mem_of_getElem? (i := 114) rfl
set_option maxRecDepth 20000 in
theorem j_cw_7 : Cond.code yX1_init cX1_init 1 none ∈ tables_1_1 := List.mem_of_getElem? (i := 42) rfl
set_option maxRecDepth 20000 in
theorem j_cw_8 : Cond.code yX1_become cX1_become 2 none ∈ tables_1_3 := List.mem_of_getElem? (i := 162) rfl
set_option maxRecDepth 20000 in
theorem j_cw_9 : Cond.code yX1_startAgain cX1_startAgain 2 none ∈ tables_1_2 := List.mem_of_getElem? (i := 180) rfl
set_option maxRecDepth 20000 in
theorem j_cw_10 : Cond.code yX1_addRule cX1_addRule 4 none ∈ tables_1_3 := List.mem_of_getElem? (i := 28) rfl
set_option maxRecDepth 20000 in
theorem j_cw_11 : Cond.code yX1_factorOf cX1_factorOf 3 (some .int) ∈ tables_1_2 := List.mem_of_getElem? (i := 212) rfl
set_option maxRecDepth 20000 in
theorem j_cw_12 : Cond.code yX1_setFactor cX1_setFactor 4 none ∈ tables_1_2 := List.mem_of_getElem? (i := 216) rfl
set_option maxRecDepth 20000 in
theorem j_cw_13 : Cond.code yX1_formOf cX1_formOf 4 (some .int) ∈ tables_1_3 := List.mem_of_getElem? (i := 50) rfl
set_option maxRecDepth 20000 in
theorem j_cw_14 : Cond.code yX1_costOf cX1_costOf 4 (some .int) ∈ tables_1_3 := List.mem_of_getElem? (i := 226) rfl
set_option maxRecDepth 20000 in
theorem j_cw_16 : Cond.code yX1_digitOf cX1_digitOf 5 (some .int) ∈ tables_1_3 := List.mem_of_getElem? (i := 230) rfl
set_option maxRecDepth 20000 in
theorem j_cw_17 : Cond.code yX1_change cX1_change 5 none ∈ tables_1_4 := List.mem_of_getElem? (i := 33) rfl
set_option maxRecDepth 20000 in
theorem j_cw_18 : Cond.code yX1_drawRules cX1_drawRules 6 none ∈ tables_1_3 := List.mem_of_getElem? (i := 203) rfl
set_option maxRecDepth 20000 in
theorem j_cw_19 : Cond.code yX1_stirred cX1_stirred 1 (some .int) ∈ tables_1_3 := List.mem_of_getElem? (i := 207) rfl
set_option maxRecDepth 20000 in
theorem j_cw_20 : Cond.code yX2_init cX2_init 1 none ∈ tables_1_1 := List.mem_of_getElem? (i := 79) rfl
set_option maxRecDepth 20000 in
theorem j_cw_21 : Cond.code yX2_become cX2_become 2 none ∈ tables_1_4 := List.mem_of_getElem? (i := 46) rfl
set_option maxRecDepth 20000 in
theorem j_cw_22 : Cond.code yX2_clear cX2_clear 1 none ∈ tables_1_2 := List.mem_of_getElem? (i := 187) rfl
set_option maxRecDepth 20000 in
theorem j_cw_23 : Cond.code yX2_placeOf cX2_placeOf 3 (some .int) ∈ tables_1_3 := List.mem_of_getElem? (i := 222) rfl
set_option maxRecDepth 20000 in
theorem j_cw_24 : Cond.code yX2_gainOf cX2_gainOf 2 (some .int) ∈ tables_1_4 := List.mem_of_getElem? (i := 14) rfl
set_option maxRecDepth 20000 in
theorem j_cw_25 : Cond.code yX2_insert cX2_insert 5 none ∈ tables_1_3 := List.mem_of_getElem? (i := 234) rfl
set_option maxRecDepth 20000 in
theorem j_cw_27 : Cond.code yX2_isAhead cX2_isAhead 4 (some .boolean) ∈ tables_1_3 := List.mem_of_getElem? (i := 238) rfl
set_option maxRecDepth 20000 in
theorem j_cw_28 : Cond.code yX3_init cX3_init 1 none ∈ tables_1_1 := List.mem_of_getElem? (i := 152) rfl
set_option maxRecDepth 20000 in
theorem j_cw_29 : Cond.code yX3_work cX3_work 5 (some .int) ∈ tables_1_3 := List.mem_of_getElem? (i := 42) rfl
set_option maxRecDepth 20000 in
theorem j_cw_30 : Cond.code yX3_worthOf cX3_worthOf 3 (some .int) ∈ tables_1_3 := List.mem_of_getElem? (i := 167) rfl
set_option maxRecDepth 20000 in
theorem j_cw_31 : Cond.code yX4_init cX4_init 1 none ∈ tables_1_1 := List.mem_of_getElem? (i := 36) rfl
set_option maxRecDepth 20000 in
theorem j_cw_32 : Cond.code yX4_become cX4_become 2 none ∈ tables_1_4 := List.mem_of_getElem? (i := 41) rfl
set_option maxRecDepth 20000 in
theorem j_cw_33 : Cond.code yX4_startAgain cX4_startAgain 2 none ∈ tables_1_2 := List.mem_of_getElem? (i := 176) rfl
set_option maxRecDepth 20000 in
theorem j_cw_34 : Cond.code yX4_addSeen cX4_addSeen 3 none ∈ tables_1_3 := List.mem_of_getElem? (i := 177) rfl
set_option maxRecDepth 20000 in
theorem j_cw_35 : Cond.code yX4_addPlan cX4_addPlan 4 none ∈ tables_1_4 := List.mem_of_getElem? (i := 25) rfl
set_option maxRecDepth 20000 in
theorem j_cw_37 : Cond.code yX5_init cX5_init 1 none ∈ tables_1_1 := List.mem_of_getElem? (i := 158) rfl
set_option maxRecDepth 20000 in
theorem j_cw_38 : Cond.code yX5_start cX5_start 5 none ∈ tables_1_3 := List.mem_of_getElem? (i := 46) rfl
set_option maxRecDepth 20000 in
theorem j_cw_39 : Cond.code yX5_addRow cX5_addRow 6 (some .int) ∈ tables_1_3 := List.mem_of_getElem? (i := 55) rfl
set_option maxRecDepth 20000 in
theorem j_cw_42 : Cond.code yX5_addCut cX5_addCut 5 none ∈ tables_1_3 := List.mem_of_getElem? (i := 132) rfl
set_option maxRecDepth 20000 in
theorem j_cw_43 : Cond.code yX5_restOf cX5_restOf 3 (some .long) ∈ tables_1_3 := List.mem_of_getElem? (i := 103) rfl
set_option maxRecDepth 20000 in
theorem j_cw_44 : Cond.code yX5_wholeOf cX5_wholeOf 3 (some .long) ∈ tables_1_3 := List.mem_of_getElem? (i := 118) rfl
set_option maxRecDepth 20000 in
theorem j_cw_45 : Cond.code yX5_repair cX5_repair 4 (some .int) ∈ tables_1_3 := List.mem_of_getElem? (i := 63) rfl
set_option maxRecDepth 20000 in
theorem j_cw_46 : Cond.code yX5_lowestRow cX5_lowestRow 3 (some .int) ∈ tables_1_3 := List.mem_of_getElem? (i := 67) rfl
set_option maxRecDepth 20000 in
theorem j_cw_47 : Cond.code yX5_nearestColumn cX5_nearestColumn 4 (some .int) ∈ tables_1_3 := List.mem_of_getElem? (i := 71) rfl
set_option maxRecDepth 20000 in
theorem j_cw_48 : Cond.code yX5_isNearer cX5_isNearer 8 (some .boolean) ∈ tables_1_3 := List.mem_of_getElem? (i := 75) rfl
set_option maxRecDepth 20000 in
theorem j_cw_49 : Cond.code yX5_pivot cX5_pivot 6 (some .boolean) ∈ tables_1_3 := List.mem_of_getElem? (i := 79) rfl
set_option maxRecDepth 20000 in
theorem j_cw_50 : Cond.code yX5_freshenRow cX5_freshenRow 11 (some .boolean) ∈ tables_1_3 := List.mem_of_getElem? (i := 83) rfl
set_option maxRecDepth 20000 in
theorem j_cw_51 : Cond.code yX5_mixed cX5_mixed 11 (some .long) ∈ tables_1_3 := List.mem_of_getElem? (i := 87) rfl
set_option maxRecDepth 20000 in
theorem j_cw_52 : Cond.code yX5_rowOf cX5_rowOf 3 (some .int) ∈ tables_1_3 := List.mem_of_getElem? (i := 148) rfl
set_option maxRecDepth 20000 in
theorem j_cw_53 : Cond.code yX5_rightOf cX5_rightOf 3 (some .long) ∈ tables_1_3 := List.mem_of_getElem? (i := 144) rfl
set_option maxRecDepth 20000 in
theorem j_cw_54 : Cond.code yX5_floorOf cX5_floorOf 2 (some .long) ∈ tables_1_3 := List.mem_of_getElem? (i := 189) rfl
set_option maxRecDepth 20000 in
theorem j_cw_56 : Cond.code yX5_partedRow cX5_partedRow 2 (some .int) ∈ tables_1_3 := List.mem_of_getElem? (i := 99) rfl
set_option maxRecDepth 20000 in
theorem j_cw_60 : Cond.code yX6_init cX6_init 1 none ∈ tables_1_2 := List.mem_of_getElem? (i := 112) rfl
set_option maxRecDepth 20000 in
theorem j_cw_61 : Cond.code yX6_lay cX6_lay 4 none ∈ tables_1_4 := List.mem_of_getElem? (i := 67) rfl
set_option maxRecDepth 20000 in
theorem j_cw_62 : Cond.code yX6_trimmed cX6_trimmed 4 (some .long) ∈ tables_1_4 := List.mem_of_getElem? (i := 78) rfl
set_option maxRecDepth 20000 in
theorem j_cw_64 : Cond.code yX7_init cX7_init 1 none ∈ tables_1_2 := List.mem_of_getElem? (i := 77) rfl
set_option maxRecDepth 20000 in
theorem j_cw_65 : Cond.code yX7_findFault cX7_findFault 3 (some .int) ∈ tables_1_2 := List.mem_of_getElem? (i := 235) rfl
set_option maxRecDepth 20000 in
theorem j_cw_66 : Cond.code yX7_addRulesTo cX7_addRulesTo 4 none ∈ tables_1_3 := List.mem_of_getElem? (i := 24) rfl
set_option maxRecDepth 20000 in
theorem j_cw_67 : Cond.code yX7_here cX7_here 1 (some .int) ∈ tables_1_3 := List.mem_of_getElem? (i := 7) rfl
set_option maxRecDepth 20000 in
theorem j_cw_68 : Cond.code yX7_skip cX7_skip 2 (some .boolean) ∈ tables_1_3 := List.mem_of_getElem? (i := 3) rfl
set_option maxRecDepth 20000 in
theorem j_cw_69 : Cond.code yX7_atDigit cX7_atDigit 1 (some .boolean) ∈ tables_1_3 := List.mem_of_getElem? (i := 15) rfl
set_option maxRecDepth 20000 in
theorem j_cw_70 : Cond.code yX7_readClause cX7_readClause 3 (some .boolean) ∈ tables_1_2 := List.mem_of_getElem? (i := 239) rfl
set_option maxRecDepth 20000 in
theorem j_cw_71 : Cond.code yX7_readTerm cX7_readTerm 5 (some .boolean) ∈ tables_1_3 := List.mem_of_getElem? (i := 11) rfl
set_option maxRecDepth 20000 in
theorem j_cw_72 : Cond.code yX7_readBound cX7_readBound 4 (some .boolean) ∈ tables_1_3 := List.mem_of_getElem? (i := 20) rfl
set_option maxRecDepth 20000 in
theorem j_cw_73 : Cond.code yX8_init cX8_init 1 none ∈ tables_1_2 := List.mem_of_getElem? (i := 8) rfl
set_option maxRecDepth 20000 in
theorem j_cw_80 : Cond.code yX9_init cX9_init 1 none ∈ tables_1_2 := List.mem_of_getElem? (i := 49) rfl
set_option maxRecDepth 20000 in
theorem j_cw_87 : Cond.code yX10_init cX10_init 1 none ∈ tables_1_1 := List.mem_of_getElem? (i := 28) rfl
set_option maxRecDepth 20000 in
theorem j_cw_88 : Cond.code yX10_size cX10_size 3 (some .int) ∈ tables_1_2 := List.mem_of_getElem? (i := 172) rfl
set_option maxRecDepth 20000 in
theorem j_cw_89 : Cond.code yX10_cost cX10_cost 4 (some .int) ∈ tables_1_2 := List.mem_of_getElem? (i := 192) rfl
set_option maxRecDepth 20000 in
theorem j_cw_91 : Cond.code yX10_factor cX10_factor 5 (some .int) ∈ tables_1_2 := List.mem_of_getElem? (i := 201) rfl
set_option maxRecDepth 20000 in
theorem j_cw_92 : Cond.code yX10_bound cX10_bound 4 (some .int) ∈ tables_1_2 := List.mem_of_getElem? (i := 220) rfl
set_option maxRecDepth 20000 in
theorem j_cw_93 : Cond.code yX10_less cX10_less 1 (some .int) ∈ tables_1_2 := List.mem_of_getElem? (i := 227) rfl
set_option maxRecDepth 20000 in
theorem j_cw_94 : Cond.code yX10_feed cX10_feed 2 (some .int) ∈ tables_1_4 := List.mem_of_getElem? (i := 138) rfl
set_option maxRecDepth 20000 in
theorem j_cw_95 : Cond.code yX10_read cX10_read 2 (some .int) ∈ tables_1_2 := List.mem_of_getElem? (i := 231) rfl
set_option maxRecDepth 20000 in
theorem j_cw_96 : Cond.code yX10_ruleOf cX10_ruleOf 3 (some .int) ∈ tables_1_3 := List.mem_of_getElem? (i := 34) rfl
set_option maxRecDepth 20000 in
theorem j_cw_97 : Cond.code yX10_solve cX10_solve 2 (some .int) ∈ tables_1_3 := List.mem_of_getElem? (i := 38) rfl
set_option maxRecDepth 20000 in
theorem j_cw_99 : Cond.code yX10_amount cX10_amount 3 (some .long) ∈ tables_1_3 := List.mem_of_getElem? (i := 136) rfl
set_option maxRecDepth 20000 in
theorem j_cw_115 : Cond.code yX10_would cX10_would 3 (some .int) ∈ tables_1_3 := List.mem_of_getElem? (i := 158) rfl
set_option maxRecDepth 20000 in
theorem j_cw_116 : Cond.code yX10_see cX10_see 3 (some .int) ∈ tables_1_3 := List.mem_of_getElem? (i := 173) rfl
set_option maxRecDepth 20000 in
theorem j_cw_117 : Cond.code yX10_fits cX10_fits 6 (some .int) ∈ tables_1_3 := List.mem_of_getElem? (i := 181) rfl
set_option maxRecDepth 20000 in
theorem j_cw_119 : Cond.code yX10_mean cX10_mean 4 (some .long) ∈ tables_1_3 := List.mem_of_getElem? (i := 195) rfl
set_option maxRecDepth 20000 in
theorem j_cw_120 : Cond.code yX10_drawn cX10_drawn 3 (some .int) ∈ tables_1_3 := List.mem_of_getElem? (i := 199) rfl
set_option maxRecDepth 20000 in
theorem j_cw_121 : Cond.code yX10_offer cX10_offer 5 (some .int) ∈ tables_1_3 := List.mem_of_getElem? (i := 212) rfl
set_option maxRecDepth 20000 in
theorem j_cw_122 : Cond.code yX10_offered cX10_offered 3 (some .int) ∈ tables_1_4 := List.mem_of_getElem? (i := 2) rfl
set_option maxRecDepth 20000 in
theorem j_cw_123 : Cond.code yX10_upTo cX10_upTo 4 (some .int) ∈ tables_1_4 := List.mem_of_getElem? (i := 6) rfl
set_option maxRecDepth 20000 in
theorem j_cw_124 : Cond.code yX10_dearest cX10_dearest 3 (some .int) ∈ tables_1_4 := List.mem_of_getElem? (i := 10) rfl
set_option maxRecDepth 20000 in
theorem j_cw_125 : Cond.code yX10_plan cX10_plan 4 (some .int) ∈ tables_1_4 := List.mem_of_getElem? (i := 18) rfl
set_option maxRecDepth 20000 in
theorem j_cw_126 : Cond.code yX10_ends cX10_ends 2 (some .int) ∈ tables_1_4 := List.mem_of_getElem? (i := 29) rfl
set_option maxRecDepth 20000 in
theorem j_cw_128 : Cond.code yX10_image cX10_image 1 (some .int) ∈ tables_1_4 := List.mem_of_getElem? (i := 37) rfl
set_option maxRecDepth 20000 in
theorem j_cw_129 : Cond.code yX10_undo cX10_undo 1 (some .int) ∈ tables_1_4 := List.mem_of_getElem? (i := 52) rfl
set_option maxRecDepth 20000 in
theorem j_cw_130 : Cond.code yX10_count cX10_count 2 (some .int) ∈ tables_1_4 := List.mem_of_getElem? (i := 56) rfl
set_option maxRecDepth 20000 in
theorem j_cw_131 : Cond.code yX10_tape cX10_tape 4 (some .int) ∈ tables_1_4 := List.mem_of_getElem? (i := 60) rfl
set_option maxRecDepth 20000 in
theorem j_cw_132 : Cond.code yX10_item cX10_item 5 (some .int) ∈ tables_1_4 := List.mem_of_getElem? (i := 74) rfl
set_option maxRecDepth 20000 in
theorem j_cw_135 : Cond.code yX10_isPack cX10_isPack 2 (some .boolean) ∈ tables_1_2 := List.mem_of_getElem? (i := 196) rfl
set_option maxRecDepth 20000 in
theorem j_cw_136 : Cond.code yX10_isRule cX10_isRule 2 (some .boolean) ∈ tables_1_2 := List.mem_of_getElem? (i := 205) rfl
set_option maxRecDepth 20000 in
theorem j_cw_138 : Cond.code yX10_isCode cX10_isCode 2 (some .boolean) ∈ tables_1_3 := List.mem_of_getElem? (i := 216) rfl
set_option maxRecDepth 20000 in
theorem j_cw_139 : Cond.code yX10_isBound cX10_isBound 1 (some .boolean) ∈ tables_1_2 := List.mem_of_getElem? (i := 223) rfl
set_option maxRecDepth 20000 in
theorem j_cw_140 : Cond.code yX10_isFactor cX10_isFactor 1 (some .boolean) ∈ tables_1_2 := List.mem_of_getElem? (i := 208) rfl
set_option maxRecDepth 20000 in
theorem j_cw_141 : Cond.code yX10_isPart cX10_isPart 1 (some .boolean) ∈ tables_1_3 := List.mem_of_getElem? (i := 139) rfl
set_option maxRecDepth 20000 in
theorem j_cw_142 : Cond.code yX10_isTape cX10_isTape 1 (some .boolean) ∈ tables_1_4 := List.mem_of_getElem? (i := 63) rfl
set_option maxRecDepth 20000 in
theorem j_cw_143 : Cond.code yX10_isPlanned cX10_isPlanned 2 (some .boolean) ∈ tables_1_4 := List.mem_of_getElem? (i := 21) rfl
set_option maxRecDepth 20000 in
theorem j_cw_144 : Cond.code yX10_isNear cX10_isNear 2 (some .boolean) ∈ tables_1_3 := List.mem_of_getElem? (i := 90) rfl
set_option maxRecDepth 20000 in
theorem j_cw_145 : Cond.code yX10_isSeenSo cX10_isSeenSo 2 (some .boolean) ∈ tables_1_3 := List.mem_of_getElem? (i := 185) rfl
set_option maxRecDepth 20000 in
theorem j_cw_146 : Cond.code yX10_lowest cX10_lowest 12 (some .long) ∈ tables_1_3 := List.mem_of_getElem? (i := 151) rfl
set_option maxRecDepth 20000 in
theorem j_cw_265 : Cond.code yJ9_floorDiv_f86c9 cJ9_floorDiv_f86c9 6 (some .long) ∈ tables_1_3 := List.mem_of_getElem? (i := 121) rfl
set_option maxRecDepth 20000 in
theorem j_cw_266 : Cond.code yJ9_floorMod_f86c9 cJ9_floorMod_f86c9 6 (some .long) ∈ tables_1_3 := List.mem_of_getElem? (i := 106) rfl
set_option maxRecDepth 20000 in
theorem j_cw_267 : Cond.code yJ9_abs_067f4 cJ9_abs_067f4 2 (some .long) ∈ tables_1_3 := List.mem_of_getElem? (i := 154) rfl
set_option maxRecDepth 20000 in
theorem j_cw_268 : Cond.code yJ9_min_7cf53 cJ9_min_7cf53 2 (some .int) ∈ tables_1_4 := List.mem_of_getElem? (i := 211) rfl
set_option maxRecDepth 20000 in
theorem j_cw_269 : Cond.code yJ7_fill_d0a16 cJ7_fill_d0a16 5 none ∈ tables_1_4 := List.mem_of_getElem? (i := 70) rfl
set_option maxRecDepth 20000 in
theorem j_cw_270 : Cond.code yJ7_fill_53178 cJ7_fill_53178 4 none ∈ tables_1_2 := List.mem_of_getElem? (i := 183) rfl
set_option maxRecDepth 20000 in
theorem j_cw_272 : Cond.code yJ0_charAt_5068e cJ0_charAt_5068e 2 (some .char) ∈ tables_1_4 := List.mem_of_getElem? (i := 100) rfl
set_option maxRecDepth 20000 in
theorem j_cw_273 : Cond.code yJ0_checkIndex_df160 cJ0_checkIndex_df160 2 none ∈ tables_1_4 := List.mem_of_getElem? (i := 110) rfl
set_option maxRecDepth 20000 in
theorem j_cw_274 : Cond.code yJ0_coder_7d493 cJ0_coder_7d493 1 (some .byte) ∈ tables_1_4 := List.mem_of_getElem? (i := 94) rfl
set_option maxRecDepth 20000 in
theorem j_cw_275 : Cond.code yJ0_getBytes_840e7 cJ0_getBytes_840e7 4 none ∈ tables_1_5 := List.mem_of_getElem? (i := 25) rfl
set_option maxRecDepth 20000 in
theorem j_cw_276 : Cond.code yJ0_init_81219 cJ0_init_81219 2 none ∈ tables_1_5 := List.mem_of_getElem? (i := 74) rfl
set_option maxRecDepth 20000 in
theorem j_cw_277 : Cond.code yJ0_init_db425 cJ0_init_db425 5 none ∈ tables_1_5 := List.mem_of_getElem? (i := 77) rfl
set_option maxRecDepth 20000 in
theorem j_cw_278 : Cond.code yJ0_isLatin1_aae02 cJ0_isLatin1_aae02 1 (some .boolean) ∈ tables_1_4 := List.mem_of_getElem? (i := 104) rfl
set_option maxRecDepth 20000 in
theorem j_cw_279 : Cond.code yJ0_length_8abf5 cJ0_length_8abf5 1 (some .int) ∈ tables_1_4 := List.mem_of_getElem? (i := 90) rfl
set_option maxRecDepth 20000 in
theorem j_cw_280 : Cond.code yJ1_canEncode_fc78d cJ1_canEncode_fc78d 1 (some .boolean) ∈ tables_1_5 := List.mem_of_getElem? (i := 37) rfl
set_option maxRecDepth 20000 in
theorem j_cw_281 : Cond.code yJ1_charAt_3b067 cJ1_charAt_3b067 2 (some .char) ∈ tables_1_4 := List.mem_of_getElem? (i := 107) rfl
set_option maxRecDepth 20000 in
theorem j_cw_282 : Cond.code yJ3_checkIndex_8e157 cJ3_checkIndex_8e157 3 (some .int) ∈ tables_1_4 := List.mem_of_getElem? (i := 115) rfl
set_option maxRecDepth 20000 in
theorem j_cw_283 : Cond.code yJ4_append_15ec4 cJ4_append_15ec4 2 (some (.object "java/lang/StringBuilder")) ∈ tables_1_4 := List.mem_of_getElem? (i := 172) rfl
set_option maxRecDepth 20000 in
theorem j_cw_284 : Cond.code yJ4_append_bf812 cJ4_append_bf812 2 (some (.object "java/lang/StringBuilder")) ∈ tables_1_5 := List.mem_of_getElem? (i := 44) rfl
set_option maxRecDepth 20000 in
theorem j_cw_285 : Cond.code yJ4_append_cf468 cJ4_append_cf468 2 (some (.object "java/lang/StringBuilder")) ∈ tables_1_5 := List.mem_of_getElem? (i := 31) rfl
set_option maxRecDepth 20000 in
theorem j_cw_286 : Cond.code yJ4_init_da8c8 cJ4_init_da8c8 1 none ∈ tables_1_4 := List.mem_of_getElem? (i := 143) rfl
set_option maxRecDepth 20000 in
theorem j_cw_287 : Cond.code yJ4_length_8abf5 cJ4_length_8abf5 1 (some .int) ∈ tables_1_5 := List.mem_of_getElem? (i := 89) rfl
set_option maxRecDepth 20000 in
theorem j_cw_288 : Cond.code yJ4_toString_0e30d cJ4_toString_0e30d 1 (some (.object "java/lang/String")) ∈ tables_1_5 := List.mem_of_getElem? (i := 69) rfl
set_option maxRecDepth 20000 in
theorem j_cw_289 : Cond.code yJ5_append_3fe6f cJ5_append_3fe6f 2 (some (.object "java/lang/AbstractStringBuilder")) ∈ tables_1_5 := List.mem_of_getElem? (i := 34) rfl
set_option maxRecDepth 20000 in
theorem j_cw_290 : Cond.code yJ5_append_c97b9 cJ5_append_c97b9 4 (some (.object "java/lang/AbstractStringBuilder")) ∈ tables_1_5 := List.mem_of_getElem? (i := 47) rfl
set_option maxRecDepth 20000 in
theorem j_cw_291 : Cond.code yJ5_append_cf1ce cJ5_append_cf1ce 3 (some (.object "java/lang/AbstractStringBuilder")) ∈ tables_1_4 := List.mem_of_getElem? (i := 175) rfl
set_option maxRecDepth 20000 in
theorem j_cw_292 : Cond.code yJ5_ensureCapacityInternal_d00df cJ5_ensureCapacityInternal_d00df 3 none ∈ tables_1_4 := List.mem_of_getElem? (i := 183) rfl
set_option maxRecDepth 20000 in
theorem j_cw_293 : Cond.code yJ5_getValue_6d5f1 cJ5_getValue_6d5f1 1 (some (.array .byte)) ∈ tables_1_5 := List.mem_of_getElem? (i := 83) rfl
set_option maxRecDepth 20000 in
theorem j_cw_294 : Cond.code yJ5_inflateIfNeededFor_a7421 cJ5_inflateIfNeededFor_a7421 2 none ∈ tables_1_5 := List.mem_of_getElem? (i := 1) rfl
set_option maxRecDepth 20000 in
theorem j_cw_295 : Cond.code yJ5_init_d00df cJ5_init_d00df 2 none ∈ tables_1_4 := List.mem_of_getElem? (i := 146) rfl
set_option maxRecDepth 20000 in
theorem j_cw_296 : Cond.code yJ5_isLatin1_aae02 cJ5_isLatin1_aae02 1 (some .boolean) ∈ tables_1_4 := List.mem_of_getElem? (i := 217) rfl
set_option maxRecDepth 20000 in
theorem j_cw_297 : Cond.code yJ5_length_8abf5 cJ5_length_8abf5 1 (some .int) ∈ tables_1_5 := List.mem_of_getElem? (i := 91) rfl
set_option maxRecDepth 20000 in
theorem j_cw_298 : Cond.code yJ5_newCapacity_0f7a4 cJ5_newCapacity_0f7a4 6 (some .int) ∈ tables_1_4 := List.mem_of_getElem? (i := 187) rfl
set_option maxRecDepth 20000 in
theorem j_cw_299 : Cond.code yJ5_putStringAt_47b60 cJ5_putStringAt_47b60 3 none ∈ tables_1_4 := List.mem_of_getElem? (i := 237) rfl
set_option maxRecDepth 20000 in
theorem j_cw_300 : Cond.code yJ6_getChars_ba4f3 cJ6_getChars_ba4f3 7 (some .int) ∈ tables_1_5 := List.mem_of_getElem? (i := 53) rfl
set_option maxRecDepth 20000 in
theorem j_cw_301 : Cond.code yJ6_stringSize_0f7a4 cJ6_stringSize_0f7a4 4 (some .int) ∈ tables_1_5 := List.mem_of_getElem? (i := 50) rfl
set_option maxRecDepth 20000 in
theorem j_cw_302 : Cond.code yJ7_checkLength_df160 cJ7_checkLength_df160 2 none ∈ tables_1_5 := List.mem_of_getElem? (i := 101) rfl
set_option maxRecDepth 20000 in
theorem j_cw_303 : Cond.code yJ7_copyOfRangeByte_39247 cJ7_copyOfRangeByte_39247 5 (some (.array .byte)) ∈ tables_1_5 := List.mem_of_getElem? (i := 98) rfl
set_option maxRecDepth 20000 in
theorem j_cw_304 : Cond.code yJ7_copyOfRange_39247 cJ7_copyOfRange_39247 3 (some (.array .byte)) ∈ tables_1_5 := List.mem_of_getElem? (i := 95) rfl
set_option maxRecDepth 20000 in
theorem j_cw_305 : Cond.code yJ7_copyOf_9075b cJ7_copyOf_9075b 3 (some (.array .byte)) ∈ tables_1_4 := List.mem_of_getElem? (i := 201) rfl
set_option maxRecDepth 20000 in
theorem j_cw_306 : Cond.code yJ8_newLength_cabcc cJ8_newLength_cabcc 4 (some .int) ∈ tables_1_4 := List.mem_of_getElem? (i := 190) rfl
set_option maxRecDepth 20000 in
theorem j_cw_307 : Cond.code yJ9_max_7cf53 cJ9_max_7cf53 2 (some .int) ∈ tables_1_4 := List.mem_of_getElem? (i := 193) rfl
set_option maxRecDepth 20000 in
theorem j_cw_308 : Cond.code yL_cell cL_cell 3 (some .int) ∈ tables_1_4 := List.mem_of_getElem? (i := 81) rfl
set_option maxRecDepth 20000 in
theorem j_cw_309 : Cond.code yL_feeds cL_feeds 4 (some .boolean) ∈ tables_1_4 := List.mem_of_getElem? (i := 86) rfl
theorem j_tab {w : Cond} (k : Nat) (h : w ∈ [tables_1_1, tables_1_2, tables_1_3, tables_1_4, tables_1_5][k]?.getD []) : w ∈ lw_tb2 := by
  refine List.mem_append_right _ (List.mem_append_right _ ?_)
  unfold tables_1
  match k, h with
  | 0, h => exact List.mem_append_left _ h
  | 1, h => exact List.mem_append_right _ (List.mem_append_left _ h)
  | 2, h => exact List.mem_append_right _ (List.mem_append_right _ (List.mem_append_left _ h))
  | 3, h => exact List.mem_append_right _ (List.mem_append_right _ (List.mem_append_right _ (List.mem_append_left _ h)))
  | 4, h => exact List.mem_append_right _ (List.mem_append_right _ (List.mem_append_right _ (List.mem_append_right _ (h))))
  | k + 5, h => exact absurd h (by simp)
theorem j_cw_all : ∀ (y : Nat) (q : j_M), j_meth[y]? = some q → y ≠ 271 → q.2.2.2.2.2.1 ≠ 3 → Cond.code q.1 q.2.1 q.2.2.1 q.2.2.2.1 ∈ lw_tb2 := fun y q h hy h3 => match y, h, hy, h3 with
  | 0, h, _, _ => by cases Option.some.inj ((rfl : j_meth[0]? = some _).symm.trans h); exact j_tab 0 j_cw_0
  | 1, h, _, _ => by cases Option.some.inj ((rfl : j_meth[1]? = some _).symm.trans h); exact j_tab 2 j_cw_1
  | 2, h, _, _ => by cases Option.some.inj ((rfl : j_meth[2]? = some _).symm.trans h); exact j_tab 2 j_cw_2
  | 3, h, _, h3 => by cases Option.some.inj ((rfl : j_meth[3]? = some _).symm.trans h); exact absurd rfl h3
  | 4, h, _, _ => by cases Option.some.inj ((rfl : j_meth[4]? = some _).symm.trans h); exact j_tab 2 j_cw_4
  | 5, h, _, _ => by cases Option.some.inj ((rfl : j_meth[5]? = some _).symm.trans h); exact j_tab 2 j_cw_5
  | 6, h, _, h3 => by cases Option.some.inj ((rfl : j_meth[6]? = some _).symm.trans h); exact absurd rfl h3
  | 7, h, _, _ => by cases Option.some.inj ((rfl : j_meth[7]? = some _).symm.trans h); exact j_tab 0 j_cw_7
  | 8, h, _, _ => by cases Option.some.inj ((rfl : j_meth[8]? = some _).symm.trans h); exact j_tab 2 j_cw_8
  | 9, h, _, _ => by cases Option.some.inj ((rfl : j_meth[9]? = some _).symm.trans h); exact j_tab 1 j_cw_9
  | 10, h, _, _ => by cases Option.some.inj ((rfl : j_meth[10]? = some _).symm.trans h); exact j_tab 2 j_cw_10
  | 11, h, _, _ => by cases Option.some.inj ((rfl : j_meth[11]? = some _).symm.trans h); exact j_tab 1 j_cw_11
  | 12, h, _, _ => by cases Option.some.inj ((rfl : j_meth[12]? = some _).symm.trans h); exact j_tab 1 j_cw_12
  | 13, h, _, _ => by cases Option.some.inj ((rfl : j_meth[13]? = some _).symm.trans h); exact j_tab 2 j_cw_13
  | 14, h, _, _ => by cases Option.some.inj ((rfl : j_meth[14]? = some _).symm.trans h); exact j_tab 2 j_cw_14
  | 15, h, _, h3 => by cases Option.some.inj ((rfl : j_meth[15]? = some _).symm.trans h); exact absurd rfl h3
  | 16, h, _, _ => by cases Option.some.inj ((rfl : j_meth[16]? = some _).symm.trans h); exact j_tab 2 j_cw_16
  | 17, h, _, _ => by cases Option.some.inj ((rfl : j_meth[17]? = some _).symm.trans h); exact j_tab 3 j_cw_17
  | 18, h, _, _ => by cases Option.some.inj ((rfl : j_meth[18]? = some _).symm.trans h); exact j_tab 2 j_cw_18
  | 19, h, _, _ => by cases Option.some.inj ((rfl : j_meth[19]? = some _).symm.trans h); exact j_tab 2 j_cw_19
  | 20, h, _, _ => by cases Option.some.inj ((rfl : j_meth[20]? = some _).symm.trans h); exact j_tab 0 j_cw_20
  | 21, h, _, _ => by cases Option.some.inj ((rfl : j_meth[21]? = some _).symm.trans h); exact j_tab 3 j_cw_21
  | 22, h, _, _ => by cases Option.some.inj ((rfl : j_meth[22]? = some _).symm.trans h); exact j_tab 1 j_cw_22
  | 23, h, _, _ => by cases Option.some.inj ((rfl : j_meth[23]? = some _).symm.trans h); exact j_tab 2 j_cw_23
  | 24, h, _, _ => by cases Option.some.inj ((rfl : j_meth[24]? = some _).symm.trans h); exact j_tab 3 j_cw_24
  | 25, h, _, _ => by cases Option.some.inj ((rfl : j_meth[25]? = some _).symm.trans h); exact j_tab 2 j_cw_25
  | 26, h, _, h3 => by cases Option.some.inj ((rfl : j_meth[26]? = some _).symm.trans h); exact absurd rfl h3
  | 27, h, _, _ => by cases Option.some.inj ((rfl : j_meth[27]? = some _).symm.trans h); exact j_tab 2 j_cw_27
  | 28, h, _, _ => by cases Option.some.inj ((rfl : j_meth[28]? = some _).symm.trans h); exact j_tab 0 j_cw_28
  | 29, h, _, _ => by cases Option.some.inj ((rfl : j_meth[29]? = some _).symm.trans h); exact j_tab 2 j_cw_29
  | 30, h, _, _ => by cases Option.some.inj ((rfl : j_meth[30]? = some _).symm.trans h); exact j_tab 2 j_cw_30
  | 31, h, _, _ => by cases Option.some.inj ((rfl : j_meth[31]? = some _).symm.trans h); exact j_tab 0 j_cw_31
  | 32, h, _, _ => by cases Option.some.inj ((rfl : j_meth[32]? = some _).symm.trans h); exact j_tab 3 j_cw_32
  | 33, h, _, _ => by cases Option.some.inj ((rfl : j_meth[33]? = some _).symm.trans h); exact j_tab 1 j_cw_33
  | 34, h, _, _ => by cases Option.some.inj ((rfl : j_meth[34]? = some _).symm.trans h); exact j_tab 2 j_cw_34
  | 35, h, _, _ => by cases Option.some.inj ((rfl : j_meth[35]? = some _).symm.trans h); exact j_tab 3 j_cw_35
  | 36, h, _, h3 => by cases Option.some.inj ((rfl : j_meth[36]? = some _).symm.trans h); exact absurd rfl h3
  | 37, h, _, _ => by cases Option.some.inj ((rfl : j_meth[37]? = some _).symm.trans h); exact j_tab 0 j_cw_37
  | 38, h, _, _ => by cases Option.some.inj ((rfl : j_meth[38]? = some _).symm.trans h); exact j_tab 2 j_cw_38
  | 39, h, _, _ => by cases Option.some.inj ((rfl : j_meth[39]? = some _).symm.trans h); exact j_tab 2 j_cw_39
  | 40, h, _, h3 => by cases Option.some.inj ((rfl : j_meth[40]? = some _).symm.trans h); exact absurd rfl h3
  | 41, h, _, h3 => by cases Option.some.inj ((rfl : j_meth[41]? = some _).symm.trans h); exact absurd rfl h3
  | 42, h, _, _ => by cases Option.some.inj ((rfl : j_meth[42]? = some _).symm.trans h); exact j_tab 2 j_cw_42
  | 43, h, _, _ => by cases Option.some.inj ((rfl : j_meth[43]? = some _).symm.trans h); exact j_tab 2 j_cw_43
  | 44, h, _, _ => by cases Option.some.inj ((rfl : j_meth[44]? = some _).symm.trans h); exact j_tab 2 j_cw_44
  | 45, h, _, _ => by cases Option.some.inj ((rfl : j_meth[45]? = some _).symm.trans h); exact j_tab 2 j_cw_45
  | 46, h, _, _ => by cases Option.some.inj ((rfl : j_meth[46]? = some _).symm.trans h); exact j_tab 2 j_cw_46
  | 47, h, _, _ => by cases Option.some.inj ((rfl : j_meth[47]? = some _).symm.trans h); exact j_tab 2 j_cw_47
  | 48, h, _, _ => by cases Option.some.inj ((rfl : j_meth[48]? = some _).symm.trans h); exact j_tab 2 j_cw_48
  | 49, h, _, _ => by cases Option.some.inj ((rfl : j_meth[49]? = some _).symm.trans h); exact j_tab 2 j_cw_49
  | 50, h, _, _ => by cases Option.some.inj ((rfl : j_meth[50]? = some _).symm.trans h); exact j_tab 2 j_cw_50
  | 51, h, _, _ => by cases Option.some.inj ((rfl : j_meth[51]? = some _).symm.trans h); exact j_tab 2 j_cw_51
  | 52, h, _, _ => by cases Option.some.inj ((rfl : j_meth[52]? = some _).symm.trans h); exact j_tab 2 j_cw_52
  | 53, h, _, _ => by cases Option.some.inj ((rfl : j_meth[53]? = some _).symm.trans h); exact j_tab 2 j_cw_53
  | 54, h, _, _ => by cases Option.some.inj ((rfl : j_meth[54]? = some _).symm.trans h); exact j_tab 2 j_cw_54
  | 55, h, _, h3 => by cases Option.some.inj ((rfl : j_meth[55]? = some _).symm.trans h); exact absurd rfl h3
  | 56, h, _, _ => by cases Option.some.inj ((rfl : j_meth[56]? = some _).symm.trans h); exact j_tab 2 j_cw_56
  | 57, h, _, h3 => by cases Option.some.inj ((rfl : j_meth[57]? = some _).symm.trans h); exact absurd rfl h3
  | 58, h, _, h3 => by cases Option.some.inj ((rfl : j_meth[58]? = some _).symm.trans h); exact absurd rfl h3
  | 59, h, _, h3 => by cases Option.some.inj ((rfl : j_meth[59]? = some _).symm.trans h); exact absurd rfl h3
  | 60, h, _, _ => by cases Option.some.inj ((rfl : j_meth[60]? = some _).symm.trans h); exact j_tab 1 j_cw_60
  | 61, h, _, _ => by cases Option.some.inj ((rfl : j_meth[61]? = some _).symm.trans h); exact j_tab 3 j_cw_61
  | 62, h, _, _ => by cases Option.some.inj ((rfl : j_meth[62]? = some _).symm.trans h); exact j_tab 3 j_cw_62
  | 63, h, _, h3 => by cases Option.some.inj ((rfl : j_meth[63]? = some _).symm.trans h); exact absurd rfl h3
  | 64, h, _, _ => by cases Option.some.inj ((rfl : j_meth[64]? = some _).symm.trans h); exact j_tab 1 j_cw_64
  | 65, h, _, _ => by cases Option.some.inj ((rfl : j_meth[65]? = some _).symm.trans h); exact j_tab 1 j_cw_65
  | 66, h, _, _ => by cases Option.some.inj ((rfl : j_meth[66]? = some _).symm.trans h); exact j_tab 2 j_cw_66
  | 67, h, _, _ => by cases Option.some.inj ((rfl : j_meth[67]? = some _).symm.trans h); exact j_tab 2 j_cw_67
  | 68, h, _, _ => by cases Option.some.inj ((rfl : j_meth[68]? = some _).symm.trans h); exact j_tab 2 j_cw_68
  | 69, h, _, _ => by cases Option.some.inj ((rfl : j_meth[69]? = some _).symm.trans h); exact j_tab 2 j_cw_69
  | 70, h, _, _ => by cases Option.some.inj ((rfl : j_meth[70]? = some _).symm.trans h); exact j_tab 1 j_cw_70
  | 71, h, _, _ => by cases Option.some.inj ((rfl : j_meth[71]? = some _).symm.trans h); exact j_tab 2 j_cw_71
  | 72, h, _, _ => by cases Option.some.inj ((rfl : j_meth[72]? = some _).symm.trans h); exact j_tab 2 j_cw_72
  | 73, h, _, _ => by cases Option.some.inj ((rfl : j_meth[73]? = some _).symm.trans h); exact j_tab 1 j_cw_73
  | 74, h, _, h3 => by cases Option.some.inj ((rfl : j_meth[74]? = some _).symm.trans h); exact absurd rfl h3
  | 75, h, _, h3 => by cases Option.some.inj ((rfl : j_meth[75]? = some _).symm.trans h); exact absurd rfl h3
  | 76, h, _, h3 => by cases Option.some.inj ((rfl : j_meth[76]? = some _).symm.trans h); exact absurd rfl h3
  | 77, h, _, h3 => by cases Option.some.inj ((rfl : j_meth[77]? = some _).symm.trans h); exact absurd rfl h3
  | 78, h, _, h3 => by cases Option.some.inj ((rfl : j_meth[78]? = some _).symm.trans h); exact absurd rfl h3
  | 79, h, _, h3 => by cases Option.some.inj ((rfl : j_meth[79]? = some _).symm.trans h); exact absurd rfl h3
  | 80, h, _, _ => by cases Option.some.inj ((rfl : j_meth[80]? = some _).symm.trans h); exact j_tab 1 j_cw_80
  | 81, h, _, h3 => by cases Option.some.inj ((rfl : j_meth[81]? = some _).symm.trans h); exact absurd rfl h3
  | 82, h, _, h3 => by cases Option.some.inj ((rfl : j_meth[82]? = some _).symm.trans h); exact absurd rfl h3
  | 83, h, _, h3 => by cases Option.some.inj ((rfl : j_meth[83]? = some _).symm.trans h); exact absurd rfl h3
  | 84, h, _, h3 => by cases Option.some.inj ((rfl : j_meth[84]? = some _).symm.trans h); exact absurd rfl h3
  | 85, h, _, h3 => by cases Option.some.inj ((rfl : j_meth[85]? = some _).symm.trans h); exact absurd rfl h3
  | 86, h, _, h3 => by cases Option.some.inj ((rfl : j_meth[86]? = some _).symm.trans h); exact absurd rfl h3
  | 87, h, _, _ => by cases Option.some.inj ((rfl : j_meth[87]? = some _).symm.trans h); exact j_tab 0 j_cw_87
  | 88, h, _, _ => by cases Option.some.inj ((rfl : j_meth[88]? = some _).symm.trans h); exact j_tab 1 j_cw_88
  | 89, h, _, _ => by cases Option.some.inj ((rfl : j_meth[89]? = some _).symm.trans h); exact j_tab 1 j_cw_89
  | 90, h, _, h3 => by cases Option.some.inj ((rfl : j_meth[90]? = some _).symm.trans h); exact absurd rfl h3
  | 91, h, _, _ => by cases Option.some.inj ((rfl : j_meth[91]? = some _).symm.trans h); exact j_tab 1 j_cw_91
  | 92, h, _, _ => by cases Option.some.inj ((rfl : j_meth[92]? = some _).symm.trans h); exact j_tab 1 j_cw_92
  | 93, h, _, _ => by cases Option.some.inj ((rfl : j_meth[93]? = some _).symm.trans h); exact j_tab 1 j_cw_93
  | 94, h, _, _ => by cases Option.some.inj ((rfl : j_meth[94]? = some _).symm.trans h); exact j_tab 3 j_cw_94
  | 95, h, _, _ => by cases Option.some.inj ((rfl : j_meth[95]? = some _).symm.trans h); exact j_tab 1 j_cw_95
  | 96, h, _, _ => by cases Option.some.inj ((rfl : j_meth[96]? = some _).symm.trans h); exact j_tab 2 j_cw_96
  | 97, h, _, _ => by cases Option.some.inj ((rfl : j_meth[97]? = some _).symm.trans h); exact j_tab 2 j_cw_97
  | 98, h, _, h3 => by cases Option.some.inj ((rfl : j_meth[98]? = some _).symm.trans h); exact absurd rfl h3
  | 99, h, _, _ => by cases Option.some.inj ((rfl : j_meth[99]? = some _).symm.trans h); exact j_tab 2 j_cw_99
  | 100, h, _, h3 => by cases Option.some.inj ((rfl : j_meth[100]? = some _).symm.trans h); exact absurd rfl h3
  | 101, h, _, h3 => by cases Option.some.inj ((rfl : j_meth[101]? = some _).symm.trans h); exact absurd rfl h3
  | 102, h, _, h3 => by cases Option.some.inj ((rfl : j_meth[102]? = some _).symm.trans h); exact absurd rfl h3
  | 103, h, _, h3 => by cases Option.some.inj ((rfl : j_meth[103]? = some _).symm.trans h); exact absurd rfl h3
  | 104, h, _, h3 => by cases Option.some.inj ((rfl : j_meth[104]? = some _).symm.trans h); exact absurd rfl h3
  | 105, h, _, h3 => by cases Option.some.inj ((rfl : j_meth[105]? = some _).symm.trans h); exact absurd rfl h3
  | 106, h, _, h3 => by cases Option.some.inj ((rfl : j_meth[106]? = some _).symm.trans h); exact absurd rfl h3
  | 107, h, _, h3 => by cases Option.some.inj ((rfl : j_meth[107]? = some _).symm.trans h); exact absurd rfl h3
  | 108, h, _, h3 => by cases Option.some.inj ((rfl : j_meth[108]? = some _).symm.trans h); exact absurd rfl h3
  | 109, h, _, h3 => by cases Option.some.inj ((rfl : j_meth[109]? = some _).symm.trans h); exact absurd rfl h3
  | 110, h, _, h3 => by cases Option.some.inj ((rfl : j_meth[110]? = some _).symm.trans h); exact absurd rfl h3
  | 111, h, _, h3 => by cases Option.some.inj ((rfl : j_meth[111]? = some _).symm.trans h); exact absurd rfl h3
  | 112, h, _, h3 => by cases Option.some.inj ((rfl : j_meth[112]? = some _).symm.trans h); exact absurd rfl h3
  | 113, h, _, h3 => by cases Option.some.inj ((rfl : j_meth[113]? = some _).symm.trans h); exact absurd rfl h3
  | 114, h, _, h3 => by cases Option.some.inj ((rfl : j_meth[114]? = some _).symm.trans h); exact absurd rfl h3
  | 115, h, _, _ => by cases Option.some.inj ((rfl : j_meth[115]? = some _).symm.trans h); exact j_tab 2 j_cw_115
  | 116, h, _, _ => by cases Option.some.inj ((rfl : j_meth[116]? = some _).symm.trans h); exact j_tab 2 j_cw_116
  | 117, h, _, _ => by cases Option.some.inj ((rfl : j_meth[117]? = some _).symm.trans h); exact j_tab 2 j_cw_117
  | 118, h, _, h3 => by cases Option.some.inj ((rfl : j_meth[118]? = some _).symm.trans h); exact absurd rfl h3
  | 119, h, _, _ => by cases Option.some.inj ((rfl : j_meth[119]? = some _).symm.trans h); exact j_tab 2 j_cw_119
  | 120, h, _, _ => by cases Option.some.inj ((rfl : j_meth[120]? = some _).symm.trans h); exact j_tab 2 j_cw_120
  | 121, h, _, _ => by cases Option.some.inj ((rfl : j_meth[121]? = some _).symm.trans h); exact j_tab 2 j_cw_121
  | 122, h, _, _ => by cases Option.some.inj ((rfl : j_meth[122]? = some _).symm.trans h); exact j_tab 3 j_cw_122
  | 123, h, _, _ => by cases Option.some.inj ((rfl : j_meth[123]? = some _).symm.trans h); exact j_tab 3 j_cw_123
  | 124, h, _, _ => by cases Option.some.inj ((rfl : j_meth[124]? = some _).symm.trans h); exact j_tab 3 j_cw_124
  | 125, h, _, _ => by cases Option.some.inj ((rfl : j_meth[125]? = some _).symm.trans h); exact j_tab 3 j_cw_125
  | 126, h, _, _ => by cases Option.some.inj ((rfl : j_meth[126]? = some _).symm.trans h); exact j_tab 3 j_cw_126
  | 127, h, _, h3 => by cases Option.some.inj ((rfl : j_meth[127]? = some _).symm.trans h); exact absurd rfl h3
  | 128, h, _, _ => by cases Option.some.inj ((rfl : j_meth[128]? = some _).symm.trans h); exact j_tab 3 j_cw_128
  | 129, h, _, _ => by cases Option.some.inj ((rfl : j_meth[129]? = some _).symm.trans h); exact j_tab 3 j_cw_129
  | 130, h, _, _ => by cases Option.some.inj ((rfl : j_meth[130]? = some _).symm.trans h); exact j_tab 3 j_cw_130
  | 131, h, _, _ => by cases Option.some.inj ((rfl : j_meth[131]? = some _).symm.trans h); exact j_tab 3 j_cw_131
  | 132, h, _, _ => by cases Option.some.inj ((rfl : j_meth[132]? = some _).symm.trans h); exact j_tab 3 j_cw_132
  | 133, h, _, h3 => by cases Option.some.inj ((rfl : j_meth[133]? = some _).symm.trans h); exact absurd rfl h3
  | 134, h, _, h3 => by cases Option.some.inj ((rfl : j_meth[134]? = some _).symm.trans h); exact absurd rfl h3
  | 135, h, _, _ => by cases Option.some.inj ((rfl : j_meth[135]? = some _).symm.trans h); exact j_tab 1 j_cw_135
  | 136, h, _, _ => by cases Option.some.inj ((rfl : j_meth[136]? = some _).symm.trans h); exact j_tab 1 j_cw_136
  | 137, h, _, h3 => by cases Option.some.inj ((rfl : j_meth[137]? = some _).symm.trans h); exact absurd rfl h3
  | 138, h, _, _ => by cases Option.some.inj ((rfl : j_meth[138]? = some _).symm.trans h); exact j_tab 2 j_cw_138
  | 139, h, _, _ => by cases Option.some.inj ((rfl : j_meth[139]? = some _).symm.trans h); exact j_tab 1 j_cw_139
  | 140, h, _, _ => by cases Option.some.inj ((rfl : j_meth[140]? = some _).symm.trans h); exact j_tab 1 j_cw_140
  | 141, h, _, _ => by cases Option.some.inj ((rfl : j_meth[141]? = some _).symm.trans h); exact j_tab 2 j_cw_141
  | 142, h, _, _ => by cases Option.some.inj ((rfl : j_meth[142]? = some _).symm.trans h); exact j_tab 3 j_cw_142
  | 143, h, _, _ => by cases Option.some.inj ((rfl : j_meth[143]? = some _).symm.trans h); exact j_tab 3 j_cw_143
  | 144, h, _, _ => by cases Option.some.inj ((rfl : j_meth[144]? = some _).symm.trans h); exact j_tab 2 j_cw_144
  | 145, h, _, _ => by cases Option.some.inj ((rfl : j_meth[145]? = some _).symm.trans h); exact j_tab 2 j_cw_145
  | 146, h, _, _ => by cases Option.some.inj ((rfl : j_meth[146]? = some _).symm.trans h); exact j_tab 2 j_cw_146
  | 147, h, _, h3 => by cases Option.some.inj ((rfl : j_meth[147]? = some _).symm.trans h); exact absurd rfl h3
  | 148, h, _, h3 => by cases Option.some.inj ((rfl : j_meth[148]? = some _).symm.trans h); exact absurd rfl h3
  | 149, h, _, h3 => by cases Option.some.inj ((rfl : j_meth[149]? = some _).symm.trans h); exact absurd rfl h3
  | 150, h, _, h3 => by cases Option.some.inj ((rfl : j_meth[150]? = some _).symm.trans h); exact absurd rfl h3
  | 151, h, _, h3 => by cases Option.some.inj ((rfl : j_meth[151]? = some _).symm.trans h); exact absurd rfl h3
  | 152, h, _, h3 => by cases Option.some.inj ((rfl : j_meth[152]? = some _).symm.trans h); exact absurd rfl h3
  | 153, h, _, h3 => by cases Option.some.inj ((rfl : j_meth[153]? = some _).symm.trans h); exact absurd rfl h3
  | 154, h, _, h3 => by cases Option.some.inj ((rfl : j_meth[154]? = some _).symm.trans h); exact absurd rfl h3
  | 155, h, _, h3 => by cases Option.some.inj ((rfl : j_meth[155]? = some _).symm.trans h); exact absurd rfl h3
  | 156, h, _, h3 => by cases Option.some.inj ((rfl : j_meth[156]? = some _).symm.trans h); exact absurd rfl h3
  | 157, h, _, h3 => by cases Option.some.inj ((rfl : j_meth[157]? = some _).symm.trans h); exact absurd rfl h3
  | 158, h, _, h3 => by cases Option.some.inj ((rfl : j_meth[158]? = some _).symm.trans h); exact absurd rfl h3
  | 159, h, _, h3 => by cases Option.some.inj ((rfl : j_meth[159]? = some _).symm.trans h); exact absurd rfl h3
  | 160, h, _, h3 => by cases Option.some.inj ((rfl : j_meth[160]? = some _).symm.trans h); exact absurd rfl h3
  | 161, h, _, h3 => by cases Option.some.inj ((rfl : j_meth[161]? = some _).symm.trans h); exact absurd rfl h3
  | 162, h, _, h3 => by cases Option.some.inj ((rfl : j_meth[162]? = some _).symm.trans h); exact absurd rfl h3
  | 163, h, _, h3 => by cases Option.some.inj ((rfl : j_meth[163]? = some _).symm.trans h); exact absurd rfl h3
  | 164, h, _, h3 => by cases Option.some.inj ((rfl : j_meth[164]? = some _).symm.trans h); exact absurd rfl h3
  | 165, h, _, h3 => by cases Option.some.inj ((rfl : j_meth[165]? = some _).symm.trans h); exact absurd rfl h3
  | 166, h, _, h3 => by cases Option.some.inj ((rfl : j_meth[166]? = some _).symm.trans h); exact absurd rfl h3
  | 167, h, _, h3 => by cases Option.some.inj ((rfl : j_meth[167]? = some _).symm.trans h); exact absurd rfl h3
  | 168, h, _, h3 => by cases Option.some.inj ((rfl : j_meth[168]? = some _).symm.trans h); exact absurd rfl h3
  | 169, h, _, h3 => by cases Option.some.inj ((rfl : j_meth[169]? = some _).symm.trans h); exact absurd rfl h3
  | 170, h, _, h3 => by cases Option.some.inj ((rfl : j_meth[170]? = some _).symm.trans h); exact absurd rfl h3
  | 171, h, _, h3 => by cases Option.some.inj ((rfl : j_meth[171]? = some _).symm.trans h); exact absurd rfl h3
  | 172, h, _, h3 => by cases Option.some.inj ((rfl : j_meth[172]? = some _).symm.trans h); exact absurd rfl h3
  | 173, h, _, h3 => by cases Option.some.inj ((rfl : j_meth[173]? = some _).symm.trans h); exact absurd rfl h3
  | 174, h, _, h3 => by cases Option.some.inj ((rfl : j_meth[174]? = some _).symm.trans h); exact absurd rfl h3
  | 175, h, _, h3 => by cases Option.some.inj ((rfl : j_meth[175]? = some _).symm.trans h); exact absurd rfl h3
  | 176, h, _, h3 => by cases Option.some.inj ((rfl : j_meth[176]? = some _).symm.trans h); exact absurd rfl h3
  | 177, h, _, h3 => by cases Option.some.inj ((rfl : j_meth[177]? = some _).symm.trans h); exact absurd rfl h3
  | 178, h, _, h3 => by cases Option.some.inj ((rfl : j_meth[178]? = some _).symm.trans h); exact absurd rfl h3
  | 179, h, _, h3 => by cases Option.some.inj ((rfl : j_meth[179]? = some _).symm.trans h); exact absurd rfl h3
  | 180, h, _, h3 => by cases Option.some.inj ((rfl : j_meth[180]? = some _).symm.trans h); exact absurd rfl h3
  | 181, h, _, h3 => by cases Option.some.inj ((rfl : j_meth[181]? = some _).symm.trans h); exact absurd rfl h3
  | 182, h, _, h3 => by cases Option.some.inj ((rfl : j_meth[182]? = some _).symm.trans h); exact absurd rfl h3
  | 183, h, _, h3 => by cases Option.some.inj ((rfl : j_meth[183]? = some _).symm.trans h); exact absurd rfl h3
  | 184, h, _, h3 => by cases Option.some.inj ((rfl : j_meth[184]? = some _).symm.trans h); exact absurd rfl h3
  | 185, h, _, h3 => by cases Option.some.inj ((rfl : j_meth[185]? = some _).symm.trans h); exact absurd rfl h3
  | 186, h, _, h3 => by cases Option.some.inj ((rfl : j_meth[186]? = some _).symm.trans h); exact absurd rfl h3
  | 187, h, _, h3 => by cases Option.some.inj ((rfl : j_meth[187]? = some _).symm.trans h); exact absurd rfl h3
  | 188, h, _, h3 => by cases Option.some.inj ((rfl : j_meth[188]? = some _).symm.trans h); exact absurd rfl h3
  | 189, h, _, h3 => by cases Option.some.inj ((rfl : j_meth[189]? = some _).symm.trans h); exact absurd rfl h3
  | 190, h, _, h3 => by cases Option.some.inj ((rfl : j_meth[190]? = some _).symm.trans h); exact absurd rfl h3
  | 191, h, _, h3 => by cases Option.some.inj ((rfl : j_meth[191]? = some _).symm.trans h); exact absurd rfl h3
  | 192, h, _, h3 => by cases Option.some.inj ((rfl : j_meth[192]? = some _).symm.trans h); exact absurd rfl h3
  | 193, h, _, h3 => by cases Option.some.inj ((rfl : j_meth[193]? = some _).symm.trans h); exact absurd rfl h3
  | 194, h, _, h3 => by cases Option.some.inj ((rfl : j_meth[194]? = some _).symm.trans h); exact absurd rfl h3
  | 195, h, _, h3 => by cases Option.some.inj ((rfl : j_meth[195]? = some _).symm.trans h); exact absurd rfl h3
  | 196, h, _, h3 => by cases Option.some.inj ((rfl : j_meth[196]? = some _).symm.trans h); exact absurd rfl h3
  | 197, h, _, h3 => by cases Option.some.inj ((rfl : j_meth[197]? = some _).symm.trans h); exact absurd rfl h3
  | 198, h, _, h3 => by cases Option.some.inj ((rfl : j_meth[198]? = some _).symm.trans h); exact absurd rfl h3
  | 199, h, _, h3 => by cases Option.some.inj ((rfl : j_meth[199]? = some _).symm.trans h); exact absurd rfl h3
  | 200, h, _, h3 => by cases Option.some.inj ((rfl : j_meth[200]? = some _).symm.trans h); exact absurd rfl h3
  | 201, h, _, h3 => by cases Option.some.inj ((rfl : j_meth[201]? = some _).symm.trans h); exact absurd rfl h3
  | 202, h, _, h3 => by cases Option.some.inj ((rfl : j_meth[202]? = some _).symm.trans h); exact absurd rfl h3
  | 203, h, _, h3 => by cases Option.some.inj ((rfl : j_meth[203]? = some _).symm.trans h); exact absurd rfl h3
  | 204, h, _, h3 => by cases Option.some.inj ((rfl : j_meth[204]? = some _).symm.trans h); exact absurd rfl h3
  | 205, h, _, h3 => by cases Option.some.inj ((rfl : j_meth[205]? = some _).symm.trans h); exact absurd rfl h3
  | 206, h, _, h3 => by cases Option.some.inj ((rfl : j_meth[206]? = some _).symm.trans h); exact absurd rfl h3
  | 207, h, _, h3 => by cases Option.some.inj ((rfl : j_meth[207]? = some _).symm.trans h); exact absurd rfl h3
  | 208, h, _, h3 => by cases Option.some.inj ((rfl : j_meth[208]? = some _).symm.trans h); exact absurd rfl h3
  | 209, h, _, h3 => by cases Option.some.inj ((rfl : j_meth[209]? = some _).symm.trans h); exact absurd rfl h3
  | 210, h, _, h3 => by cases Option.some.inj ((rfl : j_meth[210]? = some _).symm.trans h); exact absurd rfl h3
  | 211, h, _, h3 => by cases Option.some.inj ((rfl : j_meth[211]? = some _).symm.trans h); exact absurd rfl h3
  | 212, h, _, h3 => by cases Option.some.inj ((rfl : j_meth[212]? = some _).symm.trans h); exact absurd rfl h3
  | 213, h, _, h3 => by cases Option.some.inj ((rfl : j_meth[213]? = some _).symm.trans h); exact absurd rfl h3
  | 214, h, _, h3 => by cases Option.some.inj ((rfl : j_meth[214]? = some _).symm.trans h); exact absurd rfl h3
  | 215, h, _, h3 => by cases Option.some.inj ((rfl : j_meth[215]? = some _).symm.trans h); exact absurd rfl h3
  | 216, h, _, h3 => by cases Option.some.inj ((rfl : j_meth[216]? = some _).symm.trans h); exact absurd rfl h3
  | 217, h, _, h3 => by cases Option.some.inj ((rfl : j_meth[217]? = some _).symm.trans h); exact absurd rfl h3
  | 218, h, _, h3 => by cases Option.some.inj ((rfl : j_meth[218]? = some _).symm.trans h); exact absurd rfl h3
  | 219, h, _, h3 => by cases Option.some.inj ((rfl : j_meth[219]? = some _).symm.trans h); exact absurd rfl h3
  | 220, h, _, h3 => by cases Option.some.inj ((rfl : j_meth[220]? = some _).symm.trans h); exact absurd rfl h3
  | 221, h, _, h3 => by cases Option.some.inj ((rfl : j_meth[221]? = some _).symm.trans h); exact absurd rfl h3
  | 222, h, _, h3 => by cases Option.some.inj ((rfl : j_meth[222]? = some _).symm.trans h); exact absurd rfl h3
  | 223, h, _, h3 => by cases Option.some.inj ((rfl : j_meth[223]? = some _).symm.trans h); exact absurd rfl h3
  | 224, h, _, h3 => by cases Option.some.inj ((rfl : j_meth[224]? = some _).symm.trans h); exact absurd rfl h3
  | 225, h, _, h3 => by cases Option.some.inj ((rfl : j_meth[225]? = some _).symm.trans h); exact absurd rfl h3
  | 226, h, _, h3 => by cases Option.some.inj ((rfl : j_meth[226]? = some _).symm.trans h); exact absurd rfl h3
  | 227, h, _, h3 => by cases Option.some.inj ((rfl : j_meth[227]? = some _).symm.trans h); exact absurd rfl h3
  | 228, h, _, h3 => by cases Option.some.inj ((rfl : j_meth[228]? = some _).symm.trans h); exact absurd rfl h3
  | 229, h, _, h3 => by cases Option.some.inj ((rfl : j_meth[229]? = some _).symm.trans h); exact absurd rfl h3
  | 230, h, _, h3 => by cases Option.some.inj ((rfl : j_meth[230]? = some _).symm.trans h); exact absurd rfl h3
  | 231, h, _, h3 => by cases Option.some.inj ((rfl : j_meth[231]? = some _).symm.trans h); exact absurd rfl h3
  | 232, h, _, h3 => by cases Option.some.inj ((rfl : j_meth[232]? = some _).symm.trans h); exact absurd rfl h3
  | 233, h, _, h3 => by cases Option.some.inj ((rfl : j_meth[233]? = some _).symm.trans h); exact absurd rfl h3
  | 234, h, _, h3 => by cases Option.some.inj ((rfl : j_meth[234]? = some _).symm.trans h); exact absurd rfl h3
  | 235, h, _, h3 => by cases Option.some.inj ((rfl : j_meth[235]? = some _).symm.trans h); exact absurd rfl h3
  | 236, h, _, h3 => by cases Option.some.inj ((rfl : j_meth[236]? = some _).symm.trans h); exact absurd rfl h3
  | 237, h, _, h3 => by cases Option.some.inj ((rfl : j_meth[237]? = some _).symm.trans h); exact absurd rfl h3
  | 238, h, _, h3 => by cases Option.some.inj ((rfl : j_meth[238]? = some _).symm.trans h); exact absurd rfl h3
  | 239, h, _, h3 => by cases Option.some.inj ((rfl : j_meth[239]? = some _).symm.trans h); exact absurd rfl h3
  | 240, h, _, h3 => by cases Option.some.inj ((rfl : j_meth[240]? = some _).symm.trans h); exact absurd rfl h3
  | 241, h, _, h3 => by cases Option.some.inj ((rfl : j_meth[241]? = some _).symm.trans h); exact absurd rfl h3
  | 242, h, _, h3 => by cases Option.some.inj ((rfl : j_meth[242]? = some _).symm.trans h); exact absurd rfl h3
  | 243, h, _, h3 => by cases Option.some.inj ((rfl : j_meth[243]? = some _).symm.trans h); exact absurd rfl h3
  | 244, h, _, h3 => by cases Option.some.inj ((rfl : j_meth[244]? = some _).symm.trans h); exact absurd rfl h3
  | 245, h, _, h3 => by cases Option.some.inj ((rfl : j_meth[245]? = some _).symm.trans h); exact absurd rfl h3
  | 246, h, _, h3 => by cases Option.some.inj ((rfl : j_meth[246]? = some _).symm.trans h); exact absurd rfl h3
  | 247, h, _, h3 => by cases Option.some.inj ((rfl : j_meth[247]? = some _).symm.trans h); exact absurd rfl h3
  | 248, h, _, h3 => by cases Option.some.inj ((rfl : j_meth[248]? = some _).symm.trans h); exact absurd rfl h3
  | 249, h, _, h3 => by cases Option.some.inj ((rfl : j_meth[249]? = some _).symm.trans h); exact absurd rfl h3
  | 250, h, _, h3 => by cases Option.some.inj ((rfl : j_meth[250]? = some _).symm.trans h); exact absurd rfl h3
  | 251, h, _, h3 => by cases Option.some.inj ((rfl : j_meth[251]? = some _).symm.trans h); exact absurd rfl h3
  | 252, h, _, h3 => by cases Option.some.inj ((rfl : j_meth[252]? = some _).symm.trans h); exact absurd rfl h3
  | 253, h, _, h3 => by cases Option.some.inj ((rfl : j_meth[253]? = some _).symm.trans h); exact absurd rfl h3
  | 254, h, _, h3 => by cases Option.some.inj ((rfl : j_meth[254]? = some _).symm.trans h); exact absurd rfl h3
  | 255, h, _, h3 => by cases Option.some.inj ((rfl : j_meth[255]? = some _).symm.trans h); exact absurd rfl h3
  | 256, h, _, h3 => by cases Option.some.inj ((rfl : j_meth[256]? = some _).symm.trans h); exact absurd rfl h3
  | 257, h, _, h3 => by cases Option.some.inj ((rfl : j_meth[257]? = some _).symm.trans h); exact absurd rfl h3
  | 258, h, _, h3 => by cases Option.some.inj ((rfl : j_meth[258]? = some _).symm.trans h); exact absurd rfl h3
  | 259, h, _, h3 => by cases Option.some.inj ((rfl : j_meth[259]? = some _).symm.trans h); exact absurd rfl h3
  | 260, h, _, h3 => by cases Option.some.inj ((rfl : j_meth[260]? = some _).symm.trans h); exact absurd rfl h3
  | 261, h, _, h3 => by cases Option.some.inj ((rfl : j_meth[261]? = some _).symm.trans h); exact absurd rfl h3
  | 262, h, _, h3 => by cases Option.some.inj ((rfl : j_meth[262]? = some _).symm.trans h); exact absurd rfl h3
  | 263, h, _, h3 => by cases Option.some.inj ((rfl : j_meth[263]? = some _).symm.trans h); exact absurd rfl h3
  | 264, h, _, h3 => by cases Option.some.inj ((rfl : j_meth[264]? = some _).symm.trans h); exact absurd rfl h3
  | 265, h, _, _ => by cases Option.some.inj ((rfl : j_meth[265]? = some _).symm.trans h); exact j_tab 2 j_cw_265
  | 266, h, _, _ => by cases Option.some.inj ((rfl : j_meth[266]? = some _).symm.trans h); exact j_tab 2 j_cw_266
  | 267, h, _, _ => by cases Option.some.inj ((rfl : j_meth[267]? = some _).symm.trans h); exact j_tab 2 j_cw_267
  | 268, h, _, _ => by cases Option.some.inj ((rfl : j_meth[268]? = some _).symm.trans h); exact j_tab 3 j_cw_268
  | 269, h, _, _ => by cases Option.some.inj ((rfl : j_meth[269]? = some _).symm.trans h); exact j_tab 3 j_cw_269
  | 270, h, _, _ => by cases Option.some.inj ((rfl : j_meth[270]? = some _).symm.trans h); exact j_tab 1 j_cw_270
  | 272, h, _, _ => by cases Option.some.inj ((rfl : j_meth[272]? = some _).symm.trans h); exact j_tab 3 j_cw_272
  | 273, h, _, _ => by cases Option.some.inj ((rfl : j_meth[273]? = some _).symm.trans h); exact j_tab 3 j_cw_273
  | 274, h, _, _ => by cases Option.some.inj ((rfl : j_meth[274]? = some _).symm.trans h); exact j_tab 3 j_cw_274
  | 275, h, _, _ => by cases Option.some.inj ((rfl : j_meth[275]? = some _).symm.trans h); exact j_tab 4 j_cw_275
  | 276, h, _, _ => by cases Option.some.inj ((rfl : j_meth[276]? = some _).symm.trans h); exact j_tab 4 j_cw_276
  | 277, h, _, _ => by cases Option.some.inj ((rfl : j_meth[277]? = some _).symm.trans h); exact j_tab 4 j_cw_277
  | 278, h, _, _ => by cases Option.some.inj ((rfl : j_meth[278]? = some _).symm.trans h); exact j_tab 3 j_cw_278
  | 279, h, _, _ => by cases Option.some.inj ((rfl : j_meth[279]? = some _).symm.trans h); exact j_tab 3 j_cw_279
  | 280, h, _, _ => by cases Option.some.inj ((rfl : j_meth[280]? = some _).symm.trans h); exact j_tab 4 j_cw_280
  | 281, h, _, _ => by cases Option.some.inj ((rfl : j_meth[281]? = some _).symm.trans h); exact j_tab 3 j_cw_281
  | 282, h, _, _ => by cases Option.some.inj ((rfl : j_meth[282]? = some _).symm.trans h); exact j_tab 3 j_cw_282
  | 283, h, _, _ => by cases Option.some.inj ((rfl : j_meth[283]? = some _).symm.trans h); exact j_tab 3 j_cw_283
  | 284, h, _, _ => by cases Option.some.inj ((rfl : j_meth[284]? = some _).symm.trans h); exact j_tab 4 j_cw_284
  | 285, h, _, _ => by cases Option.some.inj ((rfl : j_meth[285]? = some _).symm.trans h); exact j_tab 4 j_cw_285
  | 286, h, _, _ => by cases Option.some.inj ((rfl : j_meth[286]? = some _).symm.trans h); exact j_tab 3 j_cw_286
  | 287, h, _, _ => by cases Option.some.inj ((rfl : j_meth[287]? = some _).symm.trans h); exact j_tab 4 j_cw_287
  | 288, h, _, _ => by cases Option.some.inj ((rfl : j_meth[288]? = some _).symm.trans h); exact j_tab 4 j_cw_288
  | 289, h, _, _ => by cases Option.some.inj ((rfl : j_meth[289]? = some _).symm.trans h); exact j_tab 4 j_cw_289
  | 290, h, _, _ => by cases Option.some.inj ((rfl : j_meth[290]? = some _).symm.trans h); exact j_tab 4 j_cw_290
  | 291, h, _, _ => by cases Option.some.inj ((rfl : j_meth[291]? = some _).symm.trans h); exact j_tab 3 j_cw_291
  | 292, h, _, _ => by cases Option.some.inj ((rfl : j_meth[292]? = some _).symm.trans h); exact j_tab 3 j_cw_292
  | 293, h, _, _ => by cases Option.some.inj ((rfl : j_meth[293]? = some _).symm.trans h); exact j_tab 4 j_cw_293
  | 294, h, _, _ => by cases Option.some.inj ((rfl : j_meth[294]? = some _).symm.trans h); exact j_tab 4 j_cw_294
  | 295, h, _, _ => by cases Option.some.inj ((rfl : j_meth[295]? = some _).symm.trans h); exact j_tab 3 j_cw_295
  | 296, h, _, _ => by cases Option.some.inj ((rfl : j_meth[296]? = some _).symm.trans h); exact j_tab 3 j_cw_296
  | 297, h, _, _ => by cases Option.some.inj ((rfl : j_meth[297]? = some _).symm.trans h); exact j_tab 4 j_cw_297
  | 298, h, _, _ => by cases Option.some.inj ((rfl : j_meth[298]? = some _).symm.trans h); exact j_tab 3 j_cw_298
  | 299, h, _, _ => by cases Option.some.inj ((rfl : j_meth[299]? = some _).symm.trans h); exact j_tab 3 j_cw_299
  | 300, h, _, _ => by cases Option.some.inj ((rfl : j_meth[300]? = some _).symm.trans h); exact j_tab 4 j_cw_300
  | 301, h, _, _ => by cases Option.some.inj ((rfl : j_meth[301]? = some _).symm.trans h); exact j_tab 4 j_cw_301
  | 302, h, _, _ => by cases Option.some.inj ((rfl : j_meth[302]? = some _).symm.trans h); exact j_tab 4 j_cw_302
  | 303, h, _, _ => by cases Option.some.inj ((rfl : j_meth[303]? = some _).symm.trans h); exact j_tab 4 j_cw_303
  | 304, h, _, _ => by cases Option.some.inj ((rfl : j_meth[304]? = some _).symm.trans h); exact j_tab 4 j_cw_304
  | 305, h, _, _ => by cases Option.some.inj ((rfl : j_meth[305]? = some _).symm.trans h); exact j_tab 3 j_cw_305
  | 306, h, _, _ => by cases Option.some.inj ((rfl : j_meth[306]? = some _).symm.trans h); exact j_tab 3 j_cw_306
  | 307, h, _, _ => by cases Option.some.inj ((rfl : j_meth[307]? = some _).symm.trans h); exact j_tab 3 j_cw_307
  | 308, h, _, _ => by cases Option.some.inj ((rfl : j_meth[308]? = some _).symm.trans h); exact j_tab 3 j_cw_308
  | 309, h, _, _ => by cases Option.some.inj ((rfl : j_meth[309]? = some _).symm.trans h); exact j_tab 3 j_cw_309
  | 271, _, hy, _ => absurd rfl hy
  | k + 310, h, _, _ => by
    have h1 : (k + 310) < j_meth.length := (List.getElem?_eq_some_iff.mp h).1
    have h2 : j_meth.length = 310 := by decide +kernel
    omega
theorem j_mw_0 : ((((j_meth.zip j_mw).zip (List.range 310)).drop 0).take 20).all (fun q => q.2 == 271 || j_mok q.2 q.1.1 q.1.2) = true := by decide +kernel
theorem j_mw_1 : ((((j_meth.zip j_mw).zip (List.range 310)).drop 20).take 20).all (fun q => q.2 == 271 || j_mok q.2 q.1.1 q.1.2) = true := by decide +kernel
theorem j_mw_2 : ((((j_meth.zip j_mw).zip (List.range 310)).drop 40).take 20).all (fun q => q.2 == 271 || j_mok q.2 q.1.1 q.1.2) = true := by decide +kernel
theorem j_mw_3 : ((((j_meth.zip j_mw).zip (List.range 310)).drop 60).take 20).all (fun q => q.2 == 271 || j_mok q.2 q.1.1 q.1.2) = true := by decide +kernel
theorem j_mw_4 : ((((j_meth.zip j_mw).zip (List.range 310)).drop 80).take 20).all (fun q => q.2 == 271 || j_mok q.2 q.1.1 q.1.2) = true := by decide +kernel
theorem j_mw_5 : ((((j_meth.zip j_mw).zip (List.range 310)).drop 100).take 20).all (fun q => q.2 == 271 || j_mok q.2 q.1.1 q.1.2) = true := by decide +kernel
theorem j_mw_6 : ((((j_meth.zip j_mw).zip (List.range 310)).drop 120).take 20).all (fun q => q.2 == 271 || j_mok q.2 q.1.1 q.1.2) = true := by decide +kernel
theorem j_mw_7 : ((((j_meth.zip j_mw).zip (List.range 310)).drop 140).take 20).all (fun q => q.2 == 271 || j_mok q.2 q.1.1 q.1.2) = true := by decide +kernel
theorem j_mw_8 : ((((j_meth.zip j_mw).zip (List.range 310)).drop 160).take 20).all (fun q => q.2 == 271 || j_mok q.2 q.1.1 q.1.2) = true := by decide +kernel
theorem j_mw_9 : ((((j_meth.zip j_mw).zip (List.range 310)).drop 180).take 20).all (fun q => q.2 == 271 || j_mok q.2 q.1.1 q.1.2) = true := by decide +kernel
theorem j_mw_10 : ((((j_meth.zip j_mw).zip (List.range 310)).drop 200).take 20).all (fun q => q.2 == 271 || j_mok q.2 q.1.1 q.1.2) = true := by decide +kernel
theorem j_mw_11 : ((((j_meth.zip j_mw).zip (List.range 310)).drop 220).take 20).all (fun q => q.2 == 271 || j_mok q.2 q.1.1 q.1.2) = true := by decide +kernel
theorem j_mw_12 : ((((j_meth.zip j_mw).zip (List.range 310)).drop 240).take 20).all (fun q => q.2 == 271 || j_mok q.2 q.1.1 q.1.2) = true := by decide +kernel
theorem j_mw_13 : ((((j_meth.zip j_mw).zip (List.range 310)).drop 260).take 20).all (fun q => q.2 == 271 || j_mok q.2 q.1.1 q.1.2) = true := by decide +kernel
theorem j_mw_14 : ((((j_meth.zip j_mw).zip (List.range 310)).drop 280).take 20).all (fun q => q.2 == 271 || j_mok q.2 q.1.1 q.1.2) = true := by decide +kernel
theorem j_mw_15 : ((((j_meth.zip j_mw).zip (List.range 310)).drop 300).take 10).all (fun q => q.2 == 271 || j_mok q.2 q.1.1 q.1.2) = true := by decide +kernel
theorem j_len : j_meth.length = 310 ∧ j_code.length = 310 ∧ j_mw.length = 310 := by decide +kernel
def j_tf (c k : Nat) : FieldType := match c with
  | 0 => tyJ0 k | 1 => tyJ4 k | 2 => tyX0 k | 3 => tyX1 k | 4 => tyX2 k | 5 => tyX3 k | 6 => tyX4 k
  | 7 => tyX5 k | 8 => tyX6 k | 9 => tyX7 k | 10 => tyX8 k | 11 => tyX9 k | _ => tyX10 k
/-- the classes: their fields' words, types, names, and that they can be made -/
def j_clk (c : Nat) : Bool := match vwCl[c]? with
  | some q => (u_ws q.1 q.2.1 q.2.2).all (fun w => lw_tb2.any (fun v => decide (v = w)) && goodWord w) && ((List.range q.2.2).all (fun k => decide (parseFieldDescriptor (q.2.1 k).2.2.1 = some (j_tf c k)) && ((decide ((q.2.1 k).1 = q.1) || c == 1) && (j_tf c k == .int || j_tf c k == .long || j_tf c k == .boolean || j_tf c k == .byte || (match j_tf c k with | .object _ => true | .array _ => true | _ => false)))) && ((List.range q.2.2).all (fun a => (List.range q.2.2).all (fun b => a == b || decide ((q.2.1 a).2.1 ≠ (q.2.1 b).2.1))) && (lw_tb2.any (fun v => decide (v = .instantiable q.1 q.2.2)) && (goodWord (.instantiable q.1 q.2.2) && (lw_tb2.any (fun v => decide (v = .initialized q.1)) && (goodWord (.initialized q.1) && (decide (j_cnm c = q.1) && decide (q.2.2 < 100))))))))
  | none => false
theorem j_cl_ok : (List.range 13).all j_clk = true := by decide +kernel
theorem j_misc : (j_has (.instanceMethod objectInit) && (j_has (.code objectInit ⟨#[0xb1]⟩ 1 none) && (j_has (.native arraycopyName) && (j_has (.static arraycopyName) && (j_has (.initialized "java/lang/System") && (j_has (.arrayClass .int) && (j_has (.arrayClass .long) && (j_has (.arrayClass .byte) && (j_has (.arrayClass .boolean) && j_has (.classLink RX6 18 ("[" ++ (FieldType.array FieldType.long).toString))))))))))) = true := by decide +kernel
theorem j_misc2 : (j_has (.classLink "java/util/Arrays" 311 "[B") && (j_has (.methodLink "java/util/Arrays" 310 ⟨"[B", "clone", "()Ljava/lang/Object;"⟩) && (j_has (.sameMethod "[B" "java/lang/Object" "clone" "()Ljava/lang/Object;") && (j_has (.native ⟨"java/lang/Object", "clone", "()Ljava/lang/Object;"⟩) && (j_has (.instanceMethod ⟨"java/lang/Object", "clone", "()Ljava/lang/Object;"⟩) && (j_has (.selects "[B" ⟨"[B", "clone", "()Ljava/lang/Object;"⟩ ⟨"java/lang/Object", "clone", "()Ljava/lang/Object;"⟩) && j_has (.superclass "java/lang/StringBuilder" "java/lang/AbstractStringBuilder"))))))) = true := by decide +kernel
theorem j_castable : lw_tb2.any (fun v => decide (v = .castable "[B" "java/lang/Cloneable")) = true := by decide +kernel
theorem j_laysj : (lw_tb2.any (fun v => decide (v = .laysStatic "java/lang/String" "COMPACT_STRINGS" "Z")) && (lw_tb2.any (fun v => decide (v = .laysStatic "java/lang/Integer" "DigitOnes" "[B")) && lw_tb2.any (fun v => decide (v = .laysStatic "java/lang/Integer" "DigitTens" "[B")))) = true := by decide +kernel
theorem j_over : lw_tb2.any (fun v => decide (v = .arrayOver (.array .long))) = true := by decide +kernel
theorem j_lays : lw_tb2.any (fun v => decide (v = .laysStatic "WholePacks" "TENS" "[I")) = true := by decide +kernel
theorem j_pf_ok : j_meth.all (fun q => plainName q.1.cls || (decide (q.1.cls = "java/lang/Math") && !(Jvm.Free.JP.floatDescs.contains q.1.desc))) = true := by decide +kernel
theorem j_pf {y : Nat} {q : j_M} (h : j_meth[y]? = some q) : plainFor q.1 = true := by
  have h1 := List.all_eq_true.mp j_pf_ok q (List.mem_of_getElem? h)
  rw [Bool.or_eq_true] at h1
  rcases h1 with h1 | h1
  · exact plainFor_of_name h1
  · rw [Bool.and_eq_true] at h1
    exact Jvm.Free.JP.mathPlain (of_decide_eq_true h1.1) (by simpa using h1.2)
