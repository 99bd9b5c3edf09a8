section
/-! The tables' words (the skeleton's PART A, by program), and StringBuilder's. -/
-- ===== PART A: goes FIRST, ahead of the names: the tables' words, and 'selects' of the private methods out of them =====
/-- a private method of a class that the tables say can be made, by its rows of tables_1 -/
def lw_okq (q : MethodName × Nat) : Prop := (q.1.cls ≠ "java/lang/invoke/MethodHandle" ∧ q.1.cls ≠ "java/lang/invoke/VarHandle") ∧ Cond.instantiable q.1.cls q.2 ∈ tables_1 ∧ Cond.privateMethod q.1 ∈ tables_1 ∧ Cond.instanceMethod q.1 ∈ tables_1
theorem lw_p0 : lw_okq (⟨"WholePacks", "isPack", "(I)Z"⟩, 13) := ⟨⟨by decide +kernel, by decide +kernel⟩, List.mem_of_getElem? (i := 25) (by decide +kernel), List.mem_of_getElem? (i := 434) (by decide +kernel), List.mem_of_getElem? (i := 435) (by decide +kernel)⟩
theorem lw_p1 : lw_okq (⟨"WholePacks", "isRule", "(I)Z"⟩, 13) := ⟨⟨by decide +kernel, by decide +kernel⟩, List.mem_of_getElem? (i := 25) (by decide +kernel), List.mem_of_getElem? (i := 443) (by decide +kernel), List.mem_of_getElem? (i := 444) (by decide +kernel)⟩
theorem lw_p2 : lw_okq (⟨"WholePacks$Text", "readClause", "()Z"⟩, 8) := ⟨⟨by decide +kernel, by decide +kernel⟩, List.mem_of_getElem? (i := 314) (by decide +kernel), List.mem_of_getElem? (i := 477) (by decide +kernel), List.mem_of_getElem? (i := 478) (by decide +kernel)⟩
theorem lw_p3 : lw_okq (⟨"WholePacks$Text", "skip", "(C)Z"⟩, 8) := ⟨⟨by decide +kernel, by decide +kernel⟩, List.mem_of_getElem? (i := 314) (by decide +kernel), List.mem_of_getElem? (i := 481) (by decide +kernel), List.mem_of_getElem? (i := 482) (by decide +kernel)⟩
theorem lw_p4 : lw_okq (⟨"WholePacks$Text", "here", "()I"⟩, 8) := ⟨⟨by decide +kernel, by decide +kernel⟩, List.mem_of_getElem? (i := 314) (by decide +kernel), List.mem_of_getElem? (i := 485) (by decide +kernel), List.mem_of_getElem? (i := 486) (by decide +kernel)⟩
theorem lw_p5 : lw_okq (⟨"WholePacks$Text", "readTerm", "(Z)Z"⟩, 8) := ⟨⟨by decide +kernel, by decide +kernel⟩, List.mem_of_getElem? (i := 314) (by decide +kernel), List.mem_of_getElem? (i := 489) (by decide +kernel), List.mem_of_getElem? (i := 490) (by decide +kernel)⟩
theorem lw_p6 : lw_okq (⟨"WholePacks$Text", "atDigit", "()Z"⟩, 8) := ⟨⟨by decide +kernel, by decide +kernel⟩, List.mem_of_getElem? (i := 314) (by decide +kernel), List.mem_of_getElem? (i := 493) (by decide +kernel), List.mem_of_getElem? (i := 494) (by decide +kernel)⟩
theorem lw_p7 : lw_okq (⟨"WholePacks$Text", "readBound", "(Z)Z"⟩, 8) := ⟨⟨by decide +kernel, by decide +kernel⟩, List.mem_of_getElem? (i := 314) (by decide +kernel), List.mem_of_getElem? (i := 498) (by decide +kernel), List.mem_of_getElem? (i := 499) (by decide +kernel)⟩
theorem lw_p8 : lw_okq (⟨"WholePacks$Table", "addRow", "(IJ)I"⟩, 13) := ⟨⟨by decide +kernel, by decide +kernel⟩, List.mem_of_getElem? (i := 155) (by decide +kernel), List.mem_of_getElem? (i := 533) (by decide +kernel), List.mem_of_getElem? (i := 534) (by decide +kernel)⟩
theorem lw_p9 : lw_okq (⟨"WholePacks$Table", "lowestRow", "()I"⟩, 13) := ⟨⟨by decide +kernel, by decide +kernel⟩, List.mem_of_getElem? (i := 155) (by decide +kernel), List.mem_of_getElem? (i := 545) (by decide +kernel), List.mem_of_getElem? (i := 546) (by decide +kernel)⟩
theorem lw_p10 : lw_okq (⟨"WholePacks$Table", "nearestColumn", "(I)I"⟩, 13) := ⟨⟨by decide +kernel, by decide +kernel⟩, List.mem_of_getElem? (i := 155) (by decide +kernel), List.mem_of_getElem? (i := 549) (by decide +kernel), List.mem_of_getElem? (i := 550) (by decide +kernel)⟩
theorem lw_p11 : lw_okq (⟨"WholePacks$Table", "isNearer", "(III)Z"⟩, 13) := ⟨⟨by decide +kernel, by decide +kernel⟩, List.mem_of_getElem? (i := 155) (by decide +kernel), List.mem_of_getElem? (i := 553) (by decide +kernel), List.mem_of_getElem? (i := 554) (by decide +kernel)⟩
theorem lw_p12 : lw_okq (⟨"WholePacks$Table", "pivot", "(II)Z"⟩, 13) := ⟨⟨by decide +kernel, by decide +kernel⟩, List.mem_of_getElem? (i := 155) (by decide +kernel), List.mem_of_getElem? (i := 557) (by decide +kernel), List.mem_of_getElem? (i := 558) (by decide +kernel)⟩
theorem lw_p13 : lw_okq (⟨"WholePacks$Table", "freshenRow", "(III)Z"⟩, 13) := ⟨⟨by decide +kernel, by decide +kernel⟩, List.mem_of_getElem? (i := 155) (by decide +kernel), List.mem_of_getElem? (i := 561) (by decide +kernel), List.mem_of_getElem? (i := 562) (by decide +kernel)⟩
theorem lw_p14 : lw_okq (⟨"WholePacks$Table", "mixed", "(JJJII)J"⟩, 13) := ⟨⟨by decide +kernel, by decide +kernel⟩, List.mem_of_getElem? (i := 155) (by decide +kernel), List.mem_of_getElem? (i := 565) (by decide +kernel), List.mem_of_getElem? (i := 566) (by decide +kernel)⟩
theorem lw_p15 : lw_okq (⟨"WholePacks$Cuts", "tellIn", "(LWholePacks$Table;ILWholePacks$Packs;I)J"⟩, 4) := ⟨⟨by decide +kernel, by decide +kernel⟩, List.mem_of_getElem? (i := 212) (by decide +kernel), List.mem_of_getElem? (i := 592) (by decide +kernel), List.mem_of_getElem? (i := 593) (by decide +kernel)⟩
def lw_privs_1 : List (MethodName × Nat) := [(⟨"WholePacks", "isPack", "(I)Z"⟩, 13), (⟨"WholePacks", "isRule", "(I)Z"⟩, 13), (⟨"WholePacks$Text", "readClause", "()Z"⟩, 8), (⟨"WholePacks$Text", "skip", "(C)Z"⟩, 8), (⟨"WholePacks$Text", "here", "()I"⟩, 8), (⟨"WholePacks$Text", "readTerm", "(Z)Z"⟩, 8), (⟨"WholePacks$Text", "atDigit", "()Z"⟩, 8), (⟨"WholePacks$Text", "readBound", "(Z)Z"⟩, 8), (⟨"WholePacks$Table", "addRow", "(IJ)I"⟩, 13), (⟨"WholePacks$Table", "lowestRow", "()I"⟩, 13), (⟨"WholePacks$Table", "nearestColumn", "(I)I"⟩, 13), (⟨"WholePacks$Table", "isNearer", "(III)Z"⟩, 13), (⟨"WholePacks$Table", "pivot", "(II)Z"⟩, 13), (⟨"WholePacks$Table", "freshenRow", "(III)Z"⟩, 13), (⟨"WholePacks$Table", "mixed", "(JJJII)J"⟩, 13), (⟨"WholePacks$Cuts", "tellIn", "(LWholePacks$Table;ILWholePacks$Packs;I)J"⟩, 4)]
theorem lw_r1 : ∀ q ∈ lw_privs_1, lw_okq q := List.forall_mem_cons.mpr ⟨lw_p0, List.forall_mem_cons.mpr ⟨lw_p1, List.forall_mem_cons.mpr ⟨lw_p2, List.forall_mem_cons.mpr ⟨lw_p3, List.forall_mem_cons.mpr ⟨lw_p4, List.forall_mem_cons.mpr ⟨lw_p5, List.forall_mem_cons.mpr ⟨lw_p6, List.forall_mem_cons.mpr ⟨lw_p7, List.forall_mem_cons.mpr ⟨lw_p8, List.forall_mem_cons.mpr ⟨lw_p9, List.forall_mem_cons.mpr ⟨lw_p10, List.forall_mem_cons.mpr ⟨lw_p11, List.forall_mem_cons.mpr ⟨lw_p12, List.forall_mem_cons.mpr ⟨lw_p13, List.forall_mem_cons.mpr ⟨lw_p14, List.forall_mem_cons.mpr ⟨lw_p15, fun _ h => absurd h List.not_mem_nil⟩⟩⟩⟩⟩⟩⟩⟩⟩⟩⟩⟩⟩⟩⟩⟩
theorem lw_p16 : lw_okq (⟨"WholePacks", "isSeenSo", "()Z"⟩, 13) := ⟨⟨by decide +kernel, by decide +kernel⟩, List.mem_of_getElem? (i := 25) (by decide +kernel), List.mem_of_getElem? (i := 663) (by decide +kernel), List.mem_of_getElem? (i := 664) (by decide +kernel)⟩
theorem lw_p17 : lw_okq (⟨"WholePacks", "isCode", "(I)Z"⟩, 13) := ⟨⟨by decide +kernel, by decide +kernel⟩, List.mem_of_getElem? (i := 25) (by decide +kernel), List.mem_of_getElem? (i := 694) (by decide +kernel), List.mem_of_getElem? (i := 695) (by decide +kernel)⟩
theorem lw_p18 : lw_okq (⟨"WholePacks$Packs", "digitOf", "(II)I"⟩, 6) := ⟨⟨by decide +kernel, by decide +kernel⟩, List.mem_of_getElem? (i := 39) (by decide +kernel), List.mem_of_getElem? (i := 708) (by decide +kernel), List.mem_of_getElem? (i := 709) (by decide +kernel)⟩
theorem lw_p19 : lw_okq (⟨"WholePacks$Shelf", "isAhead", "(III)Z"⟩, 4) := ⟨⟨by decide +kernel, by decide +kernel⟩, List.mem_of_getElem? (i := 76) (by decide +kernel), List.mem_of_getElem? (i := 716) (by decide +kernel), List.mem_of_getElem? (i := 717) (by decide +kernel)⟩
def lw_privs_2 : List (MethodName × Nat) := [(⟨"WholePacks", "isSeenSo", "()Z"⟩, 13), (⟨"WholePacks", "isCode", "(I)Z"⟩, 13), (⟨"WholePacks$Packs", "digitOf", "(II)I"⟩, 6), (⟨"WholePacks$Shelf", "isAhead", "(III)Z"⟩, 4)]
theorem lw_r2 : ∀ q ∈ lw_privs_2, lw_okq q := List.forall_mem_cons.mpr ⟨lw_p16, List.forall_mem_cons.mpr ⟨lw_p17, List.forall_mem_cons.mpr ⟨lw_p18, List.forall_mem_cons.mpr ⟨lw_p19, fun _ h => absurd h List.not_mem_nil⟩⟩⟩⟩
def lw_privs : List (MethodName × Nat) := lw_privs_1 ++ (lw_privs_2)
def lw_tbl : List Cond := k2_sels lw_privs ++ tables_1
theorem lw_privs_ok : ∀ q ∈ lw_privs, lw_okq q := by
  show ∀ q ∈ lw_privs_1 ++ (lw_privs_2), lw_okq q
  exact List.forall_mem_append.mpr ⟨lw_r1, lw_r2⟩
/-- a private method is selected whatever class below its own the object has -/
theorem k3_selects_private {C : String} {y : MethodName} {s : State} {args : Array Value} {n : Nat} (hy : y.cls ≠ "java/lang/invoke/MethodHandle" ∧ y.cls ≠ "java/lang/invoke/VarHandle")
    (hins : (Cond.instantiable C n).before args s = true) (hpriv : (Cond.privateMethod y).before args s = true) (hinst : (Cond.instanceMethod y).before args s = true) (hsame : (Cond.sameMethod y.cls y.cls y.name y.desc).before args s = true) :
    (Cond.selects C y y).before args s = true := by
  obtain ⟨c, k, hc, hk, -, -, -, -⟩ := Cond.instantiable_spec hins
  obtain ⟨mk, methM, hnamed, hmethM, -, -⟩ := Cond.instanceMethod_spec hinst
  have hfound : s.methodFound? y.cls y.name y.desc = some mk := State.methodFound?_of_named hnamed hy
  have hsel : selectMethod {} s.vm c mk = .method mk := selectMethod_private hmethM (Cond.privateMethod_at hpriv mk methM hnamed hmethM)
  have hcls : s.vm.findClass y.cls = some mk.cls := findClass_of_methodNamed hnamed
  have hnamed2 : s.methodNamed? ⟨y.cls, y.name, y.desc⟩ = some mk := hnamed
  have hany : (s.vm.classes[mk.cls]?).any (fun x => !x.isInterface) = true := by
    simp only [Cond.before, Cond.holds, Cond.value, hcls, hfound, hnamed2] at hsame
    simpa using hsame
  simp only [Cond.before, Cond.holds, Cond.value, hc, hfound, hnamed, hsel]
  simp only [hany]
  simp
def lw_sbq : List MethodName := [⟨"java/lang/AbstractStringBuilder", "appendNull", "()Ljava/lang/AbstractStringBuilder;"⟩, ⟨"java/lang/AbstractStringBuilder", "ensureCapacityInternal", "(I)V"⟩, ⟨"java/lang/AbstractStringBuilder", "newCapacity", "(I)I"⟩, ⟨"java/lang/AbstractStringBuilder", "putStringAt", "(ILjava/lang/String;)V"⟩, ⟨"java/lang/AbstractStringBuilder", "inflateIfNeededFor", "(Ljava/lang/String;)V"⟩, ⟨"java/lang/AbstractStringBuilder", "inflate", "()V"⟩]
/-- the words: StringBuilder's private methods (its superclass's), then the skeleton's -/
def lw_tb2 : List Cond := (lw_sbq.map fun y => Cond.selects "java/lang/StringBuilder" y y) ++ lw_tbl
theorem lw_sbq_ok : ∀ y ∈ lw_sbq, (y.cls ≠ "java/lang/invoke/MethodHandle" ∧ y.cls ≠ "java/lang/invoke/VarHandle") ∧ Cond.privateMethod y ∈ lw_tbl ∧ Cond.instanceMethod y ∈ lw_tbl ∧ Cond.sameMethod y.cls y.cls y.name y.desc ∈ lw_tbl := by
  intro y hy
  unfold lw_sbq at hy
  simp only [List.mem_cons, List.not_mem_nil, or_false] at hy
  rcases hy with rfl | rfl | rfl | rfl | rfl | rfl
  · exact ⟨⟨by decide +kernel, by decide +kernel⟩, List.mem_of_getElem? (i := 917) (by decide +kernel), List.mem_of_getElem? (i := 918) (by decide +kernel), List.mem_of_getElem? (i := 1115) (by decide +kernel)⟩
  · exact ⟨⟨by decide +kernel, by decide +kernel⟩, List.mem_of_getElem? (i := 921) (by decide +kernel), List.mem_of_getElem? (i := 922) (by decide +kernel), List.mem_of_getElem? (i := 1116) (by decide +kernel)⟩
  · exact ⟨⟨by decide +kernel, by decide +kernel⟩, List.mem_of_getElem? (i := 925) (by decide +kernel), List.mem_of_getElem? (i := 926) (by decide +kernel), List.mem_of_getElem? (i := 1117) (by decide +kernel)⟩
  · exact ⟨⟨by decide +kernel, by decide +kernel⟩, List.mem_of_getElem? (i := 975) (by decide +kernel), List.mem_of_getElem? (i := 976) (by decide +kernel), List.mem_of_getElem? (i := 1118) (by decide +kernel)⟩
  · exact ⟨⟨by decide +kernel, by decide +kernel⟩, List.mem_of_getElem? (i := 979) (by decide +kernel), List.mem_of_getElem? (i := 980) (by decide +kernel), List.mem_of_getElem? (i := 1119) (by decide +kernel)⟩
  · exact ⟨⟨by decide +kernel, by decide +kernel⟩, List.mem_of_getElem? (i := 984) (by decide +kernel), List.mem_of_getElem? (i := 985) (by decide +kernel), List.mem_of_getElem? (i := 1120) (by decide +kernel)⟩
theorem lw_tb2_ok {args : Array Value} {s : State} (hts : ∀ w ∈ lw_tbl, w.before args s = true) : ∀ w ∈ lw_tb2, w.before args s = true := by
  intro w hw
  rcases List.mem_append.mp hw with hw | hw
  · obtain ⟨y, hy, rfl⟩ := List.mem_map.mp hw
    obtain ⟨h0, h1, h2, h3⟩ := lw_sbq_ok y hy
    exact k3_selects_private h0 (hts _ (List.mem_of_getElem? (i := 880) (by decide +kernel) : Cond.instantiable "java/lang/StringBuilder" 4 ∈ lw_tbl)) (hts _ h1) (hts _ h2) (hts _ h3)
  · exact hts w hw
end
section
/-! Names, fields, codes (printed rows, by program). -/
def va_AOA (ty : FieldType) (U : State) : Prop := (Cond.arrayOver (.array ty)).before #[] U = true
theorem va_AOA.of {ty : FieldType} {A : Array Value} {U : State} (h : (Cond.arrayOver (.array ty)).before A U = true) : va_AOA ty U := h
theorem va_AOA.use {ty : FieldType} {A : Array Value} {U : State} (h : va_AOA ty U) : (Cond.arrayOver (.array ty)).before A U = true := h
theorem va_AOA.moved {ty : FieldType} {u U : State} (hvm : u.vm.Alike U.vm) (h : va_AOA ty u) : va_AOA ty U := Jvm.Stand.arrayOver_alikeB hvm h
/-! ===== BEGIN new T[n][m]: the outer array a place, the inner ones among the pooled ===== -/
/-- f, but v at every address of l -/
def vr_up {α : Type} (f : Nat → α) (l : List Nat) (v : α) : Nat → α := fun a => if a ∈ l then v else f a
theorem vr_up_in {α : Type} {f : Nat → α} {l : List Nat} {v : α} {a : Nat} (h : a ∈ l) : vr_up f l v a = v := if_pos h
theorem vr_up_ne {α : Type} {f : Nat → α} {l : List Nat} {v : α} {a : Nat} (h : a ∉ l) : vr_up f l v a = f a := if_neg h
theorem vr_rows {L l : List Nat} {f : Nat → va_E} {e : va_E} (h : ∀ a, a ∈ l → a ∉ L) : va_pl L f ++ l.map (fun a => (a, e)) = va_pl (L ++ l) (vr_up f l e) := by
  unfold va_pl
  rw [List.map_append]
  congr 1
  · apply List.map_congr_left
    intro a ha
    rw [vr_up_ne (fun q => h a q ha)]
  · apply List.map_congr_left
    intro a ha
    rw [vr_up_in ha]
theorem vr_lay {X rows : va_W} {x : Nat × va_E} {pl : va_W} {D : va_G} {cl : List vw_C} {H : Heap} (hP : va_P D cl (((X ++ pl) ++ [x]) ++ rows) H) : va_P D cl ((X ++ [x]) ++ (pl ++ rows)) H := by
  rw [List.append_assoc (X ++ pl)] at hP
  have h := va_P.swap hP
  rw [← List.append_assoc X] at h
  have h2 := va_P.swap h
  rw [List.append_assoc (X ++ [x])] at h2
  exact h2
theorem vr_layD {X rows : va_W} {x : Nat × va_E} {pl : va_W} {A : Nat → Prop} (hD : va_D A (((X ++ pl) ++ [x]) ++ rows)) : va_D A ((X ++ [x]) ++ (pl ++ rows)) := by
  rw [List.append_assoc (X ++ pl)] at hD
  have h := va_D.swap hD
  rw [← List.append_assoc X] at h
  have h2 := va_D.swap h
  rw [List.append_assoc (X ++ [x])] at h2
  exact h2
theorem vr_outer (c : ClassId) (N h0 : Nat) : ∀ i : Nat, Jvm.Free.Multi.outerC c N h0 i = arrV c N (fun j => va_rf (if j < i then some (h0 + 1 + j) else none))
  | 0 => by
    show ({ cls := c, slots := Array.replicate N .null, vm := .none } : Cell) = _
    rw [arrV_new]
    refine congrArg (arrV c N) (funext fun j => ?_)
    simp [va_rf]
  | i + 1 => by
    show (Jvm.Free.Multi.outerC c N h0 i).setSlot i (.ref (h0 + 1 + i)) = _
    rw [vr_outer c N h0 i, arrV_store]
    refine congrArg (arrV c N) (funext fun j => ?_)
    by_cases e : j = i
    · subst e
      simp [updV, va_rf]
    · by_cases h : j < i
      · simp [updV, e, h, Nat.lt_succ_of_lt h]
      · simp [updV, e, h, show ¬ j < i + 1 by omega]
section VGM
variable {p : Program} {l : Launch} {e : Env} {R : Room} {s : State} {m : MethodId} {args : Array Value} {below : List Frame} {meth : Method} {c : Code} {H : Heap} {locs : List Loc} {cells slots : Nat} {Q : State → Prop}
variable {cc : ByteArray} {pc : Nat} {ls : Array Slot} {rest : List Value} {D : va_G} {cl : List vw_C} {A : Nat → Prop} {a : Nat} {tys : List (ClassId × FieldType)} {ws : va_W} {H0 : Heap}
theorem va_mna {X : va_W} {L : List Nat} {f : Nat → va_E} {cc : ByteArray} (hexec : p.tables.exec = Jvm.exec) (hb : c.code = cc) {own : String} {index : Nat} {ty : FieldType} {cy : ClassId} (hown : s.vm.findClass own = some m.cls) (hclink : (Cond.classLink own index ("[" ++ (FieldType.array ty).toString)).before args s = true) (hover : va_AOA ty s) (harr : (Cond.arrayClass ty).before args s = true) (hcy : s.vm.findClass (FieldType.array ty).toString = some cy)
    (hK : va_K D cl tys s) (hP : va_P D cl (X ++ va_pl L f) H) (hD : va_D A (X ++ va_pl L f)) (hS : va_S A H0 H locs) (hA : ∀ q, H0.size ≤ q → A q) {n k : Int32} {N' K' : Nat} {z : vp_A} (hn : ¬ n < 0) (hk : ¬ k < 0) (hN : n.toNatClampNeg = N') (hM : k.toNatClampNeg = K')
    (hb1 : N' * 4 ≤ 536870912) (hb2 : K' * componentBytes ty ≤ 536870912) (hb3 : K' ≤ 536870912) (hdf : fits ty (defaultValue ty) = true) (hdd : (defaultValue ty).isDefault = true) (hcells : cells + (1 + N') ≤ R.cells) (hslots : slots + (N' + N' * K') ≤ R.slots) (hz : ∀ c : ClassId, Jvm.Free.Multi.innerC c K' (defaultValue ty) = vp_cell c z) (hdg : decode cc pc = .ok (.multianewarray index 2, 4))
    (kk : ∀ (q : Nat) (r : Nat → Nat) (cA : ClassId) (H1 : Heap), (∀ i j : Nat, i < N' → j < N' → r i = r j → i = j) → (∀ i : Nat, i < N' → r i ∉ L) → va_K D cl (tys ++ [(cA, .array ty)]) s →
      va_P D cl ((X ++ [(q, .inl (cA, N', .inr (.inr (.inr (.inr (fun i => if i < N' then some (r i) else none))))))]) ++ va_pl (L ++ (List.range N').map r) (vr_up f ((List.range N').map r) (.inl (cy, z)))) H1 → va_D A ((X ++ [(q, .inl (cA, N', .inr (.inr (.inr (.inr (fun i => if i < N' then some (r i) else none))))))]) ++ va_pl (L ++ (List.range N').map r) (vr_up f ((List.range N').map r) (.inl (cy, z)))) → va_S A H0 H1 locs →
      W p l e R s m args below meth c H1 locs (cells + 1 + N') (slots + N' + N' * K') Q (F0 m (pc + 4) ls (.ref q :: rest))) : W p l e R s m args below meth c H locs cells slots Q (F0 m pc ls (.int k :: .int n :: rest)) := by
  subst hN
  subst hM
  intro T hT Xs
  obtain ⟨vm₁, cA, comp, -, fA, fC, hO, -, X', step⟩ := Xs.multianewarray2F hexec hown hclink (va_AOA.use hover) harr (g := F0 m pc ls (.int k :: .int n :: rest)) rfl (by rw [hb]; exact hdg) rfl hn hk hb1 hb2 hb3 hdf hdd hcells hslots
  have ec : some cy = some comp := hcy.symm.trans fC
  cases ec
  generalize hF : Jvm.Free.Multi.fill (T.setVm vm₁) cA cy n.toNatClampNeg k.toNatClampNeg (defaultValue ty) n.toNatClampNeg = F at X' step
  have hTh : (T.setVm vm₁).heap = H := hT
  obtain ⟨f1, f2, -, -⟩ := Jvm.Free.Multi.fill_facts (T.setVm vm₁) cA cy n.toNatClampNeg k.toNatClampNeg (defaultValue ty) n.toNatClampNeg
  rw [hF, hTh] at f1 f2
  have hold : ∀ x : Nat, x < H.size → F.heap[x]? = H[x]? := fun x hx => by
    have := Jvm.Free.Multi.fill_old (T.setVm vm₁) cA cy n.toNatClampNeg k.toNatClampNeg (defaultValue ty) (a := x) (by rw [hTh]; exact hx) n.toNatClampNeg
    rw [hF, hTh] at this
    exact this
  have hrow : ∀ j : Nat, j < n.toNatClampNeg → F.heap[H.size + 1 + j]? = some (vp_cell cy z) := fun j hj => by
    have := Jvm.Free.Multi.fill_inner (T.setVm vm₁) cA cy n.toNatClampNeg k.toNatClampNeg (defaultValue ty) n.toNatClampNeg j hj
    rw [hF, hTh, hz] at this
    exact this
  have hout : Jvm.Free.Multi.outerC cA n.toNatClampNeg H.size n.toNatClampNeg = vp_cell cA (n.toNatClampNeg, .inr (.inr (.inr (.inr (fun i => if i < n.toNatClampNeg then some (H.size + 1 + i) else none))))) := by
    rw [vp_cell_q]
    exact vr_outer cA n.toNatClampNeg H.size n.toNatClampNeg
  rw [hout] at f2
  have hlt : ∀ a, a ∈ L → a < H.size := fun a ha => by
    obtain ⟨k9, hk9⟩ := va_pl_get (X := X) (f := f) ha
    exact (hP k9 _ hk9).lt
  have hnl : ∀ i : Nat, i < n.toNatClampNeg → H.size + 1 + i ∉ L := fun i _ h => by
    have := hlt _ h
    omega
  have hnm : ∀ a, a ∈ (List.range n.toNatClampNeg).map (fun i => H.size + 1 + i) → a ∉ L := fun a ha h => by
    obtain ⟨i, -, rfl⟩ := List.mem_map.mp ha
    have := hlt _ h
    omega
  have hP0 : va_P D cl (X ++ va_pl L f) F.heap := hP.kept (fun k9 x hx => hold x.1 ((hP k9 x hx).lt))
  have hP1 : va_P D cl ((X ++ va_pl L f) ++ [(H.size, .inl (cA, n.toNatClampNeg, .inr (.inr (.inr (.inr (fun i => if i < n.toNatClampNeg then some (H.size + 1 + i) else none))))))]) F.heap := hP0.app (fun k9 x hx => by
    have h0 : k9 < 1 := (List.getElem?_eq_some_iff.mp hx).1
    rw [show k9 = 0 by omega] at hx
    cases hx
    exact f2)
  have hP2 : va_P D cl (((X ++ va_pl L f) ++ [(H.size, .inl (cA, n.toNatClampNeg, .inr (.inr (.inr (.inr (fun i => if i < n.toNatClampNeg then some (H.size + 1 + i) else none))))))]) ++ ((List.range n.toNatClampNeg).map (fun i => H.size + 1 + i)).map (fun a => (a, .inl (cy, z)))) F.heap := hP1.app (fun k9 x hx => by
    obtain ⟨a, ha, rfl⟩ := List.mem_map.mp (List.mem_of_getElem? hx)
    obtain ⟨i, hi, rfl⟩ := List.mem_map.mp ha
    exact hrow i (List.mem_range.mp hi))
  have hD2 : va_D A (((X ++ va_pl L f) ++ [(H.size, .inl (cA, n.toNatClampNeg, .inr (.inr (.inr (.inr (fun i => if i < n.toNatClampNeg then some (H.size + 1 + i) else none))))))]) ++ ((List.range n.toNatClampNeg).map (fun i => H.size + 1 + i)).map (fun a => (a, .inl (cy, z)))) := by
    have hD1 := hD.push (e := .inl (cA, n.toNatClampNeg, .inr (.inr (.inr (.inr (fun i => if i < n.toNatClampNeg then some (H.size + 1 + i) else none)))))) hP rfl (hA _ hS.1)
    generalize hW1 : (X ++ va_pl L f) ++ [(H.size, .inl (cA, n.toNatClampNeg, .inr (.inr (.inr (.inr (fun i => if i < n.toNatClampNeg then some (H.size + 1 + i) else none))))))] = W1 at hD1 hP1 ⊢
    have hle : ∀ (k9 : Nat) (x : Nat × va_E), W1[k9]? = some x → x.1 ≤ H.size := fun k9 x hx => by
      rw [← hW1] at hx
      by_cases hl : k9 < (X ++ va_pl L f).length
      · rw [List.getElem?_append_left hl] at hx
        exact Nat.le_of_lt ((hP k9 x hx).lt)
      · rw [List.getElem?_append_right (by omega)] at hx
        have h0 : k9 - (X ++ va_pl L f).length < 1 := (List.getElem?_eq_some_iff.mp hx).1
        rw [show k9 - (X ++ va_pl L f).length = 0 by omega] at hx
        cases hx
        exact Nat.le_refl _
    have hr : ∀ (k9 : Nat) (x : Nat × va_E), (((List.range n.toNatClampNeg).map (fun i => H.size + 1 + i)).map (fun a => ((a, .inl (cy, z)) : Nat × va_E)))[k9]? = some x → x.1 = H.size + 1 + k9 := fun k9 x hx => by
      rw [List.getElem?_map, List.getElem?_map] at hx
      by_cases h9 : k9 < n.toNatClampNeg
      · rw [List.getElem?_range h9] at hx
        cases hx
        rfl
      · have hn0 : (List.range n.toNatClampNeg)[k9]? = none := List.getElem?_eq_none (by rw [List.length_range]; omega)
        rw [hn0] at hx
        cases hx
    refine ⟨fun i j x y hi hj hxy => ?_, fun k9 x hx => ?_⟩
    · by_cases h1 : i < W1.length <;> by_cases h2 : j < W1.length
      · rw [List.getElem?_append_left h1] at hi
        rw [List.getElem?_append_left h2] at hj
        exact hD1.1 i j x y hi hj hxy
      · rw [List.getElem?_append_left h1] at hi
        rw [List.getElem?_append_right (by omega)] at hj
        have := hle _ _ hi
        have := hr _ _ hj
        omega
      · rw [List.getElem?_append_right (by omega)] at hi
        rw [List.getElem?_append_left h2] at hj
        have := hle _ _ hj
        have := hr _ _ hi
        omega
      · rw [List.getElem?_append_right (by omega)] at hi hj
        have := hr _ _ hi
        have := hr _ _ hj
        omega
    · by_cases h1 : k9 < W1.length
      · rw [List.getElem?_append_left h1] at hx
        exact hD1.2 k9 x hx
      · rw [List.getElem?_append_right (by omega)] at hx
        have := hr _ _ hx
        exact hA _ (by have := hS.1; omega)
  have hAr : ArrOfT s cA (.array ty) := fun N9 z9 => by
    obtain ⟨-, k9, hk9, cm9, hkk9⟩ := (hO 0 0 0).1
    exact ⟨(fun q hq => by cases hq), k9, hk9, cm9, hkk9⟩
  have hK2 : va_K D cl (tys ++ [(cA, .array ty)]) s := ⟨hK.1, fun k9 x hx => by
    by_cases hl : k9 < tys.length
    · rw [List.getElem?_append_left hl] at hx
      exact hK.2 k9 x hx
    · rw [List.getElem?_append_right (by omega)] at hx
      have h0 : k9 - tys.length < 1 := (List.getElem?_eq_some_iff.mp hx).1
      rw [show k9 - tys.length = 0 by omega] at hx
      cases hx
      exact ⟨hAr, fA⟩⟩
  obtain ⟨t, a1, b1⟩ := kk H.size (fun i => H.size + 1 + i) cA F.heap (fun i j _ _ h => by have h9 : H.size + 1 + i = H.size + 1 + j := h; omega) hnl hK2 (by rw [← vr_rows hnm]; exact vr_lay hP2) (by rw [← vr_rows hnm]; exact vr_layD hD2) ⟨by rw [f1]; have := hS.1; omega, fun x h1 h2 => (hold x (Nat.lt_of_lt_of_le h1 hS.1)).trans (hS.2.1 x h1 h2), hS.2.2⟩ F rfl X'
  refine ⟨t, step t ?_, b1⟩
  have e : T.heap.size = H.size := by rw [hT]
  rw [e]
  exact a1
end VGM
def RX0 : String := "WholePacks$Cuts"
def TX0 : u_T := fun k => match k with
  | 0 => ("WholePacks$Cuts", "number", "I", false)
  | 1 => ("WholePacks$Cuts", "divisors", "[J", true)
  | 2 => ("WholePacks$Cuts", "forms", "[J", true)
  | _ => ("WholePacks$Cuts", "weights", "[J", true)
def tyX0 : Nat → FieldType := fun k => match k with
  | 0 => .int
  | 1 => .array .long
  | 2 => .array .long
  | _ => .array .long
abbrev wsX00 : List Cond := u_ws RX0 TX0 4
theorem nmX0 : ∀ a, a < 4 → ∀ b, b < 4 → a ≠ b → (TX0 a).2.1 ≠ (TX0 b).2.1 := by decide +kernel
theorem tyX0_ok : ∀ k, k < 4 → parseFieldDescriptor (TX0 k).2.2.1 = some (tyX0 k) := by decide +kernel
abbrev cX0_init : ByteArray := prog_2_method_1_code
def yX0_init : MethodName := ⟨RX0, "<init>", "()V"⟩
abbrev cX0_clear : ByteArray := prog_2_method_2_code
def yX0_clear : MethodName := ⟨RX0, "clear", "()V"⟩
abbrev cX0_formOf : ByteArray := prog_2_method_3_code
def yX0_formOf : MethodName := ⟨RX0, "formOf", "(II)J"⟩
abbrev cX0_make : ByteArray := prog_2_method_5_code
def yX0_make : MethodName := ⟨RX0, "make", "(LWholePacks$Table;ILWholePacks$Packs;)Z"⟩
abbrev cX0_tellIn : ByteArray := prog_2_method_6_code
def yX0_tellIn : MethodName := ⟨RX0, "tellIn", "(LWholePacks$Table;ILWholePacks$Packs;I)J"⟩
def RX1 : String := "WholePacks$Packs"
def TX1 : u_T := fun k => match k with
  | 0 => ("WholePacks$Packs", "number", "I", false)
  | 1 => ("WholePacks$Packs", "rules", "I", false)
  | 2 => ("WholePacks$Packs", "costs", "[I", true)
  | 3 => ("WholePacks$Packs", "sorts", "[I", true)
  | 4 => ("WholePacks$Packs", "bounds", "[I", true)
  | _ => ("WholePacks$Packs", "factors", "[I", true)
def tyX1 : Nat → FieldType := fun k => match k with
  | 0 => .int
  | 1 => .int
  | 2 => .array .int
  | 3 => .array .int
  | 4 => .array .int
  | _ => .array .int
abbrev wsX10 : List Cond := u_ws RX1 TX1 6
theorem nmX1 : ∀ a, a < 6 → ∀ b, b < 6 → a ≠ b → (TX1 a).2.1 ≠ (TX1 b).2.1 := by decide +kernel
theorem tyX1_ok : ∀ k, k < 6 → parseFieldDescriptor (TX1 k).2.2.1 = some (tyX1 k) := by decide +kernel
abbrev cX1_init : ByteArray := prog_3_method_1_code
def yX1_init : MethodName := ⟨RX1, "<init>", "()V"⟩
abbrev cX1_become : ByteArray := prog_3_method_2_code
def yX1_become : MethodName := ⟨RX1, "become", "(LWholePacks$Packs;)V"⟩
abbrev cX1_startAgain : ByteArray := prog_3_method_3_code
def yX1_startAgain : MethodName := ⟨RX1, "startAgain", "(I)V"⟩
abbrev cX1_addRule : ByteArray := prog_3_method_4_code
def yX1_addRule : MethodName := ⟨RX1, "addRule", "(II)V"⟩
abbrev cX1_factorOf : ByteArray := prog_3_method_5_code
def yX1_factorOf : MethodName := ⟨RX1, "factorOf", "(II)I"⟩
abbrev cX1_setFactor : ByteArray := prog_3_method_6_code
def yX1_setFactor : MethodName := ⟨RX1, "setFactor", "(III)V"⟩
abbrev cX1_formOf : ByteArray := prog_3_method_7_code
def yX1_formOf : MethodName := ⟨RX1, "formOf", "(II)I"⟩
abbrev cX1_costOf : ByteArray := prog_3_method_8_code
def yX1_costOf : MethodName := ⟨RX1, "costOf", "(I)I"⟩
abbrev cX1_digitOf : ByteArray := prog_3_method_10_code
def yX1_digitOf : MethodName := ⟨RX1, "digitOf", "(II)I"⟩
abbrev cX1_change : ByteArray := prog_3_method_11_code
def yX1_change : MethodName := ⟨RX1, "change", "(III)V"⟩
abbrev cX1_drawRules : ByteArray := prog_3_method_12_code
def yX1_drawRules : MethodName := ⟨RX1, "drawRules", "(II)V"⟩
abbrev cX1_stirred : ByteArray := prog_3_method_13_code
def yX1_stirred : MethodName := ⟨RX1, "stirred", "(I)I"⟩
def RX2 : String := "WholePacks$Shelf"
def TX2 : u_T := fun k => match k with
  | 0 => ("WholePacks$Shelf", "number", "I", false)
  | 1 => ("WholePacks$Shelf", "codes", "[I", true)
  | 2 => ("WholePacks$Shelf", "costs", "[I", true)
  | _ => ("WholePacks$Shelf", "asks", "[I", true)
def tyX2 : Nat → FieldType := fun k => match k with
  | 0 => .int
  | 1 => .array .int
  | 2 => .array .int
  | _ => .array .int
abbrev wsX20 : List Cond := u_ws RX2 TX2 4
theorem nmX2 : ∀ a, a < 4 → ∀ b, b < 4 → a ≠ b → (TX2 a).2.1 ≠ (TX2 b).2.1 := by decide +kernel
theorem tyX2_ok : ∀ k, k < 4 → parseFieldDescriptor (TX2 k).2.2.1 = some (tyX2 k) := by decide +kernel
abbrev cX2_init : ByteArray := prog_4_method_1_code
def yX2_init : MethodName := ⟨RX2, "<init>", "()V"⟩
abbrev cX2_become : ByteArray := prog_4_method_2_code
def yX2_become : MethodName := ⟨RX2, "become", "(LWholePacks$Shelf;)V"⟩
abbrev cX2_clear : ByteArray := prog_4_method_3_code
def yX2_clear : MethodName := ⟨RX2, "clear", "()V"⟩
abbrev cX2_placeOf : ByteArray := prog_4_method_4_code
def yX2_placeOf : MethodName := ⟨RX2, "placeOf", "(I)I"⟩
abbrev cX2_gainOf : ByteArray := prog_4_method_5_code
def yX2_gainOf : MethodName := ⟨RX2, "gainOf", "(I)I"⟩
abbrev cX2_insert : ByteArray := prog_4_method_6_code
def yX2_insert : MethodName := ⟨RX2, "insert", "(III)V"⟩
abbrev cX2_isAhead : ByteArray := prog_4_method_8_code
def yX2_isAhead : MethodName := ⟨RX2, "isAhead", "(III)Z"⟩
def RX3 : String := "WholePacks$Solution"
def TX3 : u_T := fun k => match k with
  | 0 => ("WholePacks$Solution", "table", "LWholePacks$Table;", true)
  | 1 => ("WholePacks$Solution", "cuts", "LWholePacks$Cuts;", true)
  | _ => ("WholePacks$Solution", "state", "I", false)
def tyX3 : Nat → FieldType := fun k => match k with
  | 0 => .object "WholePacks$Table"
  | 1 => .object "WholePacks$Cuts"
  | _ => .int
abbrev wsX30 : List Cond := u_ws RX3 TX3 3
theorem nmX3 : ∀ a, a < 3 → ∀ b, b < 3 → a ≠ b → (TX3 a).2.1 ≠ (TX3 b).2.1 := by decide +kernel
theorem tyX3_ok : ∀ k, k < 3 → parseFieldDescriptor (TX3 k).2.2.1 = some (tyX3 k) := by decide +kernel
abbrev cX3_init : ByteArray := prog_5_method_1_code
def yX3_init : MethodName := ⟨RX3, "<init>", "()V"⟩
abbrev cX3_work : ByteArray := prog_5_method_2_code
def yX3_work : MethodName := ⟨RX3, "work", "(LWholePacks$Packs;I)I"⟩
abbrev cX3_worthOf : ByteArray := prog_5_method_3_code
def yX3_worthOf : MethodName := ⟨RX3, "worthOf", "(LWholePacks$Packs;)I"⟩
def RX4 : String := "WholePacks$State"
def TX4 : u_T := fun k => match k with
  | 0 => ("WholePacks$State", "packs", "LWholePacks$Packs;", true)
  | 1 => ("WholePacks$State", "offers", "LWholePacks$Shelf;", true)
  | 2 => ("WholePacks$State", "hands", "[I", true)
  | 3 => ("WholePacks$State", "by", "I", false)
  | 4 => ("WholePacks$State", "box", "I", false)
  | 5 => ("WholePacks$State", "seen", "I", false)
  | 6 => ("WholePacks$State", "seenPacks", "[I", true)
  | 7 => ("WholePacks$State", "seenMany", "[I", true)
  | 8 => ("WholePacks$State", "planned", "I", false)
  | 9 => ("WholePacks$State", "planWhats", "[I", true)
  | 10 => ("WholePacks$State", "planPlaces", "[I", true)
  | _ => ("WholePacks$State", "planValues", "[I", true)
def tyX4 : Nat → FieldType := fun k => match k with
  | 0 => .object "WholePacks$Packs"
  | 1 => .object "WholePacks$Shelf"
  | 2 => .array .int
  | 3 => .int
  | 4 => .int
  | 5 => .int
  | 6 => .array .int
  | 7 => .array .int
  | 8 => .int
  | 9 => .array .int
  | 10 => .array .int
  | _ => .array .int
abbrev wsX40 : List Cond := u_ws RX4 TX4 12
theorem nmX4 : ∀ a, a < 12 → ∀ b, b < 12 → a ≠ b → (TX4 a).2.1 ≠ (TX4 b).2.1 := by decide +kernel
theorem tyX4_ok : ∀ k, k < 12 → parseFieldDescriptor (TX4 k).2.2.1 = some (tyX4 k) := by decide +kernel
abbrev cX4_init : ByteArray := prog_6_method_1_code
def yX4_init : MethodName := ⟨RX4, "<init>", "()V"⟩
abbrev cX4_become : ByteArray := prog_6_method_2_code
def yX4_become : MethodName := ⟨RX4, "become", "(LWholePacks$State;)V"⟩
abbrev cX4_startAgain : ByteArray := prog_6_method_3_code
def yX4_startAgain : MethodName := ⟨RX4, "startAgain", "(I)V"⟩
abbrev cX4_addSeen : ByteArray := prog_6_method_4_code
def yX4_addSeen : MethodName := ⟨RX4, "addSeen", "(II)V"⟩
abbrev cX4_addPlan : ByteArray := prog_6_method_5_code
def yX4_addPlan : MethodName := ⟨RX4, "addPlan", "(III)V"⟩
def RX5 : String := "WholePacks$Table"
def TX5 : u_T := fun k => match k with
  | 0 => ("WholePacks$Table", "rows", "I", false)
  | 1 => ("WholePacks$Table", "columns", "I", false)
  | 2 => ("WholePacks$Table", "pivots", "I", false)
  | 3 => ("WholePacks$Table", "base", "J", false)
  | 4 => ("WholePacks$Table", "divisor", "J", false)
  | 5 => ("WholePacks$Table", "rowOwners", "[I", true)
  | 6 => ("WholePacks$Table", "columnOwners", "[I", true)
  | 7 => ("WholePacks$Table", "entries", "[J", true)
  | 8 => ("WholePacks$Table", "rights", "[J", true)
  | 9 => ("WholePacks$Table", "rises", "[J", true)
  | 10 => ("WholePacks$Table", "freshEntries", "[J", true)
  | 11 => ("WholePacks$Table", "freshRights", "[J", true)
  | _ => ("WholePacks$Table", "freshRises", "[J", true)
def tyX5 : Nat → FieldType := fun k => match k with
  | 0 => .int
  | 1 => .int
  | 2 => .int
  | 3 => .long
  | 4 => .long
  | 5 => .array .int
  | 6 => .array .int
  | 7 => .array .long
  | 8 => .array .long
  | 9 => .array .long
  | 10 => .array .long
  | 11 => .array .long
  | _ => .array .long
abbrev wsX50 : List Cond := u_ws RX5 TX5 13
theorem nmX5 : ∀ a, a < 13 → ∀ b, b < 13 → a ≠ b → (TX5 a).2.1 ≠ (TX5 b).2.1 := by decide +kernel
theorem tyX5_ok : ∀ k, k < 13 → parseFieldDescriptor (TX5 k).2.2.1 = some (tyX5 k) := by decide +kernel
abbrev cX5_init : ByteArray := prog_7_method_1_code
def yX5_init : MethodName := ⟨RX5, "<init>", "()V"⟩
abbrev cX5_start : ByteArray := prog_7_method_2_code
def yX5_start : MethodName := ⟨RX5, "start", "(LWholePacks$Packs;)V"⟩
abbrev cX5_addRow : ByteArray := prog_7_method_3_code
def yX5_addRow : MethodName := ⟨RX5, "addRow", "(IJ)I"⟩
abbrev cX5_addCut : ByteArray := prog_7_method_6_code
def yX5_addCut : MethodName := ⟨RX5, "addCut", "(II)V"⟩
abbrev cX5_restOf : ByteArray := prog_7_method_7_code
def yX5_restOf : MethodName := ⟨RX5, "restOf", "(J)J"⟩
abbrev cX5_wholeOf : ByteArray := prog_7_method_8_code
def yX5_wholeOf : MethodName := ⟨RX5, "wholeOf", "(J)J"⟩
abbrev cX5_repair : ByteArray := prog_7_method_9_code
def yX5_repair : MethodName := ⟨RX5, "repair", "()I"⟩
abbrev cX5_lowestRow : ByteArray := prog_7_method_10_code
def yX5_lowestRow : MethodName := ⟨RX5, "lowestRow", "()I"⟩
abbrev cX5_nearestColumn : ByteArray := prog_7_method_11_code
def yX5_nearestColumn : MethodName := ⟨RX5, "nearestColumn", "(I)I"⟩
abbrev cX5_isNearer : ByteArray := prog_7_method_12_code
def yX5_isNearer : MethodName := ⟨RX5, "isNearer", "(III)Z"⟩
abbrev cX5_pivot : ByteArray := prog_7_method_13_code
def yX5_pivot : MethodName := ⟨RX5, "pivot", "(II)Z"⟩
abbrev cX5_freshenRow : ByteArray := prog_7_method_14_code
def yX5_freshenRow : MethodName := ⟨RX5, "freshenRow", "(III)Z"⟩
abbrev cX5_mixed : ByteArray := prog_7_method_15_code
def yX5_mixed : MethodName := ⟨RX5, "mixed", "(JJJII)J"⟩
abbrev cX5_rowOf : ByteArray := prog_7_method_16_code
def yX5_rowOf : MethodName := ⟨RX5, "rowOf", "(I)I"⟩
abbrev cX5_rightOf : ByteArray := prog_7_method_17_code
def yX5_rightOf : MethodName := ⟨RX5, "rightOf", "(I)J"⟩
abbrev cX5_floorOf : ByteArray := prog_7_method_18_code
def yX5_floorOf : MethodName := ⟨RX5, "floorOf", "(I)J"⟩
abbrev cX5_partedRow : ByteArray := prog_7_method_20_code
def yX5_partedRow : MethodName := ⟨RX5, "partedRow", "()I"⟩
def RX6 : String := "WholePacks$Tapes"
def TX6 : u_T := fun k => match k with
  | 0 => ("WholePacks$Tapes", "sorts", "[I", true)
  | 1 => ("WholePacks$Tapes", "lengths", "[I", true)
  | _ => ("WholePacks$Tapes", "cells", "[[J", true)
def tyX6 : Nat → FieldType := fun k => match k with
  | 0 => .array .int
  | 1 => .array .int
  | _ => .array (.array .long)
abbrev wsX60 : List Cond := u_ws RX6 TX6 3
theorem nmX6 : ∀ a, a < 3 → ∀ b, b < 3 → a ≠ b → (TX6 a).2.1 ≠ (TX6 b).2.1 := by decide +kernel
theorem tyX6_ok : ∀ k, k < 3 → parseFieldDescriptor (TX6 k).2.2.1 = some (tyX6 k) := by decide +kernel
abbrev cX6_init : ByteArray := prog_8_method_1_code
def yX6_init : MethodName := ⟨RX6, "<init>", "()V"⟩
abbrev cX6_lay : ByteArray := prog_8_method_2_code
def yX6_lay : MethodName := ⟨RX6, "lay", "(III)V"⟩
abbrev cX6_trimmed : ByteArray := prog_8_method_3_code
def yX6_trimmed : MethodName := ⟨RX6, "trimmed", "(IJ)J"⟩
def RX7 : String := "WholePacks$Text"
def TX7 : u_T := fun k => match k with
  | 0 => ("WholePacks$Text", "length", "I", false)
  | 1 => ("WholePacks$Text", "clauses", "I", false)
  | 2 => ("WholePacks$Text", "signs", "[B", true)
  | 3 => ("WholePacks$Text", "place", "I", false)
  | 4 => ("WholePacks$Text", "letters", "I", false)
  | 5 => ("WholePacks$Text", "sorts", "[I", true)
  | 6 => ("WholePacks$Text", "bounds", "[I", true)
  | _ => ("WholePacks$Text", "factors", "[I", true)
def tyX7 : Nat → FieldType := fun k => match k with
  | 0 => .int
  | 1 => .int
  | 2 => .array .byte
  | 3 => .int
  | 4 => .int
  | 5 => .array .int
  | 6 => .array .int
  | _ => .array .int
abbrev wsX70 : List Cond := u_ws RX7 TX7 8
theorem nmX7 : ∀ a, a < 8 → ∀ b, b < 8 → a ≠ b → (TX7 a).2.1 ≠ (TX7 b).2.1 := by decide +kernel
theorem tyX7_ok : ∀ k, k < 8 → parseFieldDescriptor (TX7 k).2.2.1 = some (tyX7 k) := by decide +kernel
abbrev cX7_init : ByteArray := prog_9_method_1_code
def yX7_init : MethodName := ⟨RX7, "<init>", "()V"⟩
abbrev cX7_findFault : ByteArray := prog_9_method_2_code
def yX7_findFault : MethodName := ⟨RX7, "findFault", "(I)I"⟩
abbrev cX7_addRulesTo : ByteArray := prog_9_method_3_code
def yX7_addRulesTo : MethodName := ⟨RX7, "addRulesTo", "(LWholePacks$Packs;)V"⟩
abbrev cX7_here : ByteArray := prog_9_method_4_code
def yX7_here : MethodName := ⟨RX7, "here", "()I"⟩
abbrev cX7_skip : ByteArray := prog_9_method_5_code
def yX7_skip : MethodName := ⟨RX7, "skip", "(C)Z"⟩
abbrev cX7_atDigit : ByteArray := prog_9_method_6_code
def yX7_atDigit : MethodName := ⟨RX7, "atDigit", "()Z"⟩
abbrev cX7_readClause : ByteArray := prog_9_method_7_code
def yX7_readClause : MethodName := ⟨RX7, "readClause", "()Z"⟩
abbrev cX7_readTerm : ByteArray := prog_9_method_8_code
def yX7_readTerm : MethodName := ⟨RX7, "readTerm", "(Z)Z"⟩
abbrev cX7_readBound : ByteArray := prog_9_method_9_code
def yX7_readBound : MethodName := ⟨RX7, "readBound", "(Z)Z"⟩
def RX8 : String := "WholePacks$Tree"
def TX8 : u_T := fun k => match k with
  | 0 => ("WholePacks$Tree", "nodes", "I", false)
  | 1 => ("WholePacks$Tree", "pivots", "I", false)
  | 2 => ("WholePacks$Tree", "depths", "[I", true)
  | 3 => ("WholePacks$Tree", "floors", "[J", true)
  | 4 => ("WholePacks$Tree", "table", "LWholePacks$Table;", true)
  | 5 => ("WholePacks$Tree", "leasts", "[J", true)
  | 6 => ("WholePacks$Tree", "mosts", "[J", true)
  | 7 => ("WholePacks$Tree", "bases", "[J", true)
  | 8 => ("WholePacks$Tree", "divisors", "[J", true)
  | 9 => ("WholePacks$Tree", "parted", "[I", true)
  | _ => ("WholePacks$Tree", "waits", "[Z", true)
def tyX8 : Nat → FieldType := fun k => match k with
  | 0 => .int
  | 1 => .int
  | 2 => .array .int
  | 3 => .array .long
  | 4 => .object "WholePacks$Table"
  | 5 => .array .long
  | 6 => .array .long
  | 7 => .array .long
  | 8 => .array .long
  | 9 => .array .int
  | _ => .array .boolean
abbrev wsX80 : List Cond := u_ws RX8 TX8 11
theorem nmX8 : ∀ a, a < 11 → ∀ b, b < 11 → a ≠ b → (TX8 a).2.1 ≠ (TX8 b).2.1 := by decide +kernel
theorem tyX8_ok : ∀ k, k < 11 → parseFieldDescriptor (TX8 k).2.2.1 = some (tyX8 k) := by decide +kernel
abbrev cX8_init : ByteArray := prog_10_method_1_code
def yX8_init : MethodName := ⟨RX8, "<init>", "()V"⟩
def RX9 : String := "WholePacks$Walk"
def TX9 : u_T := fun k => match k with
  | 0 => ("WholePacks$Walk", "mixes", "I", false)
  | 1 => ("WholePacks$Walk", "code", "I", false)
  | 2 => ("WholePacks$Walk", "cost", "I", false)
  | 3 => ("WholePacks$Walk", "box", "I", false)
  | 4 => ("WholePacks$Walk", "packs", "LWholePacks$Packs;", true)
  | 5 => ("WholePacks$Walk", "digits", "[I", true)
  | _ => ("WholePacks$Walk", "lefts", "[I", true)
def tyX9 : Nat → FieldType := fun k => match k with
  | 0 => .int
  | 1 => .int
  | 2 => .int
  | 3 => .int
  | 4 => .object "WholePacks$Packs"
  | 5 => .array .int
  | _ => .array .int
abbrev wsX90 : List Cond := u_ws RX9 TX9 7
theorem nmX9 : ∀ a, a < 7 → ∀ b, b < 7 → a ≠ b → (TX9 a).2.1 ≠ (TX9 b).2.1 := by decide +kernel
theorem tyX9_ok : ∀ k, k < 7 → parseFieldDescriptor (TX9 k).2.2.1 = some (tyX9 k) := by decide +kernel
abbrev cX9_init : ByteArray := prog_11_method_1_code
def yX9_init : MethodName := ⟨RX9, "<init>", "()V"⟩
def RX10 : String := "WholePacks"
def TX10 : u_T := fun k => match k with
  | 0 => ("WholePacks", "now", "LWholePacks$State;", true)
  | 1 => ("WholePacks", "kept", "LWholePacks$State;", true)
  | 2 => ("WholePacks", "thought", "LWholePacks$Packs;", true)
  | 3 => ("WholePacks", "solved", "LWholePacks$Solution;", true)
  | 4 => ("WholePacks", "trial", "LWholePacks$Solution;", true)
  | 5 => ("WholePacks", "tree", "LWholePacks$Tree;", true)
  | 6 => ("WholePacks", "walk", "LWholePacks$Walk;", true)
  | 7 => ("WholePacks", "cheapest", "LWholePacks$Shelf;", true)
  | 8 => ("WholePacks", "text", "LWholePacks$Text;", true)
  | 9 => ("WholePacks", "tapes", "LWholePacks$Tapes;", true)
  | 10 => ("WholePacks", "asked", "[J", true)
  | 11 => ("WholePacks", "tabled", "Z", false)
  | _ => ("WholePacks", "imaged", "Z", false)
def tyX10 : Nat → FieldType := fun k => match k with
  | 0 => .object "WholePacks$State"
  | 1 => .object "WholePacks$State"
  | 2 => .object "WholePacks$Packs"
  | 3 => .object "WholePacks$Solution"
  | 4 => .object "WholePacks$Solution"
  | 5 => .object "WholePacks$Tree"
  | 6 => .object "WholePacks$Walk"
  | 7 => .object "WholePacks$Shelf"
  | 8 => .object "WholePacks$Text"
  | 9 => .object "WholePacks$Tapes"
  | 10 => .array .long
  | 11 => .boolean
  | _ => .boolean
abbrev wsX100 : List Cond := u_ws RX10 TX10 13
theorem nmX10 : ∀ a, a < 13 → ∀ b, b < 13 → a ≠ b → (TX10 a).2.1 ≠ (TX10 b).2.1 := by decide +kernel
theorem tyX10_ok : ∀ k, k < 13 → parseFieldDescriptor (TX10 k).2.2.1 = some (tyX10 k) := by decide +kernel
abbrev cX10_init : ByteArray := prog_1_method_1_code
def yX10_init : MethodName := ⟨RX10, "<init>", "()V"⟩
abbrev cX10_size : ByteArray := prog_1_method_2_code
def yX10_size : MethodName := ⟨RX10, "size", "(I)I"⟩
abbrev cX10_cost : ByteArray := prog_1_method_3_code
def yX10_cost : MethodName := ⟨RX10, "cost", "(II)I"⟩
abbrev cX10_factor : ByteArray := prog_1_method_5_code
def yX10_factor : MethodName := ⟨RX10, "factor", "(III)I"⟩
abbrev cX10_bound : ByteArray := prog_1_method_6_code
def yX10_bound : MethodName := ⟨RX10, "bound", "(II)I"⟩
abbrev cX10_less : ByteArray := prog_1_method_7_code
def yX10_less : MethodName := ⟨RX10, "less", "()I"⟩
abbrev cX10_feed : ByteArray := prog_1_method_8_code
def yX10_feed : MethodName := ⟨RX10, "feed", "(I)I"⟩
abbrev cX10_read : ByteArray := prog_1_method_9_code
def yX10_read : MethodName := ⟨RX10, "read", "()I"⟩
abbrev cX10_ruleOf : ByteArray := prog_1_method_10_code
def yX10_ruleOf : MethodName := ⟨RX10, "ruleOf", "(II)I"⟩
abbrev cX10_solve : ByteArray := prog_1_method_11_code
def yX10_solve : MethodName := ⟨RX10, "solve", "(I)I"⟩
abbrev cX10_amount : ByteArray := prog_1_method_13_code
def yX10_amount : MethodName := ⟨RX10, "amount", "(II)J"⟩
abbrev cX10_would : ByteArray := prog_1_method_29_code
def yX10_would : MethodName := ⟨RX10, "would", "(II)I"⟩
abbrev cX10_see : ByteArray := prog_1_method_30_code
def yX10_see : MethodName := ⟨RX10, "see", "(II)I"⟩
abbrev cX10_fits : ByteArray := prog_1_method_31_code
def yX10_fits : MethodName := ⟨RX10, "fits", "(II)I"⟩
abbrev cX10_mean : ByteArray := prog_1_method_33_code
def yX10_mean : MethodName := ⟨RX10, "mean", "(I)J"⟩
abbrev cX10_drawn : ByteArray := prog_1_method_34_code
def yX10_drawn : MethodName := ⟨RX10, "drawn", "(II)I"⟩
abbrev cX10_offer : ByteArray := prog_1_method_35_code
def yX10_offer : MethodName := ⟨RX10, "offer", "(II)I"⟩
abbrev cX10_offered : ByteArray := prog_1_method_36_code
def yX10_offered : MethodName := ⟨RX10, "offered", "(II)I"⟩
abbrev cX10_upTo : ByteArray := prog_1_method_37_code
def yX10_upTo : MethodName := ⟨RX10, "upTo", "(I)I"⟩
abbrev cX10_dearest : ByteArray := prog_1_method_38_code
def yX10_dearest : MethodName := ⟨RX10, "dearest", "()I"⟩
abbrev cX10_plan : ByteArray := prog_1_method_39_code
def yX10_plan : MethodName := ⟨RX10, "plan", "(III)I"⟩
abbrev cX10_ends : ByteArray := prog_1_method_40_code
def yX10_ends : MethodName := ⟨RX10, "ends", "()I"⟩
abbrev cX10_image : ByteArray := prog_1_method_42_code
def yX10_image : MethodName := ⟨RX10, "image", "()I"⟩
abbrev cX10_undo : ByteArray := prog_1_method_43_code
def yX10_undo : MethodName := ⟨RX10, "undo", "()I"⟩
abbrev cX10_count : ByteArray := prog_1_method_44_code
def yX10_count : MethodName := ⟨RX10, "count", "(I)I"⟩
abbrev cX10_tape : ByteArray := prog_1_method_45_code
def yX10_tape : MethodName := ⟨RX10, "tape", "(III)I"⟩
abbrev cX10_item : ByteArray := prog_1_method_46_code
def yX10_item : MethodName := ⟨RX10, "item", "(IIJ)I"⟩
abbrev cX10_isPack : ByteArray := prog_1_method_49_code
def yX10_isPack : MethodName := ⟨RX10, "isPack", "(I)Z"⟩
abbrev cX10_isRule : ByteArray := prog_1_method_50_code
def yX10_isRule : MethodName := ⟨RX10, "isRule", "(I)Z"⟩
abbrev cX10_isCode : ByteArray := prog_1_method_52_code
def yX10_isCode : MethodName := ⟨RX10, "isCode", "(I)Z"⟩
abbrev cX10_isBound : ByteArray := prog_1_method_53_code
def yX10_isBound : MethodName := ⟨RX10, "isBound", "(I)Z"⟩
abbrev cX10_isFactor : ByteArray := prog_1_method_54_code
def yX10_isFactor : MethodName := ⟨RX10, "isFactor", "(I)Z"⟩
abbrev cX10_isPart : ByteArray := prog_1_method_55_code
def yX10_isPart : MethodName := ⟨RX10, "isPart", "(I)Z"⟩
abbrev cX10_isTape : ByteArray := prog_1_method_56_code
def yX10_isTape : MethodName := ⟨RX10, "isTape", "(I)Z"⟩
abbrev cX10_isPlanned : ByteArray := prog_1_method_57_code
def yX10_isPlanned : MethodName := ⟨RX10, "isPlanned", "(II)Z"⟩
abbrev cX10_isNear : ByteArray := prog_1_method_58_code
def yX10_isNear : MethodName := ⟨RX10, "isNear", "(J)Z"⟩
abbrev cX10_isSeenSo : ByteArray := prog_1_method_59_code
def yX10_isSeenSo : MethodName := ⟨RX10, "isSeenSo", "()Z"⟩
abbrev cX10_lowest : ByteArray := prog_1_method_60_code
def yX10_lowest : MethodName := ⟨RX10, "lowest", "(JJI)J"⟩
def RX11 : String := "WholePacksModel$Table"
def TX11 : u_T := fun k => match k with
  | _ => ("", "", "", false)
def tyX11 : Nat → FieldType := fun k => match k with
  | _ => .int
abbrev wsX110 : List Cond := u_ws RX11 TX11 0
theorem nmX11 : ∀ a, a < 0 → ∀ b, b < 0 → a ≠ b → (TX11 a).2.1 ≠ (TX11 b).2.1 := by decide +kernel
theorem tyX11_ok : ∀ k, k < 0 → parseFieldDescriptor (TX11 k).2.2.1 = some (tyX11 k) := by decide +kernel
def RX12 : String := "WholePacksModel"
def TX12 : u_T := fun k => match k with
  | _ => ("", "", "", false)
def tyX12 : Nat → FieldType := fun k => match k with
  | _ => .int
abbrev wsX120 : List Cond := u_ws RX12 TX12 0
theorem nmX12 : ∀ a, a < 0 → ∀ b, b < 0 → a ≠ b → (TX12 a).2.1 ≠ (TX12 b).2.1 := by decide +kernel
theorem tyX12_ok : ∀ k, k < 0 → parseFieldDescriptor (TX12 k).2.2.1 = some (tyX12 k) := by decide +kernel
def RJ5 : String := "java/lang/AbstractStringBuilder"
def TJ5 : u_T := fun k => match k with
  | _ => ("", "", "", false)
def tyJ5 : Nat → FieldType := fun k => match k with
  | _ => .int
abbrev wsJ50 : List Cond := u_ws RJ5 TJ5 0
theorem nmJ5 : ∀ a, a < 0 → ∀ b, b < 0 → a ≠ b → (TJ5 a).2.1 ≠ (TJ5 b).2.1 := by decide +kernel
theorem tyJ5_ok : ∀ k, k < 0 → parseFieldDescriptor (TJ5 k).2.2.1 = some (tyJ5 k) := by decide +kernel
abbrev cJ5_init_d00df : ByteArray := prog_15_method_2_code
def yJ5_init_d00df : MethodName := ⟨RJ5, "<init>", "(I)V"⟩
abbrev cJ5_length_8abf5 : ByteArray := prog_15_method_6_code
def yJ5_length_8abf5 : MethodName := ⟨RJ5, "length", "()I"⟩
abbrev cJ5_ensureCapacityInternal_d00df : ByteArray := prog_15_method_9_code
def yJ5_ensureCapacityInternal_d00df : MethodName := ⟨RJ5, "ensureCapacityInternal", "(I)V"⟩
abbrev cJ5_newCapacity_0f7a4 : ByteArray := prog_15_method_10_code
def yJ5_newCapacity_0f7a4 : MethodName := ⟨RJ5, "newCapacity", "(I)I"⟩
abbrev cJ5_inflate_da8c8 : ByteArray := prog_15_method_11_code
def yJ5_inflate_da8c8 : MethodName := ⟨RJ5, "inflate", "()V"⟩
abbrev cJ5_append_cf1ce : ByteArray := prog_15_method_22_code
def yJ5_append_cf1ce : MethodName := ⟨RJ5, "append", "(Ljava/lang/String;)Ljava/lang/AbstractStringBuilder;"⟩
abbrev cJ5_appendNull_278bc : ByteArray := prog_15_method_26_code
def yJ5_appendNull_278bc : MethodName := ⟨RJ5, "appendNull", "()Ljava/lang/AbstractStringBuilder;"⟩
abbrev cJ5_append_3fe6f : ByteArray := prog_15_method_31_code
def yJ5_append_3fe6f : MethodName := ⟨RJ5, "append", "(C)Ljava/lang/AbstractStringBuilder;"⟩
abbrev cJ5_append_c97b9 : ByteArray := prog_15_method_32_code
def yJ5_append_c97b9 : MethodName := ⟨RJ5, "append", "(I)Ljava/lang/AbstractStringBuilder;"⟩
abbrev cJ5_getValue_6d5f1 : ByteArray := prog_15_method_64_code
def yJ5_getValue_6d5f1 : MethodName := ⟨RJ5, "getValue", "()[B"⟩
abbrev cJ5_isLatin1_aae02 : ByteArray := prog_15_method_68_code
def yJ5_isLatin1_aae02 : MethodName := ⟨RJ5, "isLatin1", "()Z"⟩
abbrev cJ5_inflateIfNeededFor_a7421 : ByteArray := prog_15_method_71_code
def yJ5_inflateIfNeededFor_a7421 : MethodName := ⟨RJ5, "inflateIfNeededFor", "(Ljava/lang/String;)V"⟩
abbrev cJ5_putStringAt_47b60 : ByteArray := prog_15_method_73_code
def yJ5_putStringAt_47b60 : MethodName := ⟨RJ5, "putStringAt", "(ILjava/lang/String;)V"⟩
def RJ6 : String := "java/lang/Integer"
def TJ6 : u_T := fun k => match k with
  | _ => ("", "", "", false)
def tyJ6 : Nat → FieldType := fun k => match k with
  | _ => .int
abbrev wsJ60 : List Cond := u_ws RJ6 TJ6 0
theorem nmJ6 : ∀ a, a < 0 → ∀ b, b < 0 → a ≠ b → (TJ6 a).2.1 ≠ (TJ6 b).2.1 := by decide +kernel
theorem tyJ6_ok : ∀ k, k < 0 → parseFieldDescriptor (TJ6 k).2.2.1 = some (tyJ6 k) := by decide +kernel
abbrev cJ6_getChars_ba4f3 : ByteArray := prog_17_method_12_code
def yJ6_getChars_ba4f3 : MethodName := ⟨RJ6, "getChars", "(II[B)I"⟩
abbrev cJ6_stringSize_0f7a4 : ByteArray := prog_17_method_13_code
def yJ6_stringSize_0f7a4 : MethodName := ⟨RJ6, "stringSize", "(I)I"⟩
def RJ9 : String := "java/lang/Math"
def TJ9 : u_T := fun k => match k with
  | _ => ("", "", "", false)
def tyJ9 : Nat → FieldType := fun k => match k with
  | _ => .int
abbrev wsJ90 : List Cond := u_ws RJ9 TJ9 0
theorem nmJ9 : ∀ a, a < 0 → ∀ b, b < 0 → a ≠ b → (TJ9 a).2.1 ≠ (TJ9 b).2.1 := by decide +kernel
theorem tyJ9_ok : ∀ k, k < 0 → parseFieldDescriptor (TJ9 k).2.2.1 = some (tyJ9 k) := by decide +kernel
abbrev cJ9_floorDiv_f86c9 : ByteArray := prog_18_method_49_code
def yJ9_floorDiv_f86c9 : MethodName := ⟨RJ9, "floorDiv", "(JJ)J"⟩
abbrev cJ9_floorMod_f86c9 : ByteArray := prog_18_method_52_code
def yJ9_floorMod_f86c9 : MethodName := ⟨RJ9, "floorMod", "(JJ)J"⟩
abbrev cJ9_abs_067f4 : ByteArray := prog_18_method_61_code
def yJ9_abs_067f4 : MethodName := ⟨RJ9, "abs", "(J)J"⟩
abbrev cJ9_max_7cf53 : ByteArray := prog_18_method_65_code
def yJ9_max_7cf53 : MethodName := ⟨RJ9, "max", "(II)I"⟩
abbrev cJ9_min_7cf53 : ByteArray := prog_18_method_69_code
def yJ9_min_7cf53 : MethodName := ⟨RJ9, "min", "(II)I"⟩
def RJ0 : String := "java/lang/String"
def TJ0 : u_T := fun k => match k with
  | 0 => ("java/lang/String", "value", "[B", true)
  | 1 => ("java/lang/String", "coder", "B", true)
  | 2 => ("java/lang/String", "hash", "I", false)
  | _ => ("java/lang/String", "hashIsZero", "Z", false)
def tyJ0 : Nat → FieldType := fun k => match k with
  | 0 => .array .byte
  | 1 => .byte
  | 2 => .int
  | _ => .boolean
abbrev wsJ00 : List Cond := u_ws RJ0 TJ0 4
theorem nmJ0 : ∀ a, a < 4 → ∀ b, b < 4 → a ≠ b → (TJ0 a).2.1 ≠ (TJ0 b).2.1 := by decide +kernel
theorem tyJ0_ok : ∀ k, k < 4 → parseFieldDescriptor (TJ0 k).2.2.1 = some (tyJ0 k) := by decide +kernel
abbrev cJ0_init_81219 : ByteArray := prog_20_method_53_code
def yJ0_init_81219 : MethodName := ⟨RJ0, "<init>", "(Ljava/lang/StringBuilder;)V"⟩
abbrev cJ0_length_8abf5 : ByteArray := prog_20_method_54_code
def yJ0_length_8abf5 : MethodName := ⟨RJ0, "length", "()I"⟩
abbrev cJ0_charAt_5068e : ByteArray := prog_20_method_56_code
def yJ0_charAt_5068e : MethodName := ⟨RJ0, "charAt", "(I)C"⟩
abbrev cJ0_getBytes_840e7 : ByteArray := prog_20_method_147_code
def yJ0_getBytes_840e7 : MethodName := ⟨RJ0, "getBytes", "([BIB)V"⟩
abbrev cJ0_init_db425 : ByteArray := prog_20_method_150_code
def yJ0_init_db425 : MethodName := ⟨RJ0, "<init>", "(Ljava/lang/AbstractStringBuilder;Ljava/lang/Void;)V"⟩
abbrev cJ0_coder_7d493 : ByteArray := prog_20_method_152_code
def yJ0_coder_7d493 : MethodName := ⟨RJ0, "coder", "()B"⟩
abbrev cJ0_isLatin1_aae02 : ByteArray := prog_20_method_154_code
def yJ0_isLatin1_aae02 : MethodName := ⟨RJ0, "isLatin1", "()Z"⟩
abbrev cJ0_checkIndex_df160 : ByteArray := prog_20_method_155_code
def yJ0_checkIndex_df160 : MethodName := ⟨RJ0, "checkIndex", "(II)V"⟩
abbrev cJ0_checkBoundsOffCount_cabcc : ByteArray := prog_20_method_157_code
def yJ0_checkBoundsOffCount_cabcc : MethodName := ⟨RJ0, "checkBoundsOffCount", "(III)I"⟩
abbrev cJ0_checkBoundsBeginEnd_23922 : ByteArray := prog_20_method_158_code
def yJ0_checkBoundsBeginEnd_23922 : MethodName := ⟨RJ0, "checkBoundsBeginEnd", "(III)V"⟩
def RJ4 : String := "java/lang/StringBuilder"
def TJ4 : u_T := fun k => match k with
  | 0 => ("java/lang/AbstractStringBuilder", "value", "[B", false)
  | 1 => ("java/lang/AbstractStringBuilder", "coder", "B", false)
  | 2 => ("java/lang/AbstractStringBuilder", "maybeLatin1", "Z", false)
  | _ => ("java/lang/AbstractStringBuilder", "count", "I", false)
def tyJ4 : Nat → FieldType := fun k => match k with
  | 0 => .array .byte
  | 1 => .byte
  | 2 => .boolean
  | _ => .int
abbrev wsJ40 : List Cond := u_ws RJ4 TJ4 4
theorem nmJ4 : ∀ a, a < 4 → ∀ b, b < 4 → a ≠ b → (TJ4 a).2.1 ≠ (TJ4 b).2.1 := by decide +kernel
theorem tyJ4_ok : ∀ k, k < 4 → parseFieldDescriptor (TJ4 k).2.2.1 = some (tyJ4 k) := by decide +kernel
abbrev cJ4_init_da8c8 : ByteArray := prog_21_method_1_code
def yJ4_init_da8c8 : MethodName := ⟨RJ4, "<init>", "()V"⟩
abbrev cJ4_append_15ec4 : ByteArray := prog_21_method_7_code
def yJ4_append_15ec4 : MethodName := ⟨RJ4, "append", "(Ljava/lang/String;)Ljava/lang/StringBuilder;"⟩
abbrev cJ4_append_cf468 : ByteArray := prog_21_method_14_code
def yJ4_append_cf468 : MethodName := ⟨RJ4, "append", "(C)Ljava/lang/StringBuilder;"⟩
abbrev cJ4_append_bf812 : ByteArray := prog_21_method_15_code
def yJ4_append_bf812 : MethodName := ⟨RJ4, "append", "(I)Ljava/lang/StringBuilder;"⟩
abbrev cJ4_toString_0e30d : ByteArray := prog_21_method_42_code
def yJ4_toString_0e30d : MethodName := ⟨RJ4, "toString", "()Ljava/lang/String;"⟩
abbrev cJ4_length_8abf5 : ByteArray := prog_21_method_93_code
def yJ4_length_8abf5 : MethodName := ⟨RJ4, "length", "()I"⟩
def RJ1 : String := "java/lang/StringLatin1"
def TJ1 : u_T := fun k => match k with
  | _ => ("", "", "", false)
def tyJ1 : Nat → FieldType := fun k => match k with
  | _ => .int
abbrev wsJ10 : List Cond := u_ws RJ1 TJ1 0
theorem nmJ1 : ∀ a, a < 0 → ∀ b, b < 0 → a ≠ b → (TJ1 a).2.1 ≠ (TJ1 b).2.1 := by decide +kernel
theorem tyJ1_ok : ∀ k, k < 0 → parseFieldDescriptor (TJ1 k).2.2.1 = some (tyJ1 k) := by decide +kernel
abbrev cJ1_charAt_3b067 : ByteArray := prog_22_method_2_code
def yJ1_charAt_3b067 : MethodName := ⟨RJ1, "charAt", "([BI)C"⟩
abbrev cJ1_canEncode_fc78d : ByteArray := prog_22_method_3_code
def yJ1_canEncode_fc78d : MethodName := ⟨RJ1, "canEncode", "(C)Z"⟩
abbrev cJ1_inflate_0e8fd : ByteArray := prog_22_method_50_code
def yJ1_inflate_0e8fd : MethodName := ⟨RJ1, "inflate", "([BI[BII)V"⟩
def RJ2 : String := "java/lang/StringUTF16"
def TJ2 : u_T := fun k => match k with
  | _ => ("", "", "", false)
def tyJ2 : Nat → FieldType := fun k => match k with
  | _ => .int
abbrev wsJ20 : List Cond := u_ws RJ2 TJ2 0
theorem nmJ2 : ∀ a, a < 0 → ∀ b, b < 0 → a ≠ b → (TJ2 a).2.1 ≠ (TJ2 b).2.1 := by decide +kernel
theorem tyJ2_ok : ∀ k, k < 0 → parseFieldDescriptor (TJ2 k).2.2.1 = some (tyJ2 k) := by decide +kernel
abbrev cJ2_newBytesFor_77867 : ByteArray := prog_23_method_2_code
def yJ2_newBytesFor_77867 : MethodName := ⟨RJ2, "newBytesFor", "(I)[B"⟩
abbrev cJ2_newBytesLength_0f7a4 : ByteArray := prog_23_method_3_code
def yJ2_newBytesLength_0f7a4 : MethodName := ⟨RJ2, "newBytesLength", "(I)I"⟩
abbrev cJ2_putChar_b72d1 : ByteArray := prog_23_method_4_code
def yJ2_putChar_b72d1 : MethodName := ⟨RJ2, "putChar", "([BII)V"⟩
abbrev cJ2_getChar_3b067 : ByteArray := prog_23_method_5_code
def yJ2_getChar_3b067 : MethodName := ⟨RJ2, "getChar", "([BI)C"⟩
abbrev cJ2_length_9d52b : ByteArray := prog_23_method_6_code
def yJ2_length_9d52b : MethodName := ⟨RJ2, "length", "([B)I"⟩
abbrev cJ2_coderFromArrayLen_85cad : ByteArray := prog_23_method_15_code
def yJ2_coderFromArrayLen_85cad : MethodName := ⟨RJ2, "coderFromArrayLen", "([BI)B"⟩
abbrev cJ2_compress_39247 : ByteArray := prog_23_method_17_code
def yJ2_compress_39247 : MethodName := ⟨RJ2, "compress", "([BII)[B"⟩
abbrev cJ2_compress_5af95 : ByteArray := prog_23_method_22_code
def yJ2_compress_5af95 : MethodName := ⟨RJ2, "compress", "([BI[BII)I"⟩
abbrev cJ2_putCharSB_b72d1 : ByteArray := prog_23_method_71_code
def yJ2_putCharSB_b72d1 : MethodName := ⟨RJ2, "putCharSB", "([BII)V"⟩
abbrev cJ2_getChars_46870 : ByteArray := prog_23_method_77_code
def yJ2_getChars_46870 : MethodName := ⟨RJ2, "getChars", "(III[B)I"⟩
abbrev cJ2_putCharsAt_cd4e5 : ByteArray := prog_23_method_81_code
def yJ2_putCharsAt_cd4e5 : MethodName := ⟨RJ2, "putCharsAt", "([BICCCC)I"⟩
abbrev cJ2_charAt_3b067 : ByteArray := prog_23_method_83_code
def yJ2_charAt_3b067 : MethodName := ⟨RJ2, "charAt", "([BI)C"⟩
abbrev cJ2_inflate_0e8fd : ByteArray := prog_23_method_86_code
def yJ2_inflate_0e8fd : MethodName := ⟨RJ2, "inflate", "([BI[BII)V"⟩
abbrev cJ2_getChars_ba4f3 : ByteArray := prog_23_method_89_code
def yJ2_getChars_ba4f3 : MethodName := ⟨RJ2, "getChars", "(II[B)I"⟩
abbrev cJ2_checkIndex_2214a : ByteArray := prog_23_method_91_code
def yJ2_checkIndex_2214a : MethodName := ⟨RJ2, "checkIndex", "(I[B)V"⟩
abbrev cJ2_checkBoundsBeginEnd_d044e : ByteArray := prog_23_method_93_code
def yJ2_checkBoundsBeginEnd_d044e : MethodName := ⟨RJ2, "checkBoundsBeginEnd", "(II[B)V"⟩
abbrev cJ2_checkBoundsOffCount_d044e : ByteArray := prog_23_method_94_code
def yJ2_checkBoundsOffCount_d044e : MethodName := ⟨RJ2, "checkBoundsOffCount", "(II[B)V"⟩
def RJ10 : String := "java/lang/System"
def TJ10 : u_T := fun k => match k with
  | _ => ("", "", "", false)
def tyJ10 : Nat → FieldType := fun k => match k with
  | _ => .int
abbrev wsJ100 : List Cond := u_ws RJ10 TJ10 0
theorem nmJ10 : ∀ a, a < 0 → ∀ b, b < 0 → a ≠ b → (TJ10 a).2.1 ≠ (TJ10 b).2.1 := by decide +kernel
theorem tyJ10_ok : ∀ k, k < 0 → parseFieldDescriptor (TJ10 k).2.2.1 = some (tyJ10 k) := by decide +kernel
def RJ7 : String := "java/util/Arrays"
def TJ7 : u_T := fun k => match k with
  | _ => ("", "", "", false)
def tyJ7 : Nat → FieldType := fun k => match k with
  | _ => .int
abbrev wsJ70 : List Cond := u_ws RJ7 TJ7 0
theorem nmJ7 : ∀ a, a < 0 → ∀ b, b < 0 → a ≠ b → (TJ7 a).2.1 ≠ (TJ7 b).2.1 := by decide +kernel
theorem tyJ7_ok : ∀ k, k < 0 → parseFieldDescriptor (TJ7 k).2.2.1 = some (tyJ7 k) := by decide +kernel
abbrev cJ7_fill_d0a16 : ByteArray := prog_25_method_101_code
def yJ7_fill_d0a16 : MethodName := ⟨RJ7, "fill", "([JJ)V"⟩
abbrev cJ7_fill_53178 : ByteArray := prog_25_method_103_code
def yJ7_fill_53178 : MethodName := ⟨RJ7, "fill", "([II)V"⟩
abbrev cJ7_copyOf_9075b : ByteArray := prog_25_method_121_code
def yJ7_copyOf_9075b : MethodName := ⟨RJ7, "copyOf", "([BI)[B"⟩
abbrev cJ7_checkLength_df160 : ByteArray := prog_25_method_131_code
def yJ7_checkLength_df160 : MethodName := ⟨RJ7, "checkLength", "(II)V"⟩
abbrev cJ7_copyOfRange_39247 : ByteArray := prog_25_method_132_code
def yJ7_copyOfRange_39247 : MethodName := ⟨RJ7, "copyOfRange", "([BII)[B"⟩
abbrev cJ7_copyOfRangeByte_39247 : ByteArray := prog_25_method_133_code
def yJ7_copyOfRangeByte_39247 : MethodName := ⟨RJ7, "copyOfRangeByte", "([BII)[B"⟩
def RJ8 : String := "jdk/internal/util/ArraysSupport"
def TJ8 : u_T := fun k => match k with
  | _ => ("", "", "", false)
def tyJ8 : Nat → FieldType := fun k => match k with
  | _ => .int
abbrev wsJ80 : List Cond := u_ws RJ8 TJ8 0
theorem nmJ8 : ∀ a, a < 0 → ∀ b, b < 0 → a ≠ b → (TJ8 a).2.1 ≠ (TJ8 b).2.1 := by decide +kernel
theorem tyJ8_ok : ∀ k, k < 0 → parseFieldDescriptor (TJ8 k).2.2.1 = some (tyJ8 k) := by decide +kernel
abbrev cJ8_newLength_cabcc : ByteArray := prog_26_method_27_code
def yJ8_newLength_cabcc : MethodName := ⟨RJ8, "newLength", "(III)I"⟩
abbrev cJ8_hugeLength_7cf53 : ByteArray := prog_26_method_28_code
def yJ8_hugeLength_7cf53 : MethodName := ⟨RJ8, "hugeLength", "(II)I"⟩
def RJ3 : String := "jdk/internal/util/Preconditions"
def TJ3 : u_T := fun k => match k with
  | _ => ("", "", "", false)
def tyJ3 : Nat → FieldType := fun k => match k with
  | _ => .int
abbrev wsJ30 : List Cond := u_ws RJ3 TJ3 0
theorem nmJ3 : ∀ a, a < 0 → ∀ b, b < 0 → a ≠ b → (TJ3 a).2.1 ≠ (TJ3 b).2.1 := by decide +kernel
theorem tyJ3_ok : ∀ k, k < 0 → parseFieldDescriptor (TJ3 k).2.2.1 = some (tyJ3 k) := by decide +kernel
abbrev cJ3_checkIndex_8e157 : ByteArray := prog_27_method_11_code
def yJ3_checkIndex_8e157 : MethodName := ⟨RJ3, "checkIndex", "(IILjava/util/function/BiFunction;)I"⟩
abbrev cJ3_checkFromToIndex_8c36e : ByteArray := prog_27_method_12_code
def yJ3_checkFromToIndex_8c36e : MethodName := ⟨RJ3, "checkFromToIndex", "(IIILjava/util/function/BiFunction;)I"⟩
abbrev cJ3_checkFromIndexSize_8c36e : ByteArray := prog_27_method_13_code
def yJ3_checkFromIndexSize_8c36e : MethodName := ⟨RJ3, "checkFromIndexSize", "(IIILjava/util/function/BiFunction;)I"⟩
def RL : String := "WholePacksLaw"
abbrev cL_cell : ByteArray := method_2_code
def yL_cell : MethodName := ⟨RL, "cell", "([II)I"⟩
abbrev cL_feeds : ByteArray := method_3_code
def yL_feeds : MethodName := ⟨RL, "feeds", "(LWholePacks;Ljava/lang/String;)Z"⟩
abbrev cL_law : ByteArray := code
def yL_law : MethodName := ⟨RL, "law", "([I)Z"⟩
abbrev vwCl : List vw_C := [(RJ0, TJ0, 4), (RJ4, TJ4, 4), (RX0, TX0, 4), (RX1, TX1, 6), (RX2, TX2, 4), (RX3, TX3, 3), (RX4, TX4, 12), (RX5, TX5, 13), (RX6, TX6, 3), (RX7, TX7, 8), (RX8, TX8, 11), (RX9, TX9, 7), (RX10, TX10, 13)]
end
section
/-! The program as data: a method's instructions with what their pool entries name (by program). -/
abbrev j_I : Type := Instr × Nat × Nat × Int
/-- 0 WholePacks$Cuts.<init>()V -/
noncomputable def k_0 : List (Nat × j_I) := [(0, .aload_n 0, 0, 0, 0), (1, .invokespecial 3, 9998, 0, 0), (4, .aload_n 0, 0, 0, 0), (5, .bipush 12, 0, 0, 12), (7, .newarray .long, 0, 0, 0), (9, .putfield 9, 2, 1, 0), (12, .aload_n 0, 0, 0, 0), (13, .bipush 72, 0, 0, 72), (15, .newarray .long, 0, 0, 0), (17, .putfield 15, 2, 2, 0), (20, .aload_n 0, 0, 0, 0), (21, .sipush 264, 0, 0, 264), (24, .newarray .long, 0, 0, 0), (26, .putfield 18, 2, 3, 0), (29, .return_, 0, 0, 0)]
/-- 1 WholePacks$Cuts.clear()V -/
noncomputable def k_1 : List (Nat × j_I) := [(0, .aload_n 0, 0, 0, 0), (1, .iconst 0, 0, 0, 0), (2, .putfield 21, 2, 0, 0), (5, .return_, 0, 0, 0)]
/-- 2 WholePacks$Cuts.formOf(II)J -/
noncomputable def k_2 : List (Nat × j_I) := [(0, .aload_n 0, 0, 0, 0), (1, .getfield 15, 2, 2, 0), (4, .iload_n 1, 0, 0, 0), (5, .bipush 6, 0, 0, 6), (7, .imul, 0, 0, 0), (8, .iload_n 2, 0, 0, 0), (9, .iadd, 0, 0, 0), (10, .laload, 0, 0, 0), (11, .lreturn, 0, 0, 0)]
/-- 4 WholePacks$Cuts.make(LWholePacks$Table;ILWholePacks$Packs;)Z -/
noncomputable def k_4 : List (Nat × j_I) := [(0, .iconst 0, 0, 0, 0), (1, .istore 4, 0, 0, 0), (3, .iload 4, 0, 0, 0), (5, .aload_n 3, 0, 0, 0), (6, .getfield 25, 3, 0, 0), (9, .if_icmp .gt 47, 56, 0, 0), (12, .aload_n 0, 0, 0, 0), (13, .aload_n 1, 0, 0, 0), (14, .iload_n 2, 0, 0, 0), (15, .aload_n 3, 0, 0, 0), (16, .iload 4, 0, 0, 0), (18, .invokevirtual 28, 5, 4, 0), (21, .lstore 5, 0, 0, 0), (23, .lload 5, 0, 0, 0), (25, .invokestatic 32, 144, 1, 0), (28, .ifCond .ne 5, 33, 0, 0), (31, .iconst 0, 0, 0, 0), (32, .ireturn, 0, 0, 0), (33, .aload_n 0, 0, 0, 0), (34, .getfield 15, 2, 2, 0), (37, .aload_n 0, 0, 0, 0), (38, .getfield 21, 2, 0, 0), (41, .bipush 6, 0, 0, 6), (43, .imul, 0, 0, 0), (44, .iload 4, 0, 0, 0), (46, .iadd, 0, 0, 0), (47, .lload 5, 0, 0, 0), (49, .lastore, 0, 0, 0), (50, .iinc 4 1, 0, 0, 0), (53, .goto (-50), 3, 0, 0), (56, .iconst 0, 0, 0, 0), (57, .istore 4, 0, 0, 0), (59, .iload 4, 0, 0, 0), (61, .bipush 22, 0, 0, 22), (63, .if_icmp .ge 25, 88, 0, 0), (66, .aload_n 0, 0, 0, 0), (67, .getfield 18, 2, 3, 0), (70, .aload_n 0, 0, 0, 0), (71, .getfield 21, 2, 0, 0), (74, .bipush 22, 0, 0, 22), (76, .imul, 0, 0, 0), (77, .iload 4, 0, 0, 0), (79, .iadd, 0, 0, 0), (80, .lconst 0, 0, 0, 0), (81, .lastore, 0, 0, 0), (82, .iinc 4 1, 0, 0, 0), (85, .goto (-26), 59, 0, 0), (88, .iconst 0, 0, 0, 0), (89, .istore 4, 0, 0, 0), (91, .iload 4, 0, 0, 0), (93, .aload_n 1, 0, 0, 0), (94, .getfield 36, 7, 1, 0), (97, .if_icmp .ge 66, 163, 0, 0), (100, .aload_n 1, 0, 0, 0), (101, .getfield 41, 7, 6, 0), (104, .iload 4, 0, 0, 0), (106, .iaload, 0, 0, 0), (107, .bipush 10, 0, 0, 10), (109, .isub, 0, 0, 0), (110, .istore 5, 0, 0, 0), (112, .iload 5, 0, 0, 0), (114, .ifCond .lt 43, 157, 0, 0), (117, .iload 5, 0, 0, 0), (119, .bipush 22, 0, 0, 22), (121, .if_icmp .lt 6, 127, 0, 0), (124, .goto 33, 157, 0, 0), (127, .aload_n 0, 0, 0, 0), (128, .getfield 18, 2, 3, 0), (131, .aload_n 0, 0, 0, 0), (132, .getfield 21, 2, 0, 0), (135, .bipush 22, 0, 0, 22), (137, .imul, 0, 0, 0), (138, .iload 5, 0, 0, 0), (140, .iadd, 0, 0, 0), (141, .aload_n 1, 0, 0, 0), (142, .aload_n 1, 0, 0, 0), (143, .getfield 45, 7, 7, 0), (146, .iload_n 2, 0, 0, 0), (147, .iconst 5, 0, 0, 5), (148, .imul, 0, 0, 0), (149, .iload 4, 0, 0, 0), (151, .iadd, 0, 0, 0), (152, .laload, 0, 0, 0), (153, .invokevirtual 48, 43, 1, 0), (156, .lastore, 0, 0, 0), (157, .iinc 4 1, 0, 0, 0), (160, .goto (-69), 91, 0, 0), (163, .aload_n 0, 0, 0, 0), (164, .getfield 9, 2, 1, 0), (167, .aload_n 0, 0, 0, 0), (168, .getfield 21, 2, 0, 0), (171, .aload_n 1, 0, 0, 0), (172, .getfield 52, 7, 4, 0), (175, .lastore, 0, 0, 0), (176, .aload_n 0, 0, 0, 0), (177, .dup, 0, 0, 0), (178, .getfield 21, 2, 0, 0), (181, .iconst 1, 0, 0, 1), (182, .iadd, 0, 0, 0), (183, .putfield 21, 2, 0, 0), (186, .iconst 1, 0, 0, 1), (187, .ireturn, 0, 0, 0)]
/-- 5 WholePacks$Cuts.tellIn(LWholePacks$Table;ILWholePacks$Packs;I)J -/
noncomputable def k_5 : List (Nat × j_I) := [(0, .aload_n 1, 0, 0, 0), (1, .getfield 56, 7, 5, 0), (4, .iload_n 2, 0, 0, 0), (5, .iaload, 0, 0, 0), (6, .iload 4, 0, 0, 0), (8, .if_icmp .ne 7, 15, 0, 0), (11, .lconst 1, 0, 0, 1), (12, .goto 4, 16, 0, 0), (15, .lconst 0, 0, 0, 0), (16, .lstore 5, 0, 0, 0), (18, .iload 4, 0, 0, 0), (20, .aload_n 3, 0, 0, 0), (21, .getfield 25, 3, 0, 0), (24, .if_icmp .ne 15, 39, 0, 0), (27, .aload_n 1, 0, 0, 0), (28, .aload_n 1, 0, 0, 0), (29, .getfield 59, 7, 8, 0), (32, .iload_n 2, 0, 0, 0), (33, .laload, 0, 0, 0), (34, .invokevirtual 62, 44, 1, 0), (37, .lstore 5, 0, 0, 0), (39, .iconst 0, 0, 0, 0), (40, .istore 7, 0, 0, 0), (42, .iload 7, 0, 0, 0), (44, .aload_n 1, 0, 0, 0), (45, .getfield 36, 7, 1, 0), (48, .if_icmp .ge 108, 156, 0, 0), (51, .aload_n 1, 0, 0, 0), (52, .getfield 41, 7, 6, 0), (55, .iload 7, 0, 0, 0), (57, .iaload, 0, 0, 0), (58, .istore 8, 0, 0, 0), (60, .aload_n 1, 0, 0, 0), (61, .aload_n 1, 0, 0, 0), (62, .getfield 45, 7, 7, 0), (65, .iload_n 2, 0, 0, 0), (66, .iconst 5, 0, 0, 5), (67, .imul, 0, 0, 0), (68, .iload 7, 0, 0, 0), (70, .iadd, 0, 0, 0), (71, .laload, 0, 0, 0), (72, .invokevirtual 62, 44, 1, 0), (75, .lstore 9, 0, 0, 0), (77, .iload 8, 0, 0, 0), (79, .iload 4, 0, 0, 0), (81, .if_icmp .ne 13, 94, 0, 0), (84, .lload 5, 0, 0, 0), (86, .lload 9, 0, 0, 0), (88, .ladd, 0, 0, 0), (89, .lstore 5, 0, 0, 0), (91, .goto 59, 150, 0, 0), (94, .iload 8, 0, 0, 0), (96, .bipush 20, 0, 0, 20), (98, .if_icmp .lt 25, 123, 0, 0), (101, .lload 5, 0, 0, 0), (103, .lload 9, 0, 0, 0), (105, .aload_n 0, 0, 0, 0), (106, .iload 8, 0, 0, 0), (108, .bipush 20, 0, 0, 20), (110, .isub, 0, 0, 0), (111, .iload 4, 0, 0, 0), (113, .invokevirtual 65, 2, 2, 0), (116, .lmul, 0, 0, 0), (117, .lsub, 0, 0, 0), (118, .lstore 5, 0, 0, 0), (120, .goto 30, 150, 0, 0), (123, .iload 8, 0, 0, 0), (125, .bipush 10, 0, 0, 10), (127, .if_icmp .lt 23, 150, 0, 0), (130, .lload 5, 0, 0, 0), (132, .lload 9, 0, 0, 0), (134, .aload_n 3, 0, 0, 0), (135, .iload 8, 0, 0, 0), (137, .bipush 10, 0, 0, 10), (139, .isub, 0, 0, 0), (140, .iload 4, 0, 0, 0), (142, .invokevirtual 69, 13, 2, 0), (145, .i2l, 0, 0, 0), (146, .lmul, 0, 0, 0), (147, .lsub, 0, 0, 0), (148, .lstore 5, 0, 0, 0), (150, .iinc 7 1, 0, 0, 0), (153, .goto (-111), 42, 0, 0), (156, .lload 5, 0, 0, 0), (158, .lreturn, 0, 0, 0)]
/-- 7 WholePacks$Packs.<init>()V -/
noncomputable def k_7 : List (Nat × j_I) := [(0, .aload_n 0, 0, 0, 0), (1, .invokespecial 3, 9998, 0, 0), (4, .aload_n 0, 0, 0, 0), (5, .iconst 2, 0, 0, 2), (6, .putfield 9, 3, 0, 0), (9, .aload_n 0, 0, 0, 0), (10, .iconst 5, 0, 0, 5), (11, .newarray .int, 0, 0, 0), (13, .dup, 0, 0, 0), (14, .iconst 0, 0, 0, 0), (15, .iconst 1, 0, 0, 1), (16, .iastore, 0, 0, 0), (17, .dup, 0, 0, 0), (18, .iconst 1, 0, 0, 1), (19, .iconst 1, 0, 0, 1), (20, .iastore, 0, 0, 0), (21, .dup, 0, 0, 0), (22, .iconst 2, 0, 0, 2), (23, .iconst 1, 0, 0, 1), (24, .iastore, 0, 0, 0), (25, .dup, 0, 0, 0), (26, .iconst 3, 0, 0, 3), (27, .iconst 1, 0, 0, 1), (28, .iastore, 0, 0, 0), (29, .dup, 0, 0, 0), (30, .iconst 4, 0, 0, 4), (31, .iconst 1, 0, 0, 1), (32, .iastore, 0, 0, 0), (33, .putfield 15, 3, 2, 0), (36, .aload_n 0, 0, 0, 0), (37, .bipush 8, 0, 0, 8), (39, .newarray .int, 0, 0, 0), (41, .putfield 19, 3, 3, 0), (44, .aload_n 0, 0, 0, 0), (45, .bipush 8, 0, 0, 8), (47, .newarray .int, 0, 0, 0), (49, .putfield 22, 3, 4, 0), (52, .aload_n 0, 0, 0, 0), (53, .bipush 40, 0, 0, 40), (55, .newarray .int, 0, 0, 0), (57, .putfield 25, 3, 5, 0), (60, .return_, 0, 0, 0)]
/-- 8 WholePacks$Packs.become(LWholePacks$Packs;)V -/
noncomputable def k_8 : List (Nat × j_I) := [(0, .aload_n 0, 0, 0, 0), (1, .aload_n 1, 0, 0, 0), (2, .getfield 9, 3, 0, 0), (5, .putfield 9, 3, 0, 0), (8, .aload_n 0, 0, 0, 0), (9, .aload_n 1, 0, 0, 0), (10, .getfield 28, 3, 1, 0), (13, .putfield 28, 3, 1, 0), (16, .aload_n 1, 0, 0, 0), (17, .getfield 15, 3, 2, 0), (20, .iconst 0, 0, 0, 0), (21, .aload_n 0, 0, 0, 0), (22, .getfield 15, 3, 2, 0), (25, .iconst 0, 0, 0, 0), (26, .iconst 5, 0, 0, 5), (27, .invokestatic 31, 9999, 5, 0), (30, .aload_n 1, 0, 0, 0), (31, .getfield 19, 3, 3, 0), (34, .iconst 0, 0, 0, 0), (35, .aload_n 0, 0, 0, 0), (36, .getfield 19, 3, 3, 0), (39, .iconst 0, 0, 0, 0), (40, .bipush 8, 0, 0, 8), (42, .invokestatic 31, 9999, 5, 0), (45, .aload_n 1, 0, 0, 0), (46, .getfield 22, 3, 4, 0), (49, .iconst 0, 0, 0, 0), (50, .aload_n 0, 0, 0, 0), (51, .getfield 22, 3, 4, 0), (54, .iconst 0, 0, 0, 0), (55, .bipush 8, 0, 0, 8), (57, .invokestatic 31, 9999, 5, 0), (60, .aload_n 1, 0, 0, 0), (61, .getfield 25, 3, 5, 0), (64, .iconst 0, 0, 0, 0), (65, .aload_n 0, 0, 0, 0), (66, .getfield 25, 3, 5, 0), (69, .iconst 0, 0, 0, 0), (70, .bipush 40, 0, 0, 40), (72, .invokestatic 31, 9999, 5, 0), (75, .return_, 0, 0, 0)]
/-- 9 WholePacks$Packs.startAgain(I)V -/
noncomputable def k_9 : List (Nat × j_I) := [(0, .aload_n 0, 0, 0, 0), (1, .iload_n 1, 0, 0, 0), (2, .putfield 9, 3, 0, 0), (5, .aload_n 0, 0, 0, 0), (6, .iconst 0, 0, 0, 0), (7, .putfield 28, 3, 1, 0), (10, .aload_n 0, 0, 0, 0), (11, .getfield 15, 3, 2, 0), (14, .iconst 1, 0, 0, 1), (15, .invokestatic 37, 270, 2, 0), (18, .return_, 0, 0, 0)]
/-- 10 WholePacks$Packs.addRule(II)V -/
noncomputable def k_10 : List (Nat × j_I) := [(0, .aload_n 0, 0, 0, 0), (1, .getfield 19, 3, 3, 0), (4, .aload_n 0, 0, 0, 0), (5, .getfield 28, 3, 1, 0), (8, .iload_n 1, 0, 0, 0), (9, .iastore, 0, 0, 0), (10, .aload_n 0, 0, 0, 0), (11, .getfield 22, 3, 4, 0), (14, .aload_n 0, 0, 0, 0), (15, .getfield 28, 3, 1, 0), (18, .iload_n 2, 0, 0, 0), (19, .iastore, 0, 0, 0), (20, .iconst 0, 0, 0, 0), (21, .istore_n 3, 0, 0, 0), (22, .iload_n 3, 0, 0, 0), (23, .iconst 5, 0, 0, 5), (24, .if_icmp .ge 19, 43, 0, 0), (27, .aload_n 0, 0, 0, 0), (28, .aload_n 0, 0, 0, 0), (29, .getfield 28, 3, 1, 0), (32, .iload_n 3, 0, 0, 0), (33, .iconst 0, 0, 0, 0), (34, .invokevirtual 43, 12, 3, 0), (37, .iinc 3 1, 0, 0, 0), (40, .goto (-18), 22, 0, 0), (43, .aload_n 0, 0, 0, 0), (44, .dup, 0, 0, 0), (45, .getfield 28, 3, 1, 0), (48, .iconst 1, 0, 0, 1), (49, .iadd, 0, 0, 0), (50, .putfield 28, 3, 1, 0), (53, .return_, 0, 0, 0)]
/-- 11 WholePacks$Packs.factorOf(II)I -/
noncomputable def k_11 : List (Nat × j_I) := [(0, .aload_n 0, 0, 0, 0), (1, .getfield 25, 3, 5, 0), (4, .iload_n 1, 0, 0, 0), (5, .iconst 5, 0, 0, 5), (6, .imul, 0, 0, 0), (7, .iload_n 2, 0, 0, 0), (8, .iadd, 0, 0, 0), (9, .iaload, 0, 0, 0), (10, .ireturn, 0, 0, 0)]
/-- 12 WholePacks$Packs.setFactor(III)V -/
noncomputable def k_12 : List (Nat × j_I) := [(0, .aload_n 0, 0, 0, 0), (1, .getfield 25, 3, 5, 0), (4, .iload_n 1, 0, 0, 0), (5, .iconst 5, 0, 0, 5), (6, .imul, 0, 0, 0), (7, .iload_n 2, 0, 0, 0), (8, .iadd, 0, 0, 0), (9, .iload_n 3, 0, 0, 0), (10, .iastore, 0, 0, 0), (11, .return_, 0, 0, 0)]
/-- 13 WholePacks$Packs.formOf(II)I -/
noncomputable def k_13 : List (Nat × j_I) := [(0, .iload_n 2, 0, 0, 0), (1, .aload_n 0, 0, 0, 0), (2, .getfield 9, 3, 0, 0), (5, .if_icmp .ne 12, 17, 0, 0), (8, .aload_n 0, 0, 0, 0), (9, .getfield 22, 3, 4, 0), (12, .iload_n 1, 0, 0, 0), (13, .iaload, 0, 0, 0), (14, .goto 9, 23, 0, 0), (17, .aload_n 0, 0, 0, 0), (18, .iload_n 1, 0, 0, 0), (19, .iload_n 2, 0, 0, 0), (20, .invokevirtual 47, 11, 2, 0), (23, .istore_n 3, 0, 0, 0), (24, .aload_n 0, 0, 0, 0), (25, .getfield 19, 3, 3, 0), (28, .iload_n 1, 0, 0, 0), (29, .iaload, 0, 0, 0), (30, .ifCond .ne 8, 38, 0, 0), (33, .iload_n 3, 0, 0, 0), (34, .ineg, 0, 0, 0), (35, .goto 4, 39, 0, 0), (38, .iload_n 3, 0, 0, 0), (39, .ireturn, 0, 0, 0)]
/-- 14 WholePacks$Packs.costOf(I)I -/
noncomputable def k_14 : List (Nat × j_I) := [(0, .iconst 0, 0, 0, 0), (1, .istore_n 2, 0, 0, 0), (2, .iconst 0, 0, 0, 0), (3, .istore_n 3, 0, 0, 0), (4, .iload_n 3, 0, 0, 0), (5, .aload_n 0, 0, 0, 0), (6, .getfield 9, 3, 0, 0), (9, .if_icmp .ge 25, 34, 0, 0), (12, .iload_n 2, 0, 0, 0), (13, .aload_n 0, 0, 0, 0), (14, .iload_n 1, 0, 0, 0), (15, .iload_n 3, 0, 0, 0), (16, .invokevirtual 51, 16, 2, 0), (19, .aload_n 0, 0, 0, 0), (20, .getfield 15, 3, 2, 0), (23, .iload_n 3, 0, 0, 0), (24, .iaload, 0, 0, 0), (25, .imul, 0, 0, 0), (26, .iadd, 0, 0, 0), (27, .istore_n 2, 0, 0, 0), (28, .iinc 3 1, 0, 0, 0), (31, .goto (-27), 4, 0, 0), (34, .iload_n 2, 0, 0, 0), (35, .ireturn, 0, 0, 0)]
/-- 16 WholePacks$Packs.digitOf(II)I -/
noncomputable def k_16 : List (Nat × j_I) := [(0, .iload_n 1, 0, 0, 0), (1, .istore_n 3, 0, 0, 0), (2, .aload_n 0, 0, 0, 0), (3, .getfield 9, 3, 0, 0), (6, .iconst 1, 0, 0, 1), (7, .isub, 0, 0, 0), (8, .istore 4, 0, 0, 0), (10, .iload 4, 0, 0, 0), (12, .iload_n 2, 0, 0, 0), (13, .if_icmp .le 14, 27, 0, 0), (16, .iload_n 3, 0, 0, 0), (17, .bipush 10, 0, 0, 10), (19, .idiv, 0, 0, 0), (20, .istore_n 3, 0, 0, 0), (21, .iinc 4 (-1), 0, 0, 0), (24, .goto (-14), 10, 0, 0), (27, .iload_n 3, 0, 0, 0), (28, .bipush 10, 0, 0, 10), (30, .irem, 0, 0, 0), (31, .ireturn, 0, 0, 0)]
/-- 17 WholePacks$Packs.change(III)V -/
noncomputable def k_17 : List (Nat × j_I) := [(0, .iload_n 1, 0, 0, 0), (1, .iconst 1, 0, 0, 1), (2, .if_icmp .ne 19, 21, 0, 0), (5, .iload_n 2, 0, 0, 0), (6, .aload_n 0, 0, 0, 0), (7, .getfield 9, 3, 0, 0), (10, .if_icmp .ge 7, 17, 0, 0), (13, .iconst 1, 0, 0, 1), (14, .goto 20, 34, 0, 0), (17, .iconst 0, 0, 0, 0), (18, .goto 16, 34, 0, 0), (21, .iload_n 2, 0, 0, 0), (22, .aload_n 0, 0, 0, 0), (23, .getfield 28, 3, 1, 0), (26, .if_icmp .ge 7, 33, 0, 0), (29, .iconst 1, 0, 0, 1), (30, .goto 4, 34, 0, 0), (33, .iconst 0, 0, 0, 0), (34, .istore 4, 0, 0, 0), (36, .iload 4, 0, 0, 0), (38, .ifCond .ne 4, 42, 0, 0), (41, .return_, 0, 0, 0), (42, .iload_n 1, 0, 0, 0), (43, .ifCond .ne 13, 56, 0, 0), (46, .aload_n 0, 0, 0, 0), (47, .getfield 22, 3, 4, 0), (50, .iload_n 2, 0, 0, 0), (51, .iload_n 3, 0, 0, 0), (52, .iastore, 0, 0, 0), (53, .goto 25, 78, 0, 0), (56, .iload_n 1, 0, 0, 0), (57, .iconst 1, 0, 0, 1), (58, .if_icmp .ne 13, 71, 0, 0), (61, .aload_n 0, 0, 0, 0), (62, .getfield 15, 3, 2, 0), (65, .iload_n 2, 0, 0, 0), (66, .iload_n 3, 0, 0, 0), (67, .iastore, 0, 0, 0), (68, .goto 10, 78, 0, 0), (71, .aload_n 0, 0, 0, 0), (72, .iload_n 2, 0, 0, 0), (73, .iconst 0, 0, 0, 0), (74, .iload_n 3, 0, 0, 0), (75, .invokevirtual 43, 12, 3, 0), (78, .return_, 0, 0, 0)]
/-- 18 WholePacks$Packs.drawRules(II)V -/
noncomputable def k_18 : List (Nat × j_I) := [(0, .iload_n 1, 0, 0, 0), (1, .istore_n 3, 0, 0, 0), (2, .aload_n 0, 0, 0, 0), (3, .iconst 0, 0, 0, 0), (4, .putfield 28, 3, 1, 0), (7, .iconst 0, 0, 0, 0), (8, .istore 4, 0, 0, 0), (10, .iload 4, 0, 0, 0), (12, .iload_n 2, 0, 0, 0), (13, .if_icmp .ge 72, 85, 0, 0), (16, .aload_n 0, 0, 0, 0), (17, .iconst 0, 0, 0, 0), (18, .iconst 0, 0, 0, 0), (19, .invokevirtual 57, 10, 2, 0), (22, .iconst 0, 0, 0, 0), (23, .istore 5, 0, 0, 0), (25, .iload 5, 0, 0, 0), (27, .aload_n 0, 0, 0, 0), (28, .getfield 9, 3, 0, 0), (31, .if_icmp .ge 29, 60, 0, 0), (34, .iload_n 3, 0, 0, 0), (35, .invokestatic 61, 19, 1, 0), (38, .istore_n 3, 0, 0, 0), (39, .aload_n 0, 0, 0, 0), (40, .iload 4, 0, 0, 0), (42, .iload 5, 0, 0, 0), (44, .iload_n 3, 0, 0, 0), (45, .bipush 9, 0, 0, 9), (47, .iushr, 0, 0, 0), (48, .bipush 10, 0, 0, 10), (50, .irem, 0, 0, 0), (51, .invokevirtual 43, 12, 3, 0), (54, .iinc 5 1, 0, 0, 0), (57, .goto (-32), 25, 0, 0), (60, .iload_n 3, 0, 0, 0), (61, .invokestatic 61, 19, 1, 0), (64, .istore_n 3, 0, 0, 0), (65, .aload_n 0, 0, 0, 0), (66, .getfield 22, 3, 4, 0), (69, .iload 4, 0, 0, 0), (71, .iload_n 3, 0, 0, 0), (72, .bipush 9, 0, 0, 9), (74, .iushr, 0, 0, 0), (75, .bipush 60, 0, 0, 60), (77, .irem, 0, 0, 0), (78, .iastore, 0, 0, 0), (79, .iinc 4 1, 0, 0, 0), (82, .goto (-72), 10, 0, 0), (85, .return_, 0, 0, 0)]
/-- 19 WholePacks$Packs.stirred(I)I -/
noncomputable def k_19 : List (Nat × j_I) := [(0, .iload_n 0, 0, 0, 0), (1, .ldc 65, 0, 0, 1103515245), (3, .imul, 0, 0, 0), (4, .sipush 12345, 0, 0, 12345), (7, .iadd, 0, 0, 0), (8, .ireturn, 0, 0, 0)]
/-- 20 WholePacks$Shelf.<init>()V -/
noncomputable def k_20 : List (Nat × j_I) := [(0, .aload_n 0, 0, 0, 0), (1, .invokespecial 3, 9998, 0, 0), (4, .aload_n 0, 0, 0, 0), (5, .bipush 20, 0, 0, 20), (7, .newarray .int, 0, 0, 0), (9, .putfield 9, 4, 1, 0), (12, .aload_n 0, 0, 0, 0), (13, .bipush 20, 0, 0, 20), (15, .newarray .int, 0, 0, 0), (17, .putfield 15, 4, 2, 0), (20, .aload_n 0, 0, 0, 0), (21, .bipush 20, 0, 0, 20), (23, .newarray .int, 0, 0, 0), (25, .putfield 18, 4, 3, 0), (28, .return_, 0, 0, 0)]
/-- 21 WholePacks$Shelf.become(LWholePacks$Shelf;)V -/
noncomputable def k_21 : List (Nat × j_I) := [(0, .aload_n 0, 0, 0, 0), (1, .aload_n 1, 0, 0, 0), (2, .getfield 21, 4, 0, 0), (5, .putfield 21, 4, 0, 0), (8, .aload_n 1, 0, 0, 0), (9, .getfield 9, 4, 1, 0), (12, .iconst 0, 0, 0, 0), (13, .aload_n 0, 0, 0, 0), (14, .getfield 9, 4, 1, 0), (17, .iconst 0, 0, 0, 0), (18, .bipush 20, 0, 0, 20), (20, .invokestatic 25, 9999, 5, 0), (23, .aload_n 1, 0, 0, 0), (24, .getfield 15, 4, 2, 0), (27, .iconst 0, 0, 0, 0), (28, .aload_n 0, 0, 0, 0), (29, .getfield 15, 4, 2, 0), (32, .iconst 0, 0, 0, 0), (33, .bipush 20, 0, 0, 20), (35, .invokestatic 25, 9999, 5, 0), (38, .aload_n 1, 0, 0, 0), (39, .getfield 18, 4, 3, 0), (42, .iconst 0, 0, 0, 0), (43, .aload_n 0, 0, 0, 0), (44, .getfield 18, 4, 3, 0), (47, .iconst 0, 0, 0, 0), (48, .bipush 20, 0, 0, 20), (50, .invokestatic 25, 9999, 5, 0), (53, .return_, 0, 0, 0)]
/-- 22 WholePacks$Shelf.clear()V -/
noncomputable def k_22 : List (Nat × j_I) := [(0, .aload_n 0, 0, 0, 0), (1, .iconst 0, 0, 0, 0), (2, .putfield 21, 4, 0, 0), (5, .return_, 0, 0, 0)]
/-- 23 WholePacks$Shelf.placeOf(I)I -/
noncomputable def k_23 : List (Nat × j_I) := [(0, .iconst 0, 0, 0, 0), (1, .istore_n 2, 0, 0, 0), (2, .iload_n 2, 0, 0, 0), (3, .aload_n 0, 0, 0, 0), (4, .getfield 21, 4, 0, 0), (7, .if_icmp .ge 21, 28, 0, 0), (10, .aload_n 0, 0, 0, 0), (11, .getfield 9, 4, 1, 0), (14, .iload_n 2, 0, 0, 0), (15, .iaload, 0, 0, 0), (16, .iload_n 1, 0, 0, 0), (17, .if_icmp .ne 5, 22, 0, 0), (20, .iload_n 2, 0, 0, 0), (21, .ireturn, 0, 0, 0), (22, .iinc 2 1, 0, 0, 0), (25, .goto (-23), 2, 0, 0), (28, .iconst (-1), 0, 0, -1), (29, .ireturn, 0, 0, 0)]
/-- 24 WholePacks$Shelf.gainOf(I)I -/
noncomputable def k_24 : List (Nat × j_I) := [(0, .aload_n 0, 0, 0, 0), (1, .getfield 18, 4, 3, 0), (4, .iload_n 1, 0, 0, 0), (5, .iaload, 0, 0, 0), (6, .aload_n 0, 0, 0, 0), (7, .getfield 15, 4, 2, 0), (10, .iload_n 1, 0, 0, 0), (11, .iaload, 0, 0, 0), (12, .isub, 0, 0, 0), (13, .ireturn, 0, 0, 0)]
/-- 25 WholePacks$Shelf.insert(III)V -/
noncomputable def k_25 : List (Nat × j_I) := [(0, .aload_n 0, 0, 0, 0), (1, .getfield 21, 4, 0, 0), (4, .istore 4, 0, 0, 0), (6, .iload 4, 0, 0, 0), (8, .ifCond .le 70, 78, 0, 0), (11, .aload_n 0, 0, 0, 0), (12, .iload_n 1, 0, 0, 0), (13, .iload_n 2, 0, 0, 0), (14, .iload 4, 0, 0, 0), (16, .iconst 1, 0, 0, 1), (17, .isub, 0, 0, 0), (18, .invokevirtual 31, 27, 3, 0), (21, .ifCond .eq 57, 78, 0, 0), (24, .aload_n 0, 0, 0, 0), (25, .getfield 9, 4, 1, 0), (28, .iload 4, 0, 0, 0), (30, .aload_n 0, 0, 0, 0), (31, .getfield 9, 4, 1, 0), (34, .iload 4, 0, 0, 0), (36, .iconst 1, 0, 0, 1), (37, .isub, 0, 0, 0), (38, .iaload, 0, 0, 0), (39, .iastore, 0, 0, 0), (40, .aload_n 0, 0, 0, 0), (41, .getfield 15, 4, 2, 0), (44, .iload 4, 0, 0, 0), (46, .aload_n 0, 0, 0, 0), (47, .getfield 15, 4, 2, 0), (50, .iload 4, 0, 0, 0), (52, .iconst 1, 0, 0, 1), (53, .isub, 0, 0, 0), (54, .iaload, 0, 0, 0), (55, .iastore, 0, 0, 0), (56, .aload_n 0, 0, 0, 0), (57, .getfield 18, 4, 3, 0), (60, .iload 4, 0, 0, 0), (62, .aload_n 0, 0, 0, 0), (63, .getfield 18, 4, 3, 0), (66, .iload 4, 0, 0, 0), (68, .iconst 1, 0, 0, 1), (69, .isub, 0, 0, 0), (70, .iaload, 0, 0, 0), (71, .iastore, 0, 0, 0), (72, .iinc 4 (-1), 0, 0, 0), (75, .goto (-69), 6, 0, 0), (78, .aload_n 0, 0, 0, 0), (79, .getfield 9, 4, 1, 0), (82, .iload 4, 0, 0, 0), (84, .iload_n 1, 0, 0, 0), (85, .iastore, 0, 0, 0), (86, .aload_n 0, 0, 0, 0), (87, .getfield 15, 4, 2, 0), (90, .iload 4, 0, 0, 0), (92, .iload_n 2, 0, 0, 0), (93, .iastore, 0, 0, 0), (94, .aload_n 0, 0, 0, 0), (95, .getfield 18, 4, 3, 0), (98, .iload 4, 0, 0, 0), (100, .iload_n 3, 0, 0, 0), (101, .iastore, 0, 0, 0), (102, .aload_n 0, 0, 0, 0), (103, .dup, 0, 0, 0), (104, .getfield 21, 4, 0, 0), (107, .iconst 1, 0, 0, 1), (108, .iadd, 0, 0, 0), (109, .putfield 21, 4, 0, 0), (112, .return_, 0, 0, 0)]
/-- 27 WholePacks$Shelf.isAhead(III)Z -/
noncomputable def k_27 : List (Nat × j_I) := [(0, .iload_n 2, 0, 0, 0), (1, .aload_n 0, 0, 0, 0), (2, .getfield 15, 4, 2, 0), (5, .iload_n 3, 0, 0, 0), (6, .iaload, 0, 0, 0), (7, .if_icmp .lt 23, 30, 0, 0), (10, .iload_n 2, 0, 0, 0), (11, .aload_n 0, 0, 0, 0), (12, .getfield 15, 4, 2, 0), (15, .iload_n 3, 0, 0, 0), (16, .iaload, 0, 0, 0), (17, .if_icmp .ne 17, 34, 0, 0), (20, .iload_n 1, 0, 0, 0), (21, .aload_n 0, 0, 0, 0), (22, .getfield 9, 4, 1, 0), (25, .iload_n 3, 0, 0, 0), (26, .iaload, 0, 0, 0), (27, .if_icmp .ge 7, 34, 0, 0), (30, .iconst 1, 0, 0, 1), (31, .goto 4, 35, 0, 0), (34, .iconst 0, 0, 0, 0), (35, .ireturn, 0, 0, 0)]
/-- 28 WholePacks$Solution.<init>()V -/
noncomputable def k_28 : List (Nat × j_I) := [(0, .aload_n 0, 0, 0, 0), (1, .invokespecial 3, 9998, 0, 0), (4, .aload_n 0, 0, 0, 0), (5, .new 9, 7, 0, 0), (8, .dup, 0, 0, 0), (9, .invokespecial 11, 37, 0, 0), (12, .putfield 12, 5, 0, 0), (15, .aload_n 0, 0, 0, 0), (16, .new 18, 2, 0, 0), (19, .dup, 0, 0, 0), (20, .invokespecial 20, 0, 0, 0), (23, .putfield 21, 5, 1, 0), (26, .return_, 0, 0, 0)]
/-- 29 WholePacks$Solution.work(LWholePacks$Packs;I)I -/
noncomputable def k_29 : List (Nat × j_I) := [(0, .aload_n 0, 0, 0, 0), (1, .getfield 12, 5, 0, 0), (4, .aload_n 1, 0, 0, 0), (5, .invokevirtual 25, 38, 1, 0), (8, .aload_n 0, 0, 0, 0), (9, .getfield 21, 5, 1, 0), (12, .invokevirtual 29, 1, 0, 0), (15, .aload_n 0, 0, 0, 0), (16, .aload_n 0, 0, 0, 0), (17, .getfield 12, 5, 0, 0), (20, .invokevirtual 32, 45, 0, 0), (23, .putfield 36, 5, 2, 0), (26, .iconst 0, 0, 0, 0), (27, .istore_n 3, 0, 0, 0), (28, .iload_n 3, 0, 0, 0), (29, .iload_n 2, 0, 0, 0), (30, .if_icmp .ge 92, 122, 0, 0), (33, .aload_n 0, 0, 0, 0), (34, .getfield 36, 5, 2, 0), (37, .iconst 3, 0, 0, 3), (38, .if_icmp .ne 84, 122, 0, 0), (41, .aload_n 0, 0, 0, 0), (42, .getfield 12, 5, 0, 0), (45, .invokevirtual 40, 56, 0, 0), (48, .istore 4, 0, 0, 0), (50, .iload 4, 0, 0, 0), (52, .ifCond .ge 6, 58, 0, 0), (55, .goto 67, 122, 0, 0), (58, .aload_n 0, 0, 0, 0), (59, .getfield 21, 5, 1, 0), (62, .aload_n 0, 0, 0, 0), (63, .getfield 12, 5, 0, 0), (66, .iload 4, 0, 0, 0), (68, .aload_n 1, 0, 0, 0), (69, .invokevirtual 43, 4, 3, 0), (72, .ifCond .eq 38, 110, 0, 0), (75, .aload_n 0, 0, 0, 0), (76, .getfield 12, 5, 0, 0), (79, .bipush 20, 0, 0, 20), (81, .aload_n 0, 0, 0, 0), (82, .getfield 21, 5, 1, 0), (85, .getfield 47, 2, 0, 0), (88, .iadd, 0, 0, 0), (89, .iconst 1, 0, 0, 1), (90, .isub, 0, 0, 0), (91, .iload 4, 0, 0, 0), (93, .invokevirtual 50, 42, 2, 0), (96, .aload_n 0, 0, 0, 0), (97, .aload_n 0, 0, 0, 0), (98, .getfield 12, 5, 0, 0), (101, .invokevirtual 32, 45, 0, 0), (104, .putfield 36, 5, 2, 0), (107, .goto 9, 116, 0, 0), (110, .aload_n 0, 0, 0, 0), (111, .bipush (-6), 0, 0, -6), (113, .putfield 36, 5, 2, 0), (116, .iinc 3 1, 0, 0, 0), (119, .goto (-91), 28, 0, 0), (122, .aload_n 0, 0, 0, 0), (123, .getfield 36, 5, 2, 0), (126, .iconst 3, 0, 0, 3), (127, .if_icmp .ne 22, 149, 0, 0), (130, .aload_n 0, 0, 0, 0), (131, .aload_n 0, 0, 0, 0), (132, .getfield 12, 5, 0, 0), (135, .invokevirtual 40, 56, 0, 0), (138, .ifCond .ge 7, 145, 0, 0), (141, .iconst 1, 0, 0, 1), (142, .goto 4, 146, 0, 0), (145, .iconst 2, 0, 0, 2), (146, .putfield 36, 5, 2, 0), (149, .aload_n 0, 0, 0, 0), (150, .getfield 36, 5, 2, 0), (153, .ireturn, 0, 0, 0)]
/-- 30 WholePacks$Solution.worthOf(LWholePacks$Packs;)I -/
noncomputable def k_30 : List (Nat × j_I) := [(0, .aload_n 0, 0, 0, 0), (1, .aload_n 1, 0, 0, 0), (2, .bipush 12, 0, 0, 12), (4, .invokevirtual 54, 29, 2, 0), (7, .istore_n 2, 0, 0, 0), (8, .iload_n 2, 0, 0, 0), (9, .iconst 1, 0, 0, 1), (10, .if_icmp .ne 19, 29, 0, 0), (13, .aload_n 0, 0, 0, 0), (14, .getfield 12, 5, 0, 0), (17, .aload_n 0, 0, 0, 0), (18, .getfield 12, 5, 0, 0), (21, .getfield 58, 7, 3, 0), (24, .invokevirtual 62, 44, 1, 0), (27, .l2i, 0, 0, 0), (28, .ireturn, 0, 0, 0), (29, .iload_n 2, 0, 0, 0), (30, .ifCond .ne 8, 38, 0, 0), (33, .bipush (-5), 0, 0, -5), (35, .goto 5, 40, 0, 0), (38, .bipush (-6), 0, 0, -6), (40, .ireturn, 0, 0, 0)]
/-- 31 WholePacks$State.<init>()V -/
noncomputable def k_31 : List (Nat × j_I) := [(0, .aload_n 0, 0, 0, 0), (1, .invokespecial 3, 9998, 0, 0), (4, .aload_n 0, 0, 0, 0), (5, .new 9, 3, 0, 0), (8, .dup, 0, 0, 0), (9, .invokespecial 11, 7, 0, 0), (12, .putfield 12, 6, 0, 0), (15, .aload_n 0, 0, 0, 0), (16, .new 18, 4, 0, 0), (19, .dup, 0, 0, 0), (20, .invokespecial 20, 20, 0, 0), (23, .putfield 21, 6, 1, 0), (26, .aload_n 0, 0, 0, 0), (27, .bipush 8, 0, 0, 8), (29, .newarray .int, 0, 0, 0), (31, .putfield 25, 6, 2, 0), (34, .aload_n 0, 0, 0, 0), (35, .iconst 1, 0, 0, 1), (36, .putfield 29, 6, 3, 0), (39, .aload_n 0, 0, 0, 0), (40, .iconst 4, 0, 0, 4), (41, .putfield 33, 6, 4, 0), (44, .aload_n 0, 0, 0, 0), (45, .iconst 5, 0, 0, 5), (46, .newarray .int, 0, 0, 0), (48, .putfield 36, 6, 6, 0), (51, .aload_n 0, 0, 0, 0), (52, .iconst 5, 0, 0, 5), (53, .newarray .int, 0, 0, 0), (55, .putfield 39, 6, 7, 0), (58, .aload_n 0, 0, 0, 0), (59, .bipush 8, 0, 0, 8), (61, .newarray .int, 0, 0, 0), (63, .putfield 42, 6, 9, 0), (66, .aload_n 0, 0, 0, 0), (67, .bipush 8, 0, 0, 8), (69, .newarray .int, 0, 0, 0), (71, .putfield 45, 6, 10, 0), (74, .aload_n 0, 0, 0, 0), (75, .bipush 8, 0, 0, 8), (77, .newarray .int, 0, 0, 0), (79, .putfield 48, 6, 11, 0), (82, .return_, 0, 0, 0)]
/-- 32 WholePacks$State.become(LWholePacks$State;)V -/
noncomputable def k_32 : List (Nat × j_I) := [(0, .aload_n 0, 0, 0, 0), (1, .getfield 12, 6, 0, 0), (4, .aload_n 1, 0, 0, 0), (5, .getfield 12, 6, 0, 0), (8, .invokevirtual 51, 8, 1, 0), (11, .aload_n 0, 0, 0, 0), (12, .getfield 21, 6, 1, 0), (15, .aload_n 1, 0, 0, 0), (16, .getfield 21, 6, 1, 0), (19, .invokevirtual 55, 21, 1, 0), (22, .aload_n 1, 0, 0, 0), (23, .getfield 25, 6, 2, 0), (26, .iconst 0, 0, 0, 0), (27, .aload_n 0, 0, 0, 0), (28, .getfield 25, 6, 2, 0), (31, .iconst 0, 0, 0, 0), (32, .bipush 8, 0, 0, 8), (34, .invokestatic 58, 9999, 5, 0), (37, .aload_n 0, 0, 0, 0), (38, .aload_n 1, 0, 0, 0), (39, .getfield 29, 6, 3, 0), (42, .putfield 29, 6, 3, 0), (45, .aload_n 0, 0, 0, 0), (46, .aload_n 1, 0, 0, 0), (47, .getfield 33, 6, 4, 0), (50, .putfield 33, 6, 4, 0), (53, .aload_n 0, 0, 0, 0), (54, .aload_n 1, 0, 0, 0), (55, .getfield 64, 6, 5, 0), (58, .putfield 64, 6, 5, 0), (61, .aload_n 1, 0, 0, 0), (62, .getfield 36, 6, 6, 0), (65, .iconst 0, 0, 0, 0), (66, .aload_n 0, 0, 0, 0), (67, .getfield 36, 6, 6, 0), (70, .iconst 0, 0, 0, 0), (71, .iconst 5, 0, 0, 5), (72, .invokestatic 58, 9999, 5, 0), (75, .aload_n 1, 0, 0, 0), (76, .getfield 39, 6, 7, 0), (79, .iconst 0, 0, 0, 0), (80, .aload_n 0, 0, 0, 0), (81, .getfield 39, 6, 7, 0), (84, .iconst 0, 0, 0, 0), (85, .iconst 5, 0, 0, 5), (86, .invokestatic 58, 9999, 5, 0), (89, .aload_n 0, 0, 0, 0), (90, .aload_n 1, 0, 0, 0), (91, .getfield 67, 6, 8, 0), (94, .putfield 67, 6, 8, 0), (97, .aload_n 1, 0, 0, 0), (98, .getfield 42, 6, 9, 0), (101, .iconst 0, 0, 0, 0), (102, .aload_n 0, 0, 0, 0), (103, .getfield 42, 6, 9, 0), (106, .iconst 0, 0, 0, 0), (107, .bipush 8, 0, 0, 8), (109, .invokestatic 58, 9999, 5, 0), (112, .aload_n 1, 0, 0, 0), (113, .getfield 45, 6, 10, 0), (116, .iconst 0, 0, 0, 0), (117, .aload_n 0, 0, 0, 0), (118, .getfield 45, 6, 10, 0), (121, .iconst 0, 0, 0, 0), (122, .bipush 8, 0, 0, 8), (124, .invokestatic 58, 9999, 5, 0), (127, .aload_n 1, 0, 0, 0), (128, .getfield 48, 6, 11, 0), (131, .iconst 0, 0, 0, 0), (132, .aload_n 0, 0, 0, 0), (133, .getfield 48, 6, 11, 0), (136, .iconst 0, 0, 0, 0), (137, .bipush 8, 0, 0, 8), (139, .invokestatic 58, 9999, 5, 0), (142, .return_, 0, 0, 0)]
/-- 33 WholePacks$State.startAgain(I)V -/
noncomputable def k_33 : List (Nat × j_I) := [(0, .aload_n 0, 0, 0, 0), (1, .getfield 12, 6, 0, 0), (4, .iload_n 1, 0, 0, 0), (5, .invokevirtual 70, 9, 1, 0), (8, .aload_n 0, 0, 0, 0), (9, .getfield 21, 6, 1, 0), (12, .invokevirtual 74, 22, 0, 0), (15, .aload_n 0, 0, 0, 0), (16, .getfield 25, 6, 2, 0), (19, .iconst 0, 0, 0, 0), (20, .invokestatic 77, 270, 2, 0), (23, .aload_n 0, 0, 0, 0), (24, .iconst 1, 0, 0, 1), (25, .putfield 29, 6, 3, 0), (28, .aload_n 0, 0, 0, 0), (29, .iconst 0, 0, 0, 0), (30, .putfield 64, 6, 5, 0), (33, .aload_n 0, 0, 0, 0), (34, .iconst 0, 0, 0, 0), (35, .putfield 67, 6, 8, 0), (38, .return_, 0, 0, 0)]
/-- 34 WholePacks$State.addSeen(II)V -/
noncomputable def k_34 : List (Nat × j_I) := [(0, .aload_n 0, 0, 0, 0), (1, .getfield 36, 6, 6, 0), (4, .aload_n 0, 0, 0, 0), (5, .getfield 64, 6, 5, 0), (8, .iload_n 1, 0, 0, 0), (9, .iastore, 0, 0, 0), (10, .aload_n 0, 0, 0, 0), (11, .getfield 39, 6, 7, 0), (14, .aload_n 0, 0, 0, 0), (15, .getfield 64, 6, 5, 0), (18, .iload_n 2, 0, 0, 0), (19, .iastore, 0, 0, 0), (20, .aload_n 0, 0, 0, 0), (21, .dup, 0, 0, 0), (22, .getfield 64, 6, 5, 0), (25, .iconst 1, 0, 0, 1), (26, .iadd, 0, 0, 0), (27, .putfield 64, 6, 5, 0), (30, .return_, 0, 0, 0)]
/-- 35 WholePacks$State.addPlan(III)V -/
noncomputable def k_35 : List (Nat × j_I) := [(0, .aload_n 0, 0, 0, 0), (1, .getfield 42, 6, 9, 0), (4, .aload_n 0, 0, 0, 0), (5, .getfield 67, 6, 8, 0), (8, .iload_n 1, 0, 0, 0), (9, .iastore, 0, 0, 0), (10, .aload_n 0, 0, 0, 0), (11, .getfield 45, 6, 10, 0), (14, .aload_n 0, 0, 0, 0), (15, .getfield 67, 6, 8, 0), (18, .iload_n 2, 0, 0, 0), (19, .iastore, 0, 0, 0), (20, .aload_n 0, 0, 0, 0), (21, .getfield 48, 6, 11, 0), (24, .aload_n 0, 0, 0, 0), (25, .getfield 67, 6, 8, 0), (28, .iload_n 3, 0, 0, 0), (29, .iastore, 0, 0, 0), (30, .aload_n 0, 0, 0, 0), (31, .dup, 0, 0, 0), (32, .getfield 67, 6, 8, 0), (35, .iconst 1, 0, 0, 1), (36, .iadd, 0, 0, 0), (37, .putfield 67, 6, 8, 0), (40, .return_, 0, 0, 0)]
/-- 37 WholePacks$Table.<init>()V -/
noncomputable def k_37 : List (Nat × j_I) := [(0, .aload_n 0, 0, 0, 0), (1, .invokespecial 3, 9998, 0, 0), (4, .aload_n 0, 0, 0, 0), (5, .iconst 1, 0, 0, 1), (6, .putfield 9, 7, 1, 0), (9, .aload_n 0, 0, 0, 0), (10, .lconst 1, 0, 0, 1), (11, .putfield 15, 7, 4, 0), (14, .aload_n 0, 0, 0, 0), (15, .bipush 20, 0, 0, 20), (17, .newarray .int, 0, 0, 0), (19, .putfield 19, 7, 5, 0), (22, .aload_n 0, 0, 0, 0), (23, .iconst 5, 0, 0, 5), (24, .newarray .int, 0, 0, 0), (26, .putfield 23, 7, 6, 0), (29, .aload_n 0, 0, 0, 0), (30, .bipush 100, 0, 0, 100), (32, .newarray .long, 0, 0, 0), (34, .putfield 26, 7, 7, 0), (37, .aload_n 0, 0, 0, 0), (38, .bipush 20, 0, 0, 20), (40, .newarray .long, 0, 0, 0), (42, .putfield 30, 7, 8, 0), (45, .aload_n 0, 0, 0, 0), (46, .iconst 5, 0, 0, 5), (47, .newarray .long, 0, 0, 0), (49, .putfield 33, 7, 9, 0), (52, .aload_n 0, 0, 0, 0), (53, .bipush 100, 0, 0, 100), (55, .newarray .long, 0, 0, 0), (57, .putfield 36, 7, 10, 0), (60, .aload_n 0, 0, 0, 0), (61, .bipush 20, 0, 0, 20), (63, .newarray .long, 0, 0, 0), (65, .putfield 39, 7, 11, 0), (68, .aload_n 0, 0, 0, 0), (69, .iconst 5, 0, 0, 5), (70, .newarray .long, 0, 0, 0), (72, .putfield 42, 7, 12, 0), (75, .return_, 0, 0, 0)]
/-- 38 WholePacks$Table.start(LWholePacks$Packs;)V -/
noncomputable def k_38 : List (Nat × j_I) := [(0, .aload_n 0, 0, 0, 0), (1, .iconst 0, 0, 0, 0), (2, .putfield 45, 7, 0, 0), (5, .aload_n 0, 0, 0, 0), (6, .aload_n 1, 0, 0, 0), (7, .getfield 48, 3, 0, 0), (10, .putfield 9, 7, 1, 0), (13, .aload_n 0, 0, 0, 0), (14, .iconst 0, 0, 0, 0), (15, .putfield 53, 7, 2, 0), (18, .aload_n 0, 0, 0, 0), (19, .lconst 0, 0, 0, 0), (20, .putfield 56, 7, 3, 0), (23, .aload_n 0, 0, 0, 0), (24, .lconst 1, 0, 0, 1), (25, .putfield 15, 7, 4, 0), (28, .iconst 0, 0, 0, 0), (29, .istore_n 2, 0, 0, 0), (30, .iload_n 2, 0, 0, 0), (31, .aload_n 0, 0, 0, 0), (32, .getfield 9, 7, 1, 0), (35, .if_icmp .ge 29, 64, 0, 0), (38, .aload_n 0, 0, 0, 0), (39, .getfield 23, 7, 6, 0), (42, .iload_n 2, 0, 0, 0), (43, .iload_n 2, 0, 0, 0), (44, .iastore, 0, 0, 0), (45, .aload_n 0, 0, 0, 0), (46, .getfield 33, 7, 9, 0), (49, .iload_n 2, 0, 0, 0), (50, .aload_n 1, 0, 0, 0), (51, .getfield 59, 3, 2, 0), (54, .iload_n 2, 0, 0, 0), (55, .iaload, 0, 0, 0), (56, .i2l, 0, 0, 0), (57, .lastore, 0, 0, 0), (58, .iinc 2 1, 0, 0, 0), (61, .goto (-31), 30, 0, 0), (64, .iconst 0, 0, 0, 0), (65, .istore_n 2, 0, 0, 0), (66, .iload_n 2, 0, 0, 0), (67, .aload_n 1, 0, 0, 0), (68, .getfield 62, 3, 1, 0), (71, .if_icmp .ge 65, 136, 0, 0), (74, .aload_n 0, 0, 0, 0), (75, .bipush 10, 0, 0, 10), (77, .iload_n 2, 0, 0, 0), (78, .iadd, 0, 0, 0), (79, .aload_n 1, 0, 0, 0), (80, .iload_n 2, 0, 0, 0), (81, .aload_n 0, 0, 0, 0), (82, .getfield 9, 7, 1, 0), (85, .invokevirtual 65, 13, 2, 0), (88, .i2l, 0, 0, 0), (89, .invokevirtual 69, 39, 2, 0), (92, .istore_n 3, 0, 0, 0), (93, .iconst 0, 0, 0, 0), (94, .istore 4, 0, 0, 0), (96, .iload 4, 0, 0, 0), (98, .aload_n 0, 0, 0, 0), (99, .getfield 9, 7, 1, 0), (102, .if_icmp .ge 28, 130, 0, 0), (105, .aload_n 0, 0, 0, 0), (106, .getfield 26, 7, 7, 0), (109, .iload_n 3, 0, 0, 0), (110, .iconst 5, 0, 0, 5), (111, .imul, 0, 0, 0), (112, .iload 4, 0, 0, 0), (114, .iadd, 0, 0, 0), (115, .aload_n 1, 0, 0, 0), (116, .iload_n 2, 0, 0, 0), (117, .iload 4, 0, 0, 0), (119, .invokevirtual 65, 13, 2, 0), (122, .i2l, 0, 0, 0), (123, .lastore, 0, 0, 0), (124, .iinc 4 1, 0, 0, 0), (127, .goto (-31), 96, 0, 0), (130, .iinc 2 1, 0, 0, 0), (133, .goto (-67), 66, 0, 0), (136, .return_, 0, 0, 0)]
/-- 39 WholePacks$Table.addRow(IJ)I -/
noncomputable def k_39 : List (Nat × j_I) := [(0, .aload_n 0, 0, 0, 0), (1, .getfield 45, 7, 0, 0), (4, .istore 4, 0, 0, 0), (6, .aload_n 0, 0, 0, 0), (7, .getfield 19, 7, 5, 0), (10, .iload 4, 0, 0, 0), (12, .iload_n 1, 0, 0, 0), (13, .iastore, 0, 0, 0), (14, .aload_n 0, 0, 0, 0), (15, .getfield 30, 7, 8, 0), (18, .iload 4, 0, 0, 0), (20, .lload_n 2, 0, 0, 0), (21, .lastore, 0, 0, 0), (22, .iconst 0, 0, 0, 0), (23, .istore 5, 0, 0, 0), (25, .iload 5, 0, 0, 0), (27, .iconst 5, 0, 0, 5), (28, .if_icmp .ge 22, 50, 0, 0), (31, .aload_n 0, 0, 0, 0), (32, .getfield 26, 7, 7, 0), (35, .iload 4, 0, 0, 0), (37, .iconst 5, 0, 0, 5), (38, .imul, 0, 0, 0), (39, .iload 5, 0, 0, 0), (41, .iadd, 0, 0, 0), (42, .lconst 0, 0, 0, 0), (43, .lastore, 0, 0, 0), (44, .iinc 5 1, 0, 0, 0), (47, .goto (-22), 25, 0, 0), (50, .aload_n 0, 0, 0, 0), (51, .dup, 0, 0, 0), (52, .getfield 45, 7, 0, 0), (55, .iconst 1, 0, 0, 1), (56, .iadd, 0, 0, 0), (57, .putfield 45, 7, 0, 0), (60, .iload 4, 0, 0, 0), (62, .ireturn, 0, 0, 0)]
/-- 42 WholePacks$Table.addCut(II)V -/
noncomputable def k_42 : List (Nat × j_I) := [(0, .aload_n 0, 0, 0, 0), (1, .iload_n 1, 0, 0, 0), (2, .aload_n 0, 0, 0, 0), (3, .aload_n 0, 0, 0, 0), (4, .getfield 30, 7, 8, 0), (7, .iload_n 2, 0, 0, 0), (8, .laload, 0, 0, 0), (9, .invokevirtual 75, 43, 1, 0), (12, .lneg, 0, 0, 0), (13, .invokevirtual 69, 39, 2, 0), (16, .istore_n 3, 0, 0, 0), (17, .iconst 0, 0, 0, 0), (18, .istore 4, 0, 0, 0), (20, .iload 4, 0, 0, 0), (22, .aload_n 0, 0, 0, 0), (23, .getfield 9, 7, 1, 0), (26, .if_icmp .ge 36, 62, 0, 0), (29, .aload_n 0, 0, 0, 0), (30, .getfield 26, 7, 7, 0), (33, .iload_n 3, 0, 0, 0), (34, .iconst 5, 0, 0, 5), (35, .imul, 0, 0, 0), (36, .iload 4, 0, 0, 0), (38, .iadd, 0, 0, 0), (39, .aload_n 0, 0, 0, 0), (40, .aload_n 0, 0, 0, 0), (41, .getfield 26, 7, 7, 0), (44, .iload_n 2, 0, 0, 0), (45, .iconst 5, 0, 0, 5), (46, .imul, 0, 0, 0), (47, .iload 4, 0, 0, 0), (49, .iadd, 0, 0, 0), (50, .laload, 0, 0, 0), (51, .invokevirtual 75, 43, 1, 0), (54, .lneg, 0, 0, 0), (55, .lastore, 0, 0, 0), (56, .iinc 4 1, 0, 0, 0), (59, .goto (-39), 20, 0, 0), (62, .return_, 0, 0, 0)]
/-- 43 WholePacks$Table.restOf(J)J -/
noncomputable def k_43 : List (Nat × j_I) := [(0, .aload_n 0, 0, 0, 0), (1, .getfield 15, 7, 4, 0), (4, .lconst 0, 0, 0, 0), (5, .lcmp, 0, 0, 0), (6, .ifCond .le 14, 20, 0, 0), (9, .lload_n 1, 0, 0, 0), (10, .aload_n 0, 0, 0, 0), (11, .getfield 15, 7, 4, 0), (14, .invokestatic 79, 266, 2, 0), (17, .goto 4, 21, 0, 0), (20, .lconst 0, 0, 0, 0), (21, .lreturn, 0, 0, 0)]
/-- 44 WholePacks$Table.wholeOf(J)J -/
noncomputable def k_44 : List (Nat × j_I) := [(0, .aload_n 0, 0, 0, 0), (1, .getfield 15, 7, 4, 0), (4, .lconst 0, 0, 0, 0), (5, .lcmp, 0, 0, 0), (6, .ifCond .le 14, 20, 0, 0), (9, .lload_n 1, 0, 0, 0), (10, .aload_n 0, 0, 0, 0), (11, .getfield 15, 7, 4, 0), (14, .invokestatic 85, 265, 2, 0), (17, .goto 4, 21, 0, 0), (20, .lconst 0, 0, 0, 0), (21, .lreturn, 0, 0, 0)]
/-- 45 WholePacks$Table.repair()I -/
noncomputable def k_45 : List (Nat × j_I) := [(0, .iconst 0, 0, 0, 0), (1, .istore_n 1, 0, 0, 0), (2, .iload_n 1, 0, 0, 0), (3, .bipush 60, 0, 0, 60), (5, .if_icmp .gt 53, 58, 0, 0), (8, .aload_n 0, 0, 0, 0), (9, .invokevirtual 88, 46, 0, 0), (12, .istore_n 2, 0, 0, 0), (13, .iload_n 2, 0, 0, 0), (14, .ifCond .ge 5, 19, 0, 0), (17, .iconst 3, 0, 0, 3), (18, .ireturn, 0, 0, 0), (19, .aload_n 0, 0, 0, 0), (20, .iload_n 2, 0, 0, 0), (21, .invokevirtual 92, 47, 1, 0), (24, .istore_n 3, 0, 0, 0), (25, .iload_n 3, 0, 0, 0), (26, .ifCond .ge 5, 31, 0, 0), (29, .iconst 0, 0, 0, 0), (30, .ireturn, 0, 0, 0), (31, .aload_n 0, 0, 0, 0), (32, .getfield 53, 7, 2, 0), (35, .bipush 60, 0, 0, 60), (37, .if_icmp .ge 12, 49, 0, 0), (40, .aload_n 0, 0, 0, 0), (41, .iload_n 2, 0, 0, 0), (42, .iload_n 3, 0, 0, 0), (43, .invokevirtual 96, 49, 2, 0), (46, .ifCond .ne 6, 52, 0, 0), (49, .bipush (-6), 0, 0, -6), (51, .ireturn, 0, 0, 0), (52, .iinc 1 1, 0, 0, 0), (55, .goto (-53), 2, 0, 0), (58, .bipush (-6), 0, 0, -6), (60, .ireturn, 0, 0, 0)]
/-- 46 WholePacks$Table.lowestRow()I -/
noncomputable def k_46 : List (Nat × j_I) := [(0, .iconst (-1), 0, 0, -1), (1, .istore_n 1, 0, 0, 0), (2, .iconst 0, 0, 0, 0), (3, .istore_n 2, 0, 0, 0), (4, .iload_n 2, 0, 0, 0), (5, .aload_n 0, 0, 0, 0), (6, .getfield 45, 7, 0, 0), (9, .if_icmp .ge 42, 51, 0, 0), (12, .aload_n 0, 0, 0, 0), (13, .getfield 30, 7, 8, 0), (16, .iload_n 2, 0, 0, 0), (17, .laload, 0, 0, 0), (18, .lconst 0, 0, 0, 0), (19, .lcmp, 0, 0, 0), (20, .ifCond .ge 25, 45, 0, 0), (23, .iload_n 1, 0, 0, 0), (24, .ifCond .lt 19, 43, 0, 0), (27, .aload_n 0, 0, 0, 0), (28, .getfield 30, 7, 8, 0), (31, .iload_n 2, 0, 0, 0), (32, .laload, 0, 0, 0), (33, .aload_n 0, 0, 0, 0), (34, .getfield 30, 7, 8, 0), (37, .iload_n 1, 0, 0, 0), (38, .laload, 0, 0, 0), (39, .lcmp, 0, 0, 0), (40, .ifCond .ge 5, 45, 0, 0), (43, .iload_n 2, 0, 0, 0), (44, .istore_n 1, 0, 0, 0), (45, .iinc 2 1, 0, 0, 0), (48, .goto (-44), 4, 0, 0), (51, .iload_n 1, 0, 0, 0), (52, .ireturn, 0, 0, 0)]
/-- 47 WholePacks$Table.nearestColumn(I)I -/
noncomputable def k_47 : List (Nat × j_I) := [(0, .iconst (-1), 0, 0, -1), (1, .istore_n 2, 0, 0, 0), (2, .iconst 0, 0, 0, 0), (3, .istore_n 3, 0, 0, 0), (4, .iload_n 3, 0, 0, 0), (5, .aload_n 0, 0, 0, 0), (6, .getfield 9, 7, 1, 0), (9, .if_icmp .ge 43, 52, 0, 0), (12, .aload_n 0, 0, 0, 0), (13, .getfield 26, 7, 7, 0), (16, .iload_n 1, 0, 0, 0), (17, .iconst 5, 0, 0, 5), (18, .imul, 0, 0, 0), (19, .iload_n 3, 0, 0, 0), (20, .iadd, 0, 0, 0), (21, .laload, 0, 0, 0), (22, .lconst 0, 0, 0, 0), (23, .lcmp, 0, 0, 0), (24, .ifCond .lt 6, 30, 0, 0), (27, .goto 19, 46, 0, 0), (30, .iload_n 2, 0, 0, 0), (31, .ifCond .lt 13, 44, 0, 0), (34, .aload_n 0, 0, 0, 0), (35, .iload_n 1, 0, 0, 0), (36, .iload_n 3, 0, 0, 0), (37, .iload_n 2, 0, 0, 0), (38, .invokevirtual 100, 48, 3, 0), (41, .ifCond .eq 5, 46, 0, 0), (44, .iload_n 3, 0, 0, 0), (45, .istore_n 2, 0, 0, 0), (46, .iinc 3 1, 0, 0, 0), (49, .goto (-45), 4, 0, 0), (52, .iload_n 2, 0, 0, 0), (53, .ireturn, 0, 0, 0)]
/-- 48 WholePacks$Table.isNearer(III)Z -/
noncomputable def k_48 : List (Nat × j_I) := [(0, .aload_n 0, 0, 0, 0), (1, .getfield 33, 7, 9, 0), (4, .iload_n 2, 0, 0, 0), (5, .laload, 0, 0, 0), (6, .aload_n 0, 0, 0, 0), (7, .getfield 26, 7, 7, 0), (10, .iload_n 1, 0, 0, 0), (11, .iconst 5, 0, 0, 5), (12, .imul, 0, 0, 0), (13, .iload_n 3, 0, 0, 0), (14, .iadd, 0, 0, 0), (15, .laload, 0, 0, 0), (16, .lneg, 0, 0, 0), (17, .lmul, 0, 0, 0), (18, .lstore 4, 0, 0, 0), (20, .aload_n 0, 0, 0, 0), (21, .getfield 33, 7, 9, 0), (24, .iload_n 3, 0, 0, 0), (25, .laload, 0, 0, 0), (26, .aload_n 0, 0, 0, 0), (27, .getfield 26, 7, 7, 0), (30, .iload_n 1, 0, 0, 0), (31, .iconst 5, 0, 0, 5), (32, .imul, 0, 0, 0), (33, .iload_n 2, 0, 0, 0), (34, .iadd, 0, 0, 0), (35, .laload, 0, 0, 0), (36, .lneg, 0, 0, 0), (37, .lmul, 0, 0, 0), (38, .lstore 6, 0, 0, 0), (40, .lload 4, 0, 0, 0), (42, .lload 6, 0, 0, 0), (44, .lcmp, 0, 0, 0), (45, .ifCond .lt 26, 71, 0, 0), (48, .lload 4, 0, 0, 0), (50, .lload 6, 0, 0, 0), (52, .lcmp, 0, 0, 0), (53, .ifCond .ne 22, 75, 0, 0), (56, .aload_n 0, 0, 0, 0), (57, .getfield 23, 7, 6, 0), (60, .iload_n 2, 0, 0, 0), (61, .iaload, 0, 0, 0), (62, .aload_n 0, 0, 0, 0), (63, .getfield 23, 7, 6, 0), (66, .iload_n 3, 0, 0, 0), (67, .iaload, 0, 0, 0), (68, .if_icmp .ge 7, 75, 0, 0), (71, .iconst 1, 0, 0, 1), (72, .goto 4, 76, 0, 0), (75, .iconst 0, 0, 0, 0), (76, .ireturn, 0, 0, 0)]
/-- 49 WholePacks$Table.pivot(II)Z -/
noncomputable def k_49 : List (Nat × j_I) := [(0, .iconst 0, 0, 0, 0), (1, .istore_n 3, 0, 0, 0), (2, .iload_n 3, 0, 0, 0), (3, .aload_n 0, 0, 0, 0), (4, .getfield 45, 7, 0, 0), (7, .if_icmp .ge 21, 28, 0, 0), (10, .aload_n 0, 0, 0, 0), (11, .iload_n 3, 0, 0, 0), (12, .iload_n 1, 0, 0, 0), (13, .iload_n 2, 0, 0, 0), (14, .invokevirtual 104, 50, 3, 0), (17, .ifCond .ne 5, 22, 0, 0), (20, .iconst 0, 0, 0, 0), (21, .ireturn, 0, 0, 0), (22, .iinc 3 1, 0, 0, 0), (25, .goto (-23), 2, 0, 0), (28, .iconst 0, 0, 0, 0), (29, .istore_n 3, 0, 0, 0), (30, .iload_n 3, 0, 0, 0), (31, .aload_n 0, 0, 0, 0), (32, .getfield 9, 7, 1, 0), (35, .if_icmp .ge 71, 106, 0, 0), (38, .aload_n 0, 0, 0, 0), (39, .getfield 42, 7, 12, 0), (42, .iload_n 3, 0, 0, 0), (43, .iload_n 3, 0, 0, 0), (44, .iload_n 2, 0, 0, 0), (45, .if_icmp .ne 12, 57, 0, 0), (48, .aload_n 0, 0, 0, 0), (49, .getfield 33, 7, 9, 0), (52, .iload_n 2, 0, 0, 0), (53, .laload, 0, 0, 0), (54, .goto 31, 85, 0, 0), (57, .aload_n 0, 0, 0, 0), (58, .aload_n 0, 0, 0, 0), (59, .getfield 33, 7, 9, 0), (62, .iload_n 3, 0, 0, 0), (63, .laload, 0, 0, 0), (64, .aload_n 0, 0, 0, 0), (65, .getfield 33, 7, 9, 0), (68, .iload_n 2, 0, 0, 0), (69, .laload, 0, 0, 0), (70, .aload_n 0, 0, 0, 0), (71, .getfield 26, 7, 7, 0), (74, .iload_n 1, 0, 0, 0), (75, .iconst 5, 0, 0, 5), (76, .imul, 0, 0, 0), (77, .iload_n 3, 0, 0, 0), (78, .iadd, 0, 0, 0), (79, .laload, 0, 0, 0), (80, .iload_n 1, 0, 0, 0), (81, .iload_n 2, 0, 0, 0), (82, .invokevirtual 107, 51, 5, 0), (85, .lastore, 0, 0, 0), (86, .aload_n 0, 0, 0, 0), (87, .getfield 42, 7, 12, 0), (90, .iload_n 3, 0, 0, 0), (91, .laload, 0, 0, 0), (92, .invokestatic 111, 144, 1, 0), (95, .ifCond .ne 5, 100, 0, 0), (98, .iconst 0, 0, 0, 0), (99, .ireturn, 0, 0, 0), (100, .iinc 3 1, 0, 0, 0), (103, .goto (-73), 30, 0, 0), (106, .aload_n 0, 0, 0, 0), (107, .aload_n 0, 0, 0, 0), (108, .getfield 56, 7, 3, 0), (111, .aload_n 0, 0, 0, 0), (112, .getfield 33, 7, 9, 0), (115, .iload_n 2, 0, 0, 0), (116, .laload, 0, 0, 0), (117, .lneg, 0, 0, 0), (118, .aload_n 0, 0, 0, 0), (119, .getfield 30, 7, 8, 0), (122, .iload_n 1, 0, 0, 0), (123, .laload, 0, 0, 0), (124, .iload_n 1, 0, 0, 0), (125, .iload_n 2, 0, 0, 0), (126, .invokevirtual 107, 51, 5, 0), (129, .lstore_n 3, 0, 0, 0), (130, .lload_n 3, 0, 0, 0), (131, .invokestatic 111, 144, 1, 0), (134, .ifCond .ne 5, 139, 0, 0), (137, .iconst 0, 0, 0, 0), (138, .ireturn, 0, 0, 0), (139, .aload_n 0, 0, 0, 0), (140, .lload_n 3, 0, 0, 0), (141, .putfield 56, 7, 3, 0), (144, .aload_n 0, 0, 0, 0), (145, .aload_n 0, 0, 0, 0), (146, .getfield 26, 7, 7, 0), (149, .iload_n 1, 0, 0, 0), (150, .iconst 5, 0, 0, 5), (151, .imul, 0, 0, 0), (152, .iload_n 2, 0, 0, 0), (153, .iadd, 0, 0, 0), (154, .laload, 0, 0, 0), (155, .lneg, 0, 0, 0), (156, .putfield 15, 7, 4, 0), (159, .aload_n 0, 0, 0, 0), (160, .getfield 36, 7, 10, 0), (163, .iconst 0, 0, 0, 0), (164, .aload_n 0, 0, 0, 0), (165, .getfield 26, 7, 7, 0), (168, .iconst 0, 0, 0, 0), (169, .aload_n 0, 0, 0, 0), (170, .getfield 45, 7, 0, 0), (173, .iconst 5, 0, 0, 5), (174, .imul, 0, 0, 0), (175, .invokestatic 115, 9999, 5, 0), (178, .aload_n 0, 0, 0, 0), (179, .getfield 39, 7, 11, 0), (182, .iconst 0, 0, 0, 0), (183, .aload_n 0, 0, 0, 0), (184, .getfield 30, 7, 8, 0), (187, .iconst 0, 0, 0, 0), (188, .aload_n 0, 0, 0, 0), (189, .getfield 45, 7, 0, 0), (192, .invokestatic 115, 9999, 5, 0), (195, .aload_n 0, 0, 0, 0), (196, .getfield 42, 7, 12, 0), (199, .iconst 0, 0, 0, 0), (200, .aload_n 0, 0, 0, 0), (201, .getfield 33, 7, 9, 0), (204, .iconst 0, 0, 0, 0), (205, .aload_n 0, 0, 0, 0), (206, .getfield 9, 7, 1, 0), (209, .invokestatic 115, 9999, 5, 0), (212, .aload_n 0, 0, 0, 0), (213, .getfield 19, 7, 5, 0), (216, .iload_n 1, 0, 0, 0), (217, .iaload, 0, 0, 0), (218, .istore 5, 0, 0, 0), (220, .aload_n 0, 0, 0, 0), (221, .getfield 19, 7, 5, 0), (224, .iload_n 1, 0, 0, 0), (225, .aload_n 0, 0, 0, 0), (226, .getfield 23, 7, 6, 0), (229, .iload_n 2, 0, 0, 0), (230, .iaload, 0, 0, 0), (231, .iastore, 0, 0, 0), (232, .aload_n 0, 0, 0, 0), (233, .getfield 23, 7, 6, 0), (236, .iload_n 2, 0, 0, 0), (237, .iload 5, 0, 0, 0), (239, .iastore, 0, 0, 0), (240, .aload_n 0, 0, 0, 0), (241, .dup, 0, 0, 0), (242, .getfield 53, 7, 2, 0), (245, .iconst 1, 0, 0, 1), (246, .iadd, 0, 0, 0), (247, .putfield 53, 7, 2, 0), (250, .iconst 1, 0, 0, 1), (251, .ireturn, 0, 0, 0)]
/-- 50 WholePacks$Table.freshenRow(III)Z -/
noncomputable def k_50 : List (Nat × j_I) := [(0, .aload_n 0, 0, 0, 0), (1, .getfield 26, 7, 7, 0), (4, .iload_n 1, 0, 0, 0), (5, .iconst 5, 0, 0, 5), (6, .imul, 0, 0, 0), (7, .iload_n 3, 0, 0, 0), (8, .iadd, 0, 0, 0), (9, .laload, 0, 0, 0), (10, .lstore 4, 0, 0, 0), (12, .iconst 0, 0, 0, 0), (13, .istore 6, 0, 0, 0), (15, .iload 6, 0, 0, 0), (17, .aload_n 0, 0, 0, 0), (18, .getfield 9, 7, 1, 0), (21, .if_icmp .ge 108, 129, 0, 0), (24, .aload_n 0, 0, 0, 0), (25, .getfield 26, 7, 7, 0), (28, .iload_n 1, 0, 0, 0), (29, .iconst 5, 0, 0, 5), (30, .imul, 0, 0, 0), (31, .iload 6, 0, 0, 0), (33, .iadd, 0, 0, 0), (34, .laload, 0, 0, 0), (35, .lstore 7, 0, 0, 0), (37, .iload_n 1, 0, 0, 0), (38, .iload_n 2, 0, 0, 0), (39, .if_icmp .ne 25, 64, 0, 0), (42, .iload 6, 0, 0, 0), (44, .iload_n 3, 0, 0, 0), (45, .if_icmp .ne 11, 56, 0, 0), (48, .aload_n 0, 0, 0, 0), (49, .getfield 15, 7, 4, 0), (52, .lneg, 0, 0, 0), (53, .goto 6, 59, 0, 0), (56, .lload 7, 0, 0, 0), (58, .lneg, 0, 0, 0), (59, .lstore 9, 0, 0, 0), (61, .goto 39, 100, 0, 0), (64, .iload 6, 0, 0, 0), (66, .iload_n 3, 0, 0, 0), (67, .if_icmp .ne 10, 77, 0, 0), (70, .lload 7, 0, 0, 0), (72, .lstore 9, 0, 0, 0), (74, .goto 26, 100, 0, 0), (77, .aload_n 0, 0, 0, 0), (78, .lload 7, 0, 0, 0), (80, .lload 4, 0, 0, 0), (82, .aload_n 0, 0, 0, 0), (83, .getfield 26, 7, 7, 0), (86, .iload_n 2, 0, 0, 0), (87, .iconst 5, 0, 0, 5), (88, .imul, 0, 0, 0), (89, .iload 6, 0, 0, 0), (91, .iadd, 0, 0, 0), (92, .laload, 0, 0, 0), (93, .iload_n 2, 0, 0, 0), (94, .iload_n 3, 0, 0, 0), (95, .invokevirtual 107, 51, 5, 0), (98, .lstore 9, 0, 0, 0), (100, .lload 9, 0, 0, 0), (102, .invokestatic 111, 144, 1, 0), (105, .ifCond .ne 5, 110, 0, 0), (108, .iconst 0, 0, 0, 0), (109, .ireturn, 0, 0, 0), (110, .aload_n 0, 0, 0, 0), (111, .getfield 36, 7, 10, 0), (114, .iload_n 1, 0, 0, 0), (115, .iconst 5, 0, 0, 5), (116, .imul, 0, 0, 0), (117, .iload 6, 0, 0, 0), (119, .iadd, 0, 0, 0), (120, .lload 9, 0, 0, 0), (122, .lastore, 0, 0, 0), (123, .iinc 6 1, 0, 0, 0), (126, .goto (-111), 15, 0, 0), (129, .aload_n 0, 0, 0, 0), (130, .getfield 39, 7, 11, 0), (133, .iload_n 1, 0, 0, 0), (134, .iload_n 1, 0, 0, 0), (135, .iload_n 2, 0, 0, 0), (136, .if_icmp .ne 13, 149, 0, 0), (139, .aload_n 0, 0, 0, 0), (140, .getfield 30, 7, 8, 0), (143, .iload_n 2, 0, 0, 0), (144, .laload, 0, 0, 0), (145, .lneg, 0, 0, 0), (146, .goto 23, 169, 0, 0), (149, .aload_n 0, 0, 0, 0), (150, .aload_n 0, 0, 0, 0), (151, .getfield 30, 7, 8, 0), (154, .iload_n 1, 0, 0, 0), (155, .laload, 0, 0, 0), (156, .lload 4, 0, 0, 0), (158, .aload_n 0, 0, 0, 0), (159, .getfield 30, 7, 8, 0), (162, .iload_n 2, 0, 0, 0), (163, .laload, 0, 0, 0), (164, .iload_n 2, 0, 0, 0), (165, .iload_n 3, 0, 0, 0), (166, .invokevirtual 107, 51, 5, 0), (169, .lastore, 0, 0, 0), (170, .aload_n 0, 0, 0, 0), (171, .getfield 39, 7, 11, 0), (174, .iload_n 1, 0, 0, 0), (175, .laload, 0, 0, 0), (176, .invokestatic 111, 144, 1, 0), (179, .ireturn, 0, 0, 0)]
/-- 51 WholePacks$Table.mixed(JJJII)J -/
noncomputable def k_51 : List (Nat × j_I) := [(0, .aload_n 0, 0, 0, 0), (1, .getfield 26, 7, 7, 0), (4, .iload 7, 0, 0, 0), (6, .iconst 5, 0, 0, 5), (7, .imul, 0, 0, 0), (8, .iload 8, 0, 0, 0), (10, .iadd, 0, 0, 0), (11, .laload, 0, 0, 0), (12, .lneg, 0, 0, 0), (13, .lload_n 1, 0, 0, 0), (14, .lmul, 0, 0, 0), (15, .lload_n 3, 0, 0, 0), (16, .lload 5, 0, 0, 0), (18, .lmul, 0, 0, 0), (19, .ladd, 0, 0, 0), (20, .lstore 9, 0, 0, 0), (22, .aload_n 0, 0, 0, 0), (23, .getfield 15, 7, 4, 0), (26, .lconst 0, 0, 0, 0), (27, .lcmp, 0, 0, 0), (28, .ifCond .le 13, 41, 0, 0), (31, .lload 9, 0, 0, 0), (33, .aload_n 0, 0, 0, 0), (34, .getfield 15, 7, 4, 0), (37, .ldiv, 0, 0, 0), (38, .goto 4, 42, 0, 0), (41, .lconst 0, 0, 0, 0), (42, .lreturn, 0, 0, 0)]
/-- 52 WholePacks$Table.rowOf(I)I -/
noncomputable def k_52 : List (Nat × j_I) := [(0, .iconst 0, 0, 0, 0), (1, .istore_n 2, 0, 0, 0), (2, .iload_n 2, 0, 0, 0), (3, .aload_n 0, 0, 0, 0), (4, .getfield 45, 7, 0, 0), (7, .if_icmp .ge 21, 28, 0, 0), (10, .aload_n 0, 0, 0, 0), (11, .getfield 19, 7, 5, 0), (14, .iload_n 2, 0, 0, 0), (15, .iaload, 0, 0, 0), (16, .iload_n 1, 0, 0, 0), (17, .if_icmp .ne 5, 22, 0, 0), (20, .iload_n 2, 0, 0, 0), (21, .ireturn, 0, 0, 0), (22, .iinc 2 1, 0, 0, 0), (25, .goto (-23), 2, 0, 0), (28, .iconst (-1), 0, 0, -1), (29, .ireturn, 0, 0, 0)]
/-- 53 WholePacks$Table.rightOf(I)J -/
noncomputable def k_53 : List (Nat × j_I) := [(0, .aload_n 0, 0, 0, 0), (1, .iload_n 1, 0, 0, 0), (2, .invokevirtual 121, 52, 1, 0), (5, .istore_n 2, 0, 0, 0), (6, .iload_n 2, 0, 0, 0), (7, .ifCond .ge 7, 14, 0, 0), (10, .lconst 0, 0, 0, 0), (11, .goto 9, 20, 0, 0), (14, .aload_n 0, 0, 0, 0), (15, .getfield 30, 7, 8, 0), (18, .iload_n 2, 0, 0, 0), (19, .laload, 0, 0, 0), (20, .lreturn, 0, 0, 0)]
/-- 54 WholePacks$Table.floorOf(I)J -/
noncomputable def k_54 : List (Nat × j_I) := [(0, .aload_n 0, 0, 0, 0), (1, .aload_n 0, 0, 0, 0), (2, .iload_n 1, 0, 0, 0), (3, .invokevirtual 124, 53, 1, 0), (6, .invokevirtual 128, 44, 1, 0), (9, .lreturn, 0, 0, 0)]
/-- 56 WholePacks$Table.partedRow()I -/
noncomputable def k_56 : List (Nat × j_I) := [(0, .iconst 0, 0, 0, 0), (1, .istore_n 1, 0, 0, 0), (2, .iload_n 1, 0, 0, 0), (3, .aload_n 0, 0, 0, 0), (4, .getfield 45, 7, 0, 0), (7, .if_icmp .ge 37, 44, 0, 0), (10, .aload_n 0, 0, 0, 0), (11, .getfield 19, 7, 5, 0), (14, .iload_n 1, 0, 0, 0), (15, .iaload, 0, 0, 0), (16, .bipush 10, 0, 0, 10), (18, .if_icmp .ge 20, 38, 0, 0), (21, .aload_n 0, 0, 0, 0), (22, .aload_n 0, 0, 0, 0), (23, .getfield 30, 7, 8, 0), (26, .iload_n 1, 0, 0, 0), (27, .laload, 0, 0, 0), (28, .invokevirtual 75, 43, 1, 0), (31, .lconst 0, 0, 0, 0), (32, .lcmp, 0, 0, 0), (33, .ifCond .eq 5, 38, 0, 0), (36, .iload_n 1, 0, 0, 0), (37, .ireturn, 0, 0, 0), (38, .iinc 1 1, 0, 0, 0), (41, .goto (-39), 2, 0, 0), (44, .iconst (-1), 0, 0, -1), (45, .ireturn, 0, 0, 0)]
/-- 60 WholePacks$Tapes.<init>()V -/
noncomputable def k_60 : List (Nat × j_I) := [(0, .aload_n 0, 0, 0, 0), (1, .invokespecial 3, 9998, 0, 0), (4, .aload_n 0, 0, 0, 0), (5, .bipush 6, 0, 0, 6), (7, .newarray .int, 0, 0, 0), (9, .dup, 0, 0, 0), (10, .iconst 0, 0, 0, 0), (11, .iconst (-1), 0, 0, -1), (12, .iastore, 0, 0, 0), (13, .dup, 0, 0, 0), (14, .iconst 1, 0, 0, 1), (15, .iconst (-1), 0, 0, -1), (16, .iastore, 0, 0, 0), (17, .dup, 0, 0, 0), (18, .iconst 2, 0, 0, 2), (19, .iconst (-1), 0, 0, -1), (20, .iastore, 0, 0, 0), (21, .dup, 0, 0, 0), (22, .iconst 3, 0, 0, 3), (23, .iconst (-1), 0, 0, -1), (24, .iastore, 0, 0, 0), (25, .dup, 0, 0, 0), (26, .iconst 4, 0, 0, 4), (27, .iconst (-1), 0, 0, -1), (28, .iastore, 0, 0, 0), (29, .dup, 0, 0, 0), (30, .iconst 5, 0, 0, 5), (31, .iconst (-1), 0, 0, -1), (32, .iastore, 0, 0, 0), (33, .putfield 9, 8, 0, 0), (36, .aload_n 0, 0, 0, 0), (37, .bipush 6, 0, 0, 6), (39, .newarray .int, 0, 0, 0), (41, .putfield 15, 8, 1, 0), (44, .aload_n 0, 0, 0, 0), (45, .bipush 6, 0, 0, 6), (47, .bipush 60, 0, 0, 60), (49, .multianewarray 18 2, 0, 0, 0), (53, .putfield 20, 8, 2, 0), (56, .return_, 0, 0, 0)]
/-- 61 WholePacks$Tapes.lay(III)V -/
noncomputable def k_61 : List (Nat × j_I) := [(0, .aload_n 0, 0, 0, 0), (1, .getfield 9, 8, 0, 0), (4, .iload_n 1, 0, 0, 0), (5, .iload_n 2, 0, 0, 0), (6, .iastore, 0, 0, 0), (7, .aload_n 0, 0, 0, 0), (8, .getfield 15, 8, 1, 0), (11, .iload_n 1, 0, 0, 0), (12, .iload_n 3, 0, 0, 0), (13, .iastore, 0, 0, 0), (14, .aload_n 0, 0, 0, 0), (15, .getfield 20, 8, 2, 0), (18, .iload_n 1, 0, 0, 0), (19, .aaload, 0, 0, 0), (20, .lconst 0, 0, 0, 0), (21, .invokestatic 23, 269, 2, 0), (24, .return_, 0, 0, 0)]
/-- 62 WholePacks$Tapes.trimmed(IJ)J -/
noncomputable def k_62 : List (Nat × j_I) := [(0, .iload_n 1, 0, 0, 0), (1, .tableswitch 61 0 4 #[35, 40, 45, 61, 49], 0, 0, 0), (36, .lload_n 2, 0, 0, 0), (37, .l2i, 0, 0, 0), (38, .i2b, 0, 0, 0), (39, .i2l, 0, 0, 0), (40, .lreturn, 0, 0, 0), (41, .lload_n 2, 0, 0, 0), (42, .l2i, 0, 0, 0), (43, .i2s, 0, 0, 0), (44, .i2l, 0, 0, 0), (45, .lreturn, 0, 0, 0), (46, .lload_n 2, 0, 0, 0), (47, .l2i, 0, 0, 0), (48, .i2l, 0, 0, 0), (49, .lreturn, 0, 0, 0), (50, .lload_n 2, 0, 0, 0), (51, .lconst 0, 0, 0, 0), (52, .lcmp, 0, 0, 0), (53, .ifCond .eq 7, 60, 0, 0), (56, .lconst 1, 0, 0, 1), (57, .goto 4, 61, 0, 0), (60, .lconst 0, 0, 0, 0), (61, .lreturn, 0, 0, 0), (62, .lload_n 2, 0, 0, 0), (63, .lreturn, 0, 0, 0)]
/-- 64 WholePacks$Text.<init>()V -/
noncomputable def k_64 : List (Nat × j_I) := [(0, .aload_n 0, 0, 0, 0), (1, .invokespecial 3, 9998, 0, 0), (4, .aload_n 0, 0, 0, 0), (5, .bipush 80, 0, 0, 80), (7, .newarray .byte, 0, 0, 0), (9, .putfield 9, 9, 2, 0), (12, .aload_n 0, 0, 0, 0), (13, .iconst 4, 0, 0, 4), (14, .newarray .int, 0, 0, 0), (16, .putfield 15, 9, 5, 0), (19, .aload_n 0, 0, 0, 0), (20, .iconst 4, 0, 0, 4), (21, .newarray .int, 0, 0, 0), (23, .putfield 19, 9, 6, 0), (26, .aload_n 0, 0, 0, 0), (27, .bipush 20, 0, 0, 20), (29, .newarray .int, 0, 0, 0), (31, .putfield 22, 9, 7, 0), (34, .return_, 0, 0, 0)]
/-- 65 WholePacks$Text.findFault(I)I -/
noncomputable def k_65 : List (Nat × j_I) := [(0, .aload_n 0, 0, 0, 0), (1, .iload_n 1, 0, 0, 0), (2, .putfield 25, 9, 4, 0), (5, .aload_n 0, 0, 0, 0), (6, .iconst 0, 0, 0, 0), (7, .putfield 29, 9, 3, 0), (10, .aload_n 0, 0, 0, 0), (11, .iconst 0, 0, 0, 0), (12, .putfield 32, 9, 1, 0), (15, .iconst 0, 0, 0, 0), (16, .istore_n 2, 0, 0, 0), (17, .iload_n 2, 0, 0, 0), (18, .iconst 4, 0, 0, 4), (19, .if_icmp .ge 66, 85, 0, 0), (22, .aload_n 0, 0, 0, 0), (23, .invokevirtual 35, 70, 0, 0), (26, .ifCond .ne 8, 34, 0, 0), (29, .aload_n 0, 0, 0, 0), (30, .getfield 29, 9, 3, 0), (33, .ireturn, 0, 0, 0), (34, .aload_n 0, 0, 0, 0), (35, .dup, 0, 0, 0), (36, .getfield 32, 9, 1, 0), (39, .iconst 1, 0, 0, 1), (40, .iadd, 0, 0, 0), (41, .putfield 32, 9, 1, 0), (44, .aload_n 0, 0, 0, 0), (45, .getfield 29, 9, 3, 0), (48, .aload_n 0, 0, 0, 0), (49, .getfield 39, 9, 0, 0), (52, .if_icmp .lt 5, 57, 0, 0), (55, .iconst (-1), 0, 0, -1), (56, .ireturn, 0, 0, 0), (57, .aload_n 0, 0, 0, 0), (58, .getfield 32, 9, 1, 0), (61, .iconst 4, 0, 0, 4), (62, .if_icmp .eq 12, 74, 0, 0), (65, .aload_n 0, 0, 0, 0), (66, .bipush 59, 0, 0, 59), (68, .invokevirtual 42, 68, 1, 0), (71, .ifCond .ne 8, 79, 0, 0), (74, .aload_n 0, 0, 0, 0), (75, .getfield 29, 9, 3, 0), (78, .ireturn, 0, 0, 0), (79, .iinc 2 1, 0, 0, 0), (82, .goto (-65), 17, 0, 0), (85, .aload_n 0, 0, 0, 0), (86, .getfield 29, 9, 3, 0), (89, .ireturn, 0, 0, 0)]
/-- 66 WholePacks$Text.addRulesTo(LWholePacks$Packs;)V -/
noncomputable def k_66 : List (Nat × j_I) := [(0, .iconst 0, 0, 0, 0), (1, .istore_n 2, 0, 0, 0), (2, .iload_n 2, 0, 0, 0), (3, .aload_n 0, 0, 0, 0), (4, .getfield 32, 9, 1, 0), (7, .if_icmp .ge 62, 69, 0, 0), (10, .aload_n 1, 0, 0, 0), (11, .aload_n 0, 0, 0, 0), (12, .getfield 15, 9, 5, 0), (15, .iload_n 2, 0, 0, 0), (16, .iaload, 0, 0, 0), (17, .aload_n 0, 0, 0, 0), (18, .getfield 19, 9, 6, 0), (21, .iload_n 2, 0, 0, 0), (22, .iaload, 0, 0, 0), (23, .invokevirtual 46, 10, 2, 0), (26, .iconst 0, 0, 0, 0), (27, .istore_n 3, 0, 0, 0), (28, .iload_n 3, 0, 0, 0), (29, .aload_n 1, 0, 0, 0), (30, .getfield 52, 3, 0, 0), (33, .if_icmp .ge 30, 63, 0, 0), (36, .aload_n 1, 0, 0, 0), (37, .aload_n 1, 0, 0, 0), (38, .getfield 55, 3, 1, 0), (41, .iconst 1, 0, 0, 1), (42, .isub, 0, 0, 0), (43, .iload_n 3, 0, 0, 0), (44, .aload_n 0, 0, 0, 0), (45, .getfield 22, 9, 7, 0), (48, .iload_n 2, 0, 0, 0), (49, .iconst 5, 0, 0, 5), (50, .imul, 0, 0, 0), (51, .iload_n 3, 0, 0, 0), (52, .iadd, 0, 0, 0), (53, .iaload, 0, 0, 0), (54, .invokevirtual 58, 12, 3, 0), (57, .iinc 3 1, 0, 0, 0), (60, .goto (-32), 28, 0, 0), (63, .iinc 2 1, 0, 0, 0), (66, .goto (-64), 2, 0, 0), (69, .return_, 0, 0, 0)]
/-- 67 WholePacks$Text.here()I -/
noncomputable def k_67 : List (Nat × j_I) := [(0, .aload_n 0, 0, 0, 0), (1, .getfield 29, 9, 3, 0), (4, .aload_n 0, 0, 0, 0), (5, .getfield 39, 9, 0, 0), (8, .if_icmp .ge 15, 23, 0, 0), (11, .aload_n 0, 0, 0, 0), (12, .getfield 9, 9, 2, 0), (15, .aload_n 0, 0, 0, 0), (16, .getfield 29, 9, 3, 0), (19, .baload, 0, 0, 0), (20, .goto 4, 24, 0, 0), (23, .iconst (-1), 0, 0, -1), (24, .ireturn, 0, 0, 0)]
/-- 68 WholePacks$Text.skip(C)Z -/
noncomputable def k_68 : List (Nat × j_I) := [(0, .aload_n 0, 0, 0, 0), (1, .invokevirtual 62, 67, 0, 0), (4, .iload_n 1, 0, 0, 0), (5, .if_icmp .eq 5, 10, 0, 0), (8, .iconst 0, 0, 0, 0), (9, .ireturn, 0, 0, 0), (10, .aload_n 0, 0, 0, 0), (11, .dup, 0, 0, 0), (12, .getfield 29, 9, 3, 0), (15, .iconst 1, 0, 0, 1), (16, .iadd, 0, 0, 0), (17, .putfield 29, 9, 3, 0), (20, .iconst 1, 0, 0, 1), (21, .ireturn, 0, 0, 0)]
/-- 69 WholePacks$Text.atDigit()Z -/
noncomputable def k_69 : List (Nat × j_I) := [(0, .aload_n 0, 0, 0, 0), (1, .invokevirtual 62, 67, 0, 0), (4, .bipush 48, 0, 0, 48), (6, .if_icmp .lt 16, 22, 0, 0), (9, .aload_n 0, 0, 0, 0), (10, .invokevirtual 62, 67, 0, 0), (13, .bipush 57, 0, 0, 57), (15, .if_icmp .gt 7, 22, 0, 0), (18, .iconst 1, 0, 0, 1), (19, .goto 4, 23, 0, 0), (22, .iconst 0, 0, 0, 0), (23, .ireturn, 0, 0, 0)]
/-- 70 WholePacks$Text.readClause()Z -/
noncomputable def k_70 : List (Nat × j_I) := [(0, .iconst 0, 0, 0, 0), (1, .istore_n 1, 0, 0, 0), (2, .iload_n 1, 0, 0, 0), (3, .iconst 5, 0, 0, 5), (4, .if_icmp .ge 23, 27, 0, 0), (7, .aload_n 0, 0, 0, 0), (8, .getfield 22, 9, 7, 0), (11, .aload_n 0, 0, 0, 0), (12, .getfield 32, 9, 1, 0), (15, .iconst 5, 0, 0, 5), (16, .imul, 0, 0, 0), (17, .iload_n 1, 0, 0, 0), (18, .iadd, 0, 0, 0), (19, .iconst 0, 0, 0, 0), (20, .iastore, 0, 0, 0), (21, .iinc 1 1, 0, 0, 0), (24, .goto (-22), 2, 0, 0), (27, .aload_n 0, 0, 0, 0), (28, .aload_n 0, 0, 0, 0), (29, .bipush 45, 0, 0, 45), (31, .invokevirtual 42, 68, 1, 0), (34, .invokevirtual 66, 71, 1, 0), (37, .ifCond .ne 5, 42, 0, 0), (40, .iconst 0, 0, 0, 0), (41, .ireturn, 0, 0, 0), (42, .iconst 0, 0, 0, 0), (43, .istore_n 1, 0, 0, 0), (44, .iload_n 1, 0, 0, 0), (45, .bipush 80, 0, 0, 80), (47, .if_icmp .ge 62, 109, 0, 0), (50, .aload_n 0, 0, 0, 0), (51, .invokevirtual 62, 67, 0, 0), (54, .bipush 43, 0, 0, 43), (56, .if_icmp .eq 12, 68, 0, 0), (59, .aload_n 0, 0, 0, 0), (60, .invokevirtual 62, 67, 0, 0), (63, .bipush 45, 0, 0, 45), (65, .if_icmp .ne 44, 109, 0, 0), (68, .aload_n 0, 0, 0, 0), (69, .invokevirtual 62, 67, 0, 0), (72, .bipush 45, 0, 0, 45), (74, .if_icmp .ne 7, 81, 0, 0), (77, .iconst 1, 0, 0, 1), (78, .goto 4, 82, 0, 0), (81, .iconst 0, 0, 0, 0), (82, .istore_n 2, 0, 0, 0), (83, .aload_n 0, 0, 0, 0), (84, .dup, 0, 0, 0), (85, .getfield 29, 9, 3, 0), (88, .iconst 1, 0, 0, 1), (89, .iadd, 0, 0, 0), (90, .putfield 29, 9, 3, 0), (93, .aload_n 0, 0, 0, 0), (94, .iload_n 2, 0, 0, 0), (95, .invokevirtual 66, 71, 1, 0), (98, .ifCond .ne 5, 103, 0, 0), (101, .iconst 0, 0, 0, 0), (102, .ireturn, 0, 0, 0), (103, .iinc 1 1, 0, 0, 0), (106, .goto (-62), 44, 0, 0), (109, .aload_n 0, 0, 0, 0), (110, .invokevirtual 62, 67, 0, 0), (113, .bipush 62, 0, 0, 62), (115, .if_icmp .eq 14, 129, 0, 0), (118, .aload_n 0, 0, 0, 0), (119, .invokevirtual 62, 67, 0, 0), (122, .bipush 60, 0, 0, 60), (124, .if_icmp .eq 5, 129, 0, 0), (127, .iconst 0, 0, 0, 0), (128, .ireturn, 0, 0, 0), (129, .aload_n 0, 0, 0, 0), (130, .getfield 15, 9, 5, 0), (133, .aload_n 0, 0, 0, 0), (134, .getfield 32, 9, 1, 0), (137, .aload_n 0, 0, 0, 0), (138, .invokevirtual 62, 67, 0, 0), (141, .bipush 62, 0, 0, 62), (143, .if_icmp .ne 7, 150, 0, 0), (146, .iconst 0, 0, 0, 0), (147, .goto 4, 151, 0, 0), (150, .iconst 1, 0, 0, 1), (151, .iastore, 0, 0, 0), (152, .aload_n 0, 0, 0, 0), (153, .dup, 0, 0, 0), (154, .getfield 29, 9, 3, 0), (157, .iconst 1, 0, 0, 1), (158, .iadd, 0, 0, 0), (159, .putfield 29, 9, 3, 0), (162, .aload_n 0, 0, 0, 0), (163, .aload_n 0, 0, 0, 0), (164, .bipush 45, 0, 0, 45), (166, .invokevirtual 42, 68, 1, 0), (169, .invokevirtual 70, 72, 1, 0), (172, .ireturn, 0, 0, 0)]
/-- 71 WholePacks$Text.readTerm(Z)Z -/
noncomputable def k_71 : List (Nat × j_I) := [(0, .iconst 1, 0, 0, 1), (1, .istore_n 2, 0, 0, 0), (2, .aload_n 0, 0, 0, 0), (3, .invokevirtual 73, 69, 0, 0), (6, .ifCond .eq 21, 27, 0, 0), (9, .aload_n 0, 0, 0, 0), (10, .invokevirtual 62, 67, 0, 0), (13, .bipush 48, 0, 0, 48), (15, .isub, 0, 0, 0), (16, .istore_n 2, 0, 0, 0), (17, .aload_n 0, 0, 0, 0), (18, .dup, 0, 0, 0), (19, .getfield 29, 9, 3, 0), (22, .iconst 1, 0, 0, 1), (23, .iadd, 0, 0, 0), (24, .putfield 29, 9, 3, 0), (27, .aload_n 0, 0, 0, 0), (28, .invokevirtual 62, 67, 0, 0), (31, .bipush 97, 0, 0, 97), (33, .isub, 0, 0, 0), (34, .istore_n 3, 0, 0, 0), (35, .iload_n 3, 0, 0, 0), (36, .ifCond .lt 11, 47, 0, 0), (39, .iload_n 3, 0, 0, 0), (40, .aload_n 0, 0, 0, 0), (41, .getfield 25, 9, 4, 0), (44, .if_icmp .lt 5, 49, 0, 0), (47, .iconst 0, 0, 0, 0), (48, .ireturn, 0, 0, 0), (49, .aload_n 0, 0, 0, 0), (50, .getfield 22, 9, 7, 0), (53, .aload_n 0, 0, 0, 0), (54, .getfield 32, 9, 1, 0), (57, .iconst 5, 0, 0, 5), (58, .imul, 0, 0, 0), (59, .iload_n 3, 0, 0, 0), (60, .iadd, 0, 0, 0), (61, .iaload, 0, 0, 0), (62, .iload_n 1, 0, 0, 0), (63, .ifCond .eq 8, 71, 0, 0), (66, .iload_n 2, 0, 0, 0), (67, .ineg, 0, 0, 0), (68, .goto 4, 72, 0, 0), (71, .iload_n 2, 0, 0, 0), (72, .iadd, 0, 0, 0), (73, .istore 4, 0, 0, 0), (75, .iload 4, 0, 0, 0), (77, .invokestatic 76, 140, 1, 0), (80, .ifCond .ne 5, 85, 0, 0), (83, .iconst 0, 0, 0, 0), (84, .ireturn, 0, 0, 0), (85, .aload_n 0, 0, 0, 0), (86, .getfield 22, 9, 7, 0), (89, .aload_n 0, 0, 0, 0), (90, .getfield 32, 9, 1, 0), (93, .iconst 5, 0, 0, 5), (94, .imul, 0, 0, 0), (95, .iload_n 3, 0, 0, 0), (96, .iadd, 0, 0, 0), (97, .iload 4, 0, 0, 0), (99, .iastore, 0, 0, 0), (100, .aload_n 0, 0, 0, 0), (101, .dup, 0, 0, 0), (102, .getfield 29, 9, 3, 0), (105, .iconst 1, 0, 0, 1), (106, .iadd, 0, 0, 0), (107, .putfield 29, 9, 3, 0), (110, .iconst 1, 0, 0, 1), (111, .ireturn, 0, 0, 0)]
/-- 72 WholePacks$Text.readBound(Z)Z -/
noncomputable def k_72 : List (Nat × j_I) := [(0, .iconst 0, 0, 0, 0), (1, .istore_n 2, 0, 0, 0), (2, .iconst 0, 0, 0, 0), (3, .istore_n 3, 0, 0, 0), (4, .iload_n 3, 0, 0, 0), (5, .iconst 3, 0, 0, 3), (6, .if_icmp .ge 52, 58, 0, 0), (9, .aload_n 0, 0, 0, 0), (10, .invokevirtual 73, 69, 0, 0), (13, .ifCond .eq 45, 58, 0, 0), (16, .iload_n 2, 0, 0, 0), (17, .bipush 10, 0, 0, 10), (19, .imul, 0, 0, 0), (20, .aload_n 0, 0, 0, 0), (21, .invokevirtual 62, 67, 0, 0), (24, .iadd, 0, 0, 0), (25, .bipush 48, 0, 0, 48), (27, .isub, 0, 0, 0), (28, .istore_n 2, 0, 0, 0), (29, .iload_n 1, 0, 0, 0), (30, .ifCond .eq 12, 42, 0, 0), (33, .iload_n 2, 0, 0, 0), (34, .ineg, 0, 0, 0), (35, .bipush (-99), 0, 0, -99), (37, .if_icmp .ge 5, 42, 0, 0), (40, .iconst 0, 0, 0, 0), (41, .ireturn, 0, 0, 0), (42, .aload_n 0, 0, 0, 0), (43, .dup, 0, 0, 0), (44, .getfield 29, 9, 3, 0), (47, .iconst 1, 0, 0, 1), (48, .iadd, 0, 0, 0), (49, .putfield 29, 9, 3, 0), (52, .iinc 3 1, 0, 0, 0), (55, .goto (-51), 4, 0, 0), (58, .aload_n 0, 0, 0, 0), (59, .getfield 19, 9, 6, 0), (62, .aload_n 0, 0, 0, 0), (63, .getfield 32, 9, 1, 0), (66, .iload_n 1, 0, 0, 0), (67, .ifCond .eq 8, 75, 0, 0), (70, .iload_n 2, 0, 0, 0), (71, .ineg, 0, 0, 0), (72, .goto 4, 76, 0, 0), (75, .iload_n 2, 0, 0, 0), (76, .iastore, 0, 0, 0), (77, .iload_n 3, 0, 0, 0), (78, .ifCond .le 7, 85, 0, 0), (81, .iconst 1, 0, 0, 1), (82, .goto 4, 86, 0, 0), (85, .iconst 0, 0, 0, 0), (86, .ireturn, 0, 0, 0)]
/-- 73 WholePacks$Tree.<init>()V -/
noncomputable def k_73 : List (Nat × j_I) := [(0, .aload_n 0, 0, 0, 0), (1, .invokespecial 3, 9998, 0, 0), (4, .aload_n 0, 0, 0, 0), (5, .bipush 40, 0, 0, 40), (7, .newarray .int, 0, 0, 0), (9, .putfield 9, 10, 2, 0), (12, .aload_n 0, 0, 0, 0), (13, .sipush 200, 0, 0, 200), (16, .newarray .long, 0, 0, 0), (18, .putfield 15, 10, 3, 0), (21, .aload_n 0, 0, 0, 0), (22, .new 19, 7, 0, 0), (25, .dup, 0, 0, 0), (26, .invokespecial 21, 37, 0, 0), (29, .putfield 22, 10, 4, 0), (32, .aload_n 0, 0, 0, 0), (33, .sipush 200, 0, 0, 200), (36, .newarray .long, 0, 0, 0), (38, .putfield 26, 10, 5, 0), (41, .aload_n 0, 0, 0, 0), (42, .sipush 200, 0, 0, 200), (45, .newarray .long, 0, 0, 0), (47, .putfield 29, 10, 6, 0), (50, .aload_n 0, 0, 0, 0), (51, .bipush 40, 0, 0, 40), (53, .newarray .long, 0, 0, 0), (55, .putfield 32, 10, 7, 0), (58, .aload_n 0, 0, 0, 0), (59, .bipush 40, 0, 0, 40), (61, .newarray .long, 0, 0, 0), (63, .putfield 35, 10, 8, 0), (66, .aload_n 0, 0, 0, 0), (67, .bipush 40, 0, 0, 40), (69, .newarray .int, 0, 0, 0), (71, .putfield 38, 10, 9, 0), (74, .aload_n 0, 0, 0, 0), (75, .bipush 40, 0, 0, 40), (77, .newarray .boolean, 0, 0, 0), (79, .putfield 41, 10, 10, 0), (82, .return_, 0, 0, 0)]
/-- 80 WholePacks$Walk.<init>()V -/
noncomputable def k_80 : List (Nat × j_I) := [(0, .aload_n 0, 0, 0, 0), (1, .invokespecial 3, 9998, 0, 0), (4, .aload_n 0, 0, 0, 0), (5, .new 9, 3, 0, 0), (8, .dup, 0, 0, 0), (9, .invokespecial 11, 7, 0, 0), (12, .putfield 12, 11, 4, 0), (15, .aload_n 0, 0, 0, 0), (16, .iconst 5, 0, 0, 5), (17, .newarray .int, 0, 0, 0), (19, .putfield 18, 11, 5, 0), (22, .aload_n 0, 0, 0, 0), (23, .bipush 8, 0, 0, 8), (25, .newarray .int, 0, 0, 0), (27, .putfield 22, 11, 6, 0), (30, .return_, 0, 0, 0)]
/-- 87 WholePacks.<init>()V -/
noncomputable def k_87 : List (Nat × j_I) := [(0, .aload_n 0, 0, 0, 0), (1, .invokespecial 5, 9998, 0, 0), (4, .aload_n 0, 0, 0, 0), (5, .new 11, 6, 0, 0), (8, .dup, 0, 0, 0), (9, .invokespecial 13, 31, 0, 0), (12, .putfield 14, 12, 0, 0), (15, .aload_n 0, 0, 0, 0), (16, .new 11, 6, 0, 0), (19, .dup, 0, 0, 0), (20, .invokespecial 13, 31, 0, 0), (23, .putfield 18, 12, 1, 0), (26, .aload_n 0, 0, 0, 0), (27, .new 21, 3, 0, 0), (30, .dup, 0, 0, 0), (31, .invokespecial 23, 7, 0, 0), (34, .putfield 24, 12, 2, 0), (37, .aload_n 0, 0, 0, 0), (38, .new 28, 5, 0, 0), (41, .dup, 0, 0, 0), (42, .invokespecial 30, 28, 0, 0), (45, .putfield 31, 12, 3, 0), (48, .aload_n 0, 0, 0, 0), (49, .new 28, 5, 0, 0), (52, .dup, 0, 0, 0), (53, .invokespecial 30, 28, 0, 0), (56, .putfield 35, 12, 4, 0), (59, .aload_n 0, 0, 0, 0), (60, .new 38, 10, 0, 0), (63, .dup, 0, 0, 0), (64, .invokespecial 40, 73, 0, 0), (67, .putfield 41, 12, 5, 0), (70, .aload_n 0, 0, 0, 0), (71, .new 45, 11, 0, 0), (74, .dup, 0, 0, 0), (75, .invokespecial 47, 80, 0, 0), (78, .putfield 48, 12, 6, 0), (81, .aload_n 0, 0, 0, 0), (82, .new 52, 4, 0, 0), (85, .dup, 0, 0, 0), (86, .invokespecial 54, 20, 0, 0), (89, .putfield 55, 12, 7, 0), (92, .aload_n 0, 0, 0, 0), (93, .new 59, 9, 0, 0), (96, .dup, 0, 0, 0), (97, .invokespecial 61, 64, 0, 0), (100, .putfield 62, 12, 8, 0), (103, .aload_n 0, 0, 0, 0), (104, .new 66, 8, 0, 0), (107, .dup, 0, 0, 0), (108, .invokespecial 68, 60, 0, 0), (111, .putfield 69, 12, 9, 0), (114, .aload_n 0, 0, 0, 0), (115, .bipush 6, 0, 0, 6), (117, .newarray .long, 0, 0, 0), (119, .putfield 73, 12, 10, 0), (122, .return_, 0, 0, 0)]
/-- 88 WholePacks.size(I)I -/
noncomputable def k_88 : List (Nat × j_I) := [(0, .iload_n 1, 0, 0, 0), (1, .iconst 1, 0, 0, 1), (2, .if_icmp .lt 8, 10, 0, 0), (5, .iload_n 1, 0, 0, 0), (6, .iconst 5, 0, 0, 5), (7, .if_icmp .le 6, 13, 0, 0), (10, .bipush (-2), 0, 0, -2), (12, .ireturn, 0, 0, 0), (13, .aload_n 0, 0, 0, 0), (14, .getfield 14, 12, 0, 0), (17, .getfield 77, 6, 0, 0), (20, .getfield 80, 3, 0, 0), (23, .istore_n 2, 0, 0, 0), (24, .aload_n 0, 0, 0, 0), (25, .getfield 14, 12, 0, 0), (28, .iload_n 1, 0, 0, 0), (29, .invokevirtual 84, 33, 1, 0), (32, .aload_n 0, 0, 0, 0), (33, .iconst 0, 0, 0, 0), (34, .putfield 88, 12, 11, 0), (37, .iload_n 2, 0, 0, 0), (38, .ireturn, 0, 0, 0)]
/-- 89 WholePacks.cost(II)I -/
noncomputable def k_89 : List (Nat × j_I) := [(0, .aload_n 0, 0, 0, 0), (1, .iload_n 1, 0, 0, 0), (2, .invokevirtual 92, 135, 1, 0), (5, .ifCond .ne 5, 10, 0, 0), (8, .iconst (-1), 0, 0, -1), (9, .ireturn, 0, 0, 0), (10, .iload_n 2, 0, 0, 0), (11, .ifCond .lt 9, 20, 0, 0), (14, .iload_n 2, 0, 0, 0), (15, .bipush 99, 0, 0, 99), (17, .if_icmp .le 6, 23, 0, 0), (20, .bipush (-2), 0, 0, -2), (22, .ireturn, 0, 0, 0), (23, .aload_n 0, 0, 0, 0), (24, .getfield 14, 12, 0, 0), (27, .getfield 77, 6, 0, 0), (30, .getfield 96, 3, 2, 0), (33, .iload_n 1, 0, 0, 0), (34, .iaload, 0, 0, 0), (35, .istore_n 3, 0, 0, 0), (36, .aload_n 0, 0, 0, 0), (37, .getfield 14, 12, 0, 0), (40, .getfield 77, 6, 0, 0), (43, .getfield 96, 3, 2, 0), (46, .iload_n 1, 0, 0, 0), (47, .iload_n 2, 0, 0, 0), (48, .iastore, 0, 0, 0), (49, .aload_n 0, 0, 0, 0), (50, .getfield 14, 12, 0, 0), (53, .getfield 100, 6, 1, 0), (56, .invokevirtual 103, 22, 0, 0), (59, .aload_n 0, 0, 0, 0), (60, .iconst 0, 0, 0, 0), (61, .putfield 88, 12, 11, 0), (64, .iload_n 3, 0, 0, 0), (65, .ireturn, 0, 0, 0)]
/-- 91 WholePacks.factor(III)I -/
noncomputable def k_91 : List (Nat × j_I) := [(0, .aload_n 0, 0, 0, 0), (1, .iload_n 1, 0, 0, 0), (2, .invokevirtual 116, 136, 1, 0), (5, .ifCond .eq 11, 16, 0, 0), (8, .aload_n 0, 0, 0, 0), (9, .iload_n 2, 0, 0, 0), (10, .invokevirtual 92, 135, 1, 0), (13, .ifCond .ne 5, 18, 0, 0), (16, .iconst (-1), 0, 0, -1), (17, .ireturn, 0, 0, 0), (18, .iload_n 3, 0, 0, 0), (19, .invokestatic 119, 140, 1, 0), (22, .ifCond .ne 6, 28, 0, 0), (25, .bipush (-2), 0, 0, -2), (27, .ireturn, 0, 0, 0), (28, .aload_n 0, 0, 0, 0), (29, .getfield 14, 12, 0, 0), (32, .getfield 77, 6, 0, 0), (35, .iload_n 1, 0, 0, 0), (36, .iload_n 2, 0, 0, 0), (37, .invokevirtual 122, 11, 2, 0), (40, .istore 4, 0, 0, 0), (42, .aload_n 0, 0, 0, 0), (43, .getfield 14, 12, 0, 0), (46, .getfield 77, 6, 0, 0), (49, .iload_n 1, 0, 0, 0), (50, .iload_n 2, 0, 0, 0), (51, .iload_n 3, 0, 0, 0), (52, .invokevirtual 126, 12, 3, 0), (55, .aload_n 0, 0, 0, 0), (56, .iconst 0, 0, 0, 0), (57, .putfield 88, 12, 11, 0), (60, .iload 4, 0, 0, 0), (62, .bipush 100, 0, 0, 100), (64, .iadd, 0, 0, 0), (65, .ireturn, 0, 0, 0)]
/-- 92 WholePacks.bound(II)I -/
noncomputable def k_92 : List (Nat × j_I) := [(0, .aload_n 0, 0, 0, 0), (1, .iload_n 1, 0, 0, 0), (2, .invokevirtual 116, 136, 1, 0), (5, .ifCond .ne 5, 10, 0, 0), (8, .iconst (-1), 0, 0, -1), (9, .ireturn, 0, 0, 0), (10, .iload_n 2, 0, 0, 0), (11, .invokestatic 106, 139, 1, 0), (14, .ifCond .ne 6, 20, 0, 0), (17, .bipush (-2), 0, 0, -2), (19, .ireturn, 0, 0, 0), (20, .aload_n 0, 0, 0, 0), (21, .getfield 14, 12, 0, 0), (24, .getfield 77, 6, 0, 0), (27, .getfield 130, 3, 4, 0), (30, .iload_n 1, 0, 0, 0), (31, .iaload, 0, 0, 0), (32, .istore_n 3, 0, 0, 0), (33, .aload_n 0, 0, 0, 0), (34, .getfield 14, 12, 0, 0), (37, .getfield 77, 6, 0, 0), (40, .getfield 130, 3, 4, 0), (43, .iload_n 1, 0, 0, 0), (44, .iload_n 2, 0, 0, 0), (45, .iastore, 0, 0, 0), (46, .aload_n 0, 0, 0, 0), (47, .iconst 0, 0, 0, 0), (48, .putfield 88, 12, 11, 0), (51, .iload_n 3, 0, 0, 0), (52, .sipush 1000, 0, 0, 1000), (55, .iadd, 0, 0, 0), (56, .ireturn, 0, 0, 0)]
/-- 93 WholePacks.less()I -/
noncomputable def k_93 : List (Nat × j_I) := [(0, .aload_n 0, 0, 0, 0), (1, .getfield 14, 12, 0, 0), (4, .getfield 77, 6, 0, 0), (7, .getfield 109, 3, 1, 0), (10, .ifCond .gt 6, 16, 0, 0), (13, .bipush (-3), 0, 0, -3), (15, .ireturn, 0, 0, 0), (16, .aload_n 0, 0, 0, 0), (17, .getfield 14, 12, 0, 0), (20, .getfield 77, 6, 0, 0), (23, .dup, 0, 0, 0), (24, .getfield 109, 3, 1, 0), (27, .iconst 1, 0, 0, 1), (28, .isub, 0, 0, 0), (29, .putfield 109, 3, 1, 0), (32, .aload_n 0, 0, 0, 0), (33, .getfield 14, 12, 0, 0), (36, .getfield 133, 6, 2, 0), (39, .aload_n 0, 0, 0, 0), (40, .getfield 14, 12, 0, 0), (43, .getfield 77, 6, 0, 0), (46, .getfield 109, 3, 1, 0), (49, .iconst 0, 0, 0, 0), (50, .iastore, 0, 0, 0), (51, .aload_n 0, 0, 0, 0), (52, .iconst 0, 0, 0, 0), (53, .putfield 88, 12, 11, 0), (56, .aload_n 0, 0, 0, 0), (57, .getfield 14, 12, 0, 0), (60, .getfield 77, 6, 0, 0), (63, .getfield 109, 3, 1, 0), (66, .ireturn, 0, 0, 0)]
/-- 94 WholePacks.feed(I)I -/
noncomputable def k_94 : List (Nat × j_I) := [(0, .iload_n 1, 0, 0, 0), (1, .ifCond .lt 9, 10, 0, 0), (4, .iload_n 1, 0, 0, 0), (5, .bipush 127, 0, 0, 127), (7, .if_icmp .le 6, 13, 0, 0), (10, .bipush (-2), 0, 0, -2), (12, .ireturn, 0, 0, 0), (13, .aload_n 0, 0, 0, 0), (14, .getfield 62, 12, 8, 0), (17, .getfield 136, 9, 0, 0), (20, .bipush 80, 0, 0, 80), (22, .if_icmp .lt 6, 28, 0, 0), (25, .bipush (-4), 0, 0, -4), (27, .ireturn, 0, 0, 0), (28, .aload_n 0, 0, 0, 0), (29, .getfield 62, 12, 8, 0), (32, .getfield 139, 9, 2, 0), (35, .aload_n 0, 0, 0, 0), (36, .getfield 62, 12, 8, 0), (39, .getfield 136, 9, 0, 0), (42, .iload_n 1, 0, 0, 0), (43, .i2b, 0, 0, 0), (44, .bastore, 0, 0, 0), (45, .aload_n 0, 0, 0, 0), (46, .getfield 62, 12, 8, 0), (49, .dup, 0, 0, 0), (50, .getfield 136, 9, 0, 0), (53, .iconst 1, 0, 0, 1), (54, .iadd, 0, 0, 0), (55, .putfield 136, 9, 0, 0), (58, .aload_n 0, 0, 0, 0), (59, .getfield 62, 12, 8, 0), (62, .getfield 136, 9, 0, 0), (65, .ireturn, 0, 0, 0)]
/-- 95 WholePacks.read()I -/
noncomputable def k_95 : List (Nat × j_I) := [(0, .aload_n 0, 0, 0, 0), (1, .getfield 62, 12, 8, 0), (4, .aload_n 0, 0, 0, 0), (5, .getfield 14, 12, 0, 0), (8, .getfield 77, 6, 0, 0), (11, .getfield 80, 3, 0, 0), (14, .invokevirtual 143, 65, 1, 0), (17, .istore_n 1, 0, 0, 0), (18, .aload_n 0, 0, 0, 0), (19, .getfield 62, 12, 8, 0), (22, .iconst 0, 0, 0, 0), (23, .putfield 136, 9, 0, 0), (26, .iload_n 1, 0, 0, 0), (27, .ifCond .lt 8, 35, 0, 0), (30, .bipush (-10), 0, 0, -10), (32, .iload_n 1, 0, 0, 0), (33, .isub, 0, 0, 0), (34, .ireturn, 0, 0, 0), (35, .aload_n 0, 0, 0, 0), (36, .getfield 14, 12, 0, 0), (39, .getfield 77, 6, 0, 0), (42, .getfield 109, 3, 1, 0), (45, .aload_n 0, 0, 0, 0), (46, .getfield 62, 12, 8, 0), (49, .getfield 147, 9, 1, 0), (52, .iadd, 0, 0, 0), (53, .bipush 8, 0, 0, 8), (55, .if_icmp .le 6, 61, 0, 0), (58, .bipush (-4), 0, 0, -4), (60, .ireturn, 0, 0, 0), (61, .aload_n 0, 0, 0, 0), (62, .getfield 62, 12, 8, 0), (65, .aload_n 0, 0, 0, 0), (66, .getfield 14, 12, 0, 0), (69, .getfield 77, 6, 0, 0), (72, .invokevirtual 150, 66, 1, 0), (75, .aload_n 0, 0, 0, 0), (76, .iconst 0, 0, 0, 0), (77, .putfield 88, 12, 11, 0), (80, .aload_n 0, 0, 0, 0), (81, .getfield 62, 12, 8, 0), (84, .getfield 147, 9, 1, 0), (87, .ireturn, 0, 0, 0)]
/-- 96 WholePacks.ruleOf(II)I -/
noncomputable def k_96 : List (Nat × j_I) := [(0, .aload_n 0, 0, 0, 0), (1, .iload_n 1, 0, 0, 0), (2, .invokevirtual 116, 136, 1, 0), (5, .ifCond .eq 23, 28, 0, 0), (8, .iload_n 2, 0, 0, 0), (9, .ifCond .lt 19, 28, 0, 0), (12, .iload_n 2, 0, 0, 0), (13, .aload_n 0, 0, 0, 0), (14, .getfield 14, 12, 0, 0), (17, .getfield 77, 6, 0, 0), (20, .getfield 80, 3, 0, 0), (23, .iconst 1, 0, 0, 1), (24, .iadd, 0, 0, 0), (25, .if_icmp .le 5, 30, 0, 0), (28, .iconst (-1), 0, 0, -1), (29, .ireturn, 0, 0, 0), (30, .iload_n 2, 0, 0, 0), (31, .ifCond .ne 20, 51, 0, 0), (34, .aload_n 0, 0, 0, 0), (35, .getfield 14, 12, 0, 0), (38, .getfield 77, 6, 0, 0), (41, .getfield 154, 3, 3, 0), (44, .iload_n 1, 0, 0, 0), (45, .iaload, 0, 0, 0), (46, .sipush 1000, 0, 0, 1000), (49, .iadd, 0, 0, 0), (50, .ireturn, 0, 0, 0), (51, .iload_n 2, 0, 0, 0), (52, .iconst 1, 0, 0, 1), (53, .if_icmp .ne 20, 73, 0, 0), (56, .aload_n 0, 0, 0, 0), (57, .getfield 14, 12, 0, 0), (60, .getfield 77, 6, 0, 0), (63, .getfield 130, 3, 4, 0), (66, .iload_n 1, 0, 0, 0), (67, .iaload, 0, 0, 0), (68, .sipush 1000, 0, 0, 1000), (71, .iadd, 0, 0, 0), (72, .ireturn, 0, 0, 0), (73, .aload_n 0, 0, 0, 0), (74, .getfield 14, 12, 0, 0), (77, .getfield 77, 6, 0, 0), (80, .iload_n 1, 0, 0, 0), (81, .iload_n 2, 0, 0, 0), (82, .iconst 2, 0, 0, 2), (83, .isub, 0, 0, 0), (84, .invokevirtual 122, 11, 2, 0), (87, .sipush 1000, 0, 0, 1000), (90, .iadd, 0, 0, 0), (91, .ireturn, 0, 0, 0)]
/-- 97 WholePacks.solve(I)I -/
noncomputable def k_97 : List (Nat × j_I) := [(0, .iload_n 1, 0, 0, 0), (1, .ifCond .lt 9, 10, 0, 0), (4, .iload_n 1, 0, 0, 0), (5, .bipush 12, 0, 0, 12), (7, .if_icmp .le 6, 13, 0, 0), (10, .bipush (-2), 0, 0, -2), (12, .ireturn, 0, 0, 0), (13, .aload_n 0, 0, 0, 0), (14, .iconst 1, 0, 0, 1), (15, .putfield 88, 12, 11, 0), (18, .aload_n 0, 0, 0, 0), (19, .getfield 31, 12, 3, 0), (22, .aload_n 0, 0, 0, 0), (23, .getfield 14, 12, 0, 0), (26, .getfield 77, 6, 0, 0), (29, .iload_n 1, 0, 0, 0), (30, .invokevirtual 157, 29, 2, 0), (33, .ireturn, 0, 0, 0)]
/-- 99 WholePacks.amount(II)J -/
noncomputable def k_99 : List (Nat × j_I) := [(0, .aload_n 0, 0, 0, 0), (1, .getfield 88, 12, 11, 0), (4, .ifCond .eq 18, 22, 0, 0), (7, .aload_n 0, 0, 0, 0), (8, .iload_n 1, 0, 0, 0), (9, .invokevirtual 92, 135, 1, 0), (12, .ifCond .eq 10, 22, 0, 0), (15, .iload_n 2, 0, 0, 0), (16, .invokestatic 183, 141, 1, 0), (19, .ifCond .ne 7, 26, 0, 0), (22, .ldc2_w 170, 0, 0, -9223372036854775808), (25, .lreturn, 0, 0, 0), (26, .aload_n 0, 0, 0, 0), (27, .getfield 31, 12, 3, 0), (30, .getfield 161, 5, 0, 0), (33, .iload_n 1, 0, 0, 0), (34, .invokevirtual 186, 53, 1, 0), (37, .aload_n 0, 0, 0, 0), (38, .getfield 31, 12, 3, 0), (41, .getfield 161, 5, 0, 0), (44, .getfield 189, 7, 4, 0), (47, .iload_n 2, 0, 0, 0), (48, .invokestatic 193, 146, 3, 0), (51, .lreturn, 0, 0, 0)]
/-- 115 WholePacks.would(II)I -/
noncomputable def k_115 : List (Nat × j_I) := [(0, .aload_n 0, 0, 0, 0), (1, .iload_n 1, 0, 0, 0), (2, .invokevirtual 116, 136, 1, 0), (5, .ifCond .ne 5, 10, 0, 0), (8, .iconst (-1), 0, 0, -1), (9, .ireturn, 0, 0, 0), (10, .iload_n 2, 0, 0, 0), (11, .invokestatic 106, 139, 1, 0), (14, .ifCond .ne 6, 20, 0, 0), (17, .bipush (-2), 0, 0, -2), (19, .ireturn, 0, 0, 0), (20, .aload_n 0, 0, 0, 0), (21, .getfield 24, 12, 2, 0), (24, .aload_n 0, 0, 0, 0), (25, .getfield 14, 12, 0, 0), (28, .getfield 77, 6, 0, 0), (31, .invokevirtual 294, 8, 1, 0), (34, .aload_n 0, 0, 0, 0), (35, .getfield 24, 12, 2, 0), (38, .getfield 130, 3, 4, 0), (41, .iload_n 1, 0, 0, 0), (42, .iload_n 2, 0, 0, 0), (43, .iastore, 0, 0, 0), (44, .aload_n 0, 0, 0, 0), (45, .getfield 35, 12, 4, 0), (48, .aload_n 0, 0, 0, 0), (49, .getfield 24, 12, 2, 0), (52, .invokevirtual 297, 30, 1, 0), (55, .ireturn, 0, 0, 0)]
/-- 116 WholePacks.see(II)I -/
noncomputable def k_116 : List (Nat × j_I) := [(0, .iload_n 1, 0, 0, 0), (1, .iconst (-1), 0, 0, -1), (2, .if_icmp .ne 13, 15, 0, 0), (5, .aload_n 0, 0, 0, 0), (6, .getfield 14, 12, 0, 0), (9, .iconst 0, 0, 0, 0), (10, .putfield 300, 6, 5, 0), (13, .iconst 0, 0, 0, 0), (14, .ireturn, 0, 0, 0), (15, .aload_n 0, 0, 0, 0), (16, .iload_n 1, 0, 0, 0), (17, .invokevirtual 92, 135, 1, 0), (20, .ifCond .ne 5, 25, 0, 0), (23, .iconst (-1), 0, 0, -1), (24, .ireturn, 0, 0, 0), (25, .iload_n 2, 0, 0, 0), (26, .ifCond .lt 10, 36, 0, 0), (29, .iload_n 2, 0, 0, 0), (30, .sipush 999, 0, 0, 999), (33, .if_icmp .le 6, 39, 0, 0), (36, .bipush (-2), 0, 0, -2), (38, .ireturn, 0, 0, 0), (39, .aload_n 0, 0, 0, 0), (40, .getfield 14, 12, 0, 0), (43, .getfield 300, 6, 5, 0), (46, .iconst 5, 0, 0, 5), (47, .if_icmp .lt 6, 53, 0, 0), (50, .bipush (-4), 0, 0, -4), (52, .ireturn, 0, 0, 0), (53, .aload_n 0, 0, 0, 0), (54, .getfield 14, 12, 0, 0), (57, .iload_n 1, 0, 0, 0), (58, .iload_n 2, 0, 0, 0), (59, .invokevirtual 303, 34, 2, 0), (62, .aload_n 0, 0, 0, 0), (63, .getfield 14, 12, 0, 0), (66, .getfield 300, 6, 5, 0), (69, .ireturn, 0, 0, 0)]
/-- 117 WholePacks.fits(II)I -/
noncomputable def k_117 : List (Nat × j_I) := [(0, .aload_n 0, 0, 0, 0), (1, .iload_n 1, 0, 0, 0), (2, .invokevirtual 116, 136, 1, 0), (5, .ifCond .eq 12, 17, 0, 0), (8, .iload_n 2, 0, 0, 0), (9, .ifCond .lt 8, 17, 0, 0), (12, .iload_n 2, 0, 0, 0), (13, .iconst 1, 0, 0, 1), (14, .if_icmp .le 5, 19, 0, 0), (17, .iconst (-1), 0, 0, -1), (18, .ireturn, 0, 0, 0), (19, .iconst 0, 0, 0, 0), (20, .istore_n 3, 0, 0, 0), (21, .bipush (-5), 0, 0, -5), (23, .istore 4, 0, 0, 0), (25, .aload_n 0, 0, 0, 0), (26, .getfield 24, 12, 2, 0), (29, .aload_n 0, 0, 0, 0), (30, .getfield 14, 12, 0, 0), (33, .getfield 77, 6, 0, 0), (36, .invokevirtual 294, 8, 1, 0), (39, .iconst 0, 0, 0, 0), (40, .istore 5, 0, 0, 0), (42, .iload 5, 0, 0, 0), (44, .bipush 45, 0, 0, 45), (46, .if_icmp .gt 41, 87, 0, 0), (49, .aload_n 0, 0, 0, 0), (50, .getfield 24, 12, 2, 0), (53, .getfield 130, 3, 4, 0), (56, .iload_n 1, 0, 0, 0), (57, .iload 5, 0, 0, 0), (59, .iastore, 0, 0, 0), (60, .aload_n 0, 0, 0, 0), (61, .invokevirtual 306, 145, 0, 0), (64, .ifCond .ne 6, 70, 0, 0), (67, .goto 14, 81, 0, 0), (70, .iload_n 3, 0, 0, 0), (71, .ifCond .ne 7, 78, 0, 0), (74, .iload 5, 0, 0, 0), (76, .istore 4, 0, 0, 0), (78, .iinc 3 1, 0, 0, 0), (81, .iinc 5 5, 0, 0, 0), (84, .goto (-42), 42, 0, 0), (87, .iload_n 2, 0, 0, 0), (88, .ifCond .ne 7, 95, 0, 0), (91, .iload_n 3, 0, 0, 0), (92, .goto 5, 97, 0, 0), (95, .iload 4, 0, 0, 0), (97, .ireturn, 0, 0, 0)]
/-- 119 WholePacks.mean(I)J -/
noncomputable def k_119 : List (Nat × j_I) := [(0, .iload_n 1, 0, 0, 0), (1, .invokestatic 183, 141, 1, 0), (4, .ifCond .ne 7, 11, 0, 0), (7, .ldc2_w 170, 0, 0, -9223372036854775808), (10, .lreturn, 0, 0, 0), (11, .iconst 0, 0, 0, 0), (12, .istore_n 2, 0, 0, 0), (13, .iconst 0, 0, 0, 0), (14, .istore_n 3, 0, 0, 0), (15, .iload_n 3, 0, 0, 0), (16, .aload_n 0, 0, 0, 0), (17, .getfield 14, 12, 0, 0), (20, .getfield 77, 6, 0, 0), (23, .getfield 80, 3, 0, 0), (26, .if_icmp .ge 24, 50, 0, 0), (29, .iload_n 2, 0, 0, 0), (30, .aload_n 0, 0, 0, 0), (31, .getfield 14, 12, 0, 0), (34, .getfield 77, 6, 0, 0), (37, .getfield 96, 3, 2, 0), (40, .iload_n 3, 0, 0, 0), (41, .iaload, 0, 0, 0), (42, .iadd, 0, 0, 0), (43, .istore_n 2, 0, 0, 0), (44, .iinc 3 1, 0, 0, 0), (47, .goto (-32), 15, 0, 0), (50, .iload_n 2, 0, 0, 0), (51, .i2l, 0, 0, 0), (52, .aload_n 0, 0, 0, 0), (53, .getfield 14, 12, 0, 0), (56, .getfield 77, 6, 0, 0), (59, .getfield 80, 3, 0, 0), (62, .i2l, 0, 0, 0), (63, .iload_n 1, 0, 0, 0), (64, .invokestatic 193, 146, 3, 0), (67, .lreturn, 0, 0, 0)]
/-- 120 WholePacks.drawn(II)I -/
noncomputable def k_120 : List (Nat × j_I) := [(0, .iload_n 2, 0, 0, 0), (1, .iconst 1, 0, 0, 1), (2, .if_icmp .lt 8, 10, 0, 0), (5, .iload_n 2, 0, 0, 0), (6, .iconst 4, 0, 0, 4), (7, .if_icmp .le 6, 13, 0, 0), (10, .bipush (-2), 0, 0, -2), (12, .ireturn, 0, 0, 0), (13, .aload_n 0, 0, 0, 0), (14, .getfield 24, 12, 2, 0), (17, .aload_n 0, 0, 0, 0), (18, .getfield 14, 12, 0, 0), (21, .getfield 77, 6, 0, 0), (24, .invokevirtual 294, 8, 1, 0), (27, .aload_n 0, 0, 0, 0), (28, .getfield 24, 12, 2, 0), (31, .iload_n 1, 0, 0, 0), (32, .iload_n 2, 0, 0, 0), (33, .invokevirtual 309, 18, 2, 0), (36, .aload_n 0, 0, 0, 0), (37, .getfield 35, 12, 4, 0), (40, .aload_n 0, 0, 0, 0), (41, .getfield 24, 12, 2, 0), (44, .invokevirtual 297, 30, 1, 0), (47, .ireturn, 0, 0, 0)]
/-- 121 WholePacks.offer(II)I -/
noncomputable def k_121 : List (Nat × j_I) := [(0, .aload_n 0, 0, 0, 0), (1, .iload_n 1, 0, 0, 0), (2, .invokevirtual 265, 138, 1, 0), (5, .ifCond .eq 14, 19, 0, 0), (8, .iload_n 2, 0, 0, 0), (9, .ifCond .lt 10, 19, 0, 0), (12, .iload_n 2, 0, 0, 0), (13, .sipush 999, 0, 0, 999), (16, .if_icmp .le 6, 22, 0, 0), (19, .bipush (-2), 0, 0, -2), (21, .ireturn, 0, 0, 0), (22, .aload_n 0, 0, 0, 0), (23, .getfield 14, 12, 0, 0), (26, .getfield 100, 6, 1, 0), (29, .iload_n 1, 0, 0, 0), (30, .invokevirtual 312, 23, 1, 0), (33, .istore_n 3, 0, 0, 0), (34, .iload_n 3, 0, 0, 0), (35, .ifCond .lt 33, 68, 0, 0), (38, .aload_n 0, 0, 0, 0), (39, .getfield 14, 12, 0, 0), (42, .getfield 100, 6, 1, 0), (45, .getfield 315, 4, 3, 0), (48, .iload_n 3, 0, 0, 0), (49, .iaload, 0, 0, 0), (50, .istore 4, 0, 0, 0), (52, .aload_n 0, 0, 0, 0), (53, .getfield 14, 12, 0, 0), (56, .getfield 100, 6, 1, 0), (59, .getfield 315, 4, 3, 0), (62, .iload_n 3, 0, 0, 0), (63, .iload_n 2, 0, 0, 0), (64, .iastore, 0, 0, 0), (65, .iload 4, 0, 0, 0), (67, .ireturn, 0, 0, 0), (68, .aload_n 0, 0, 0, 0), (69, .getfield 14, 12, 0, 0), (72, .getfield 100, 6, 1, 0), (75, .getfield 257, 4, 0, 0), (78, .bipush 20, 0, 0, 20), (80, .if_icmp .lt 6, 86, 0, 0), (83, .bipush (-4), 0, 0, -4), (85, .ireturn, 0, 0, 0), (86, .aload_n 0, 0, 0, 0), (87, .getfield 14, 12, 0, 0), (90, .getfield 100, 6, 1, 0), (93, .iload_n 1, 0, 0, 0), (94, .aload_n 0, 0, 0, 0), (95, .getfield 14, 12, 0, 0), (98, .getfield 77, 6, 0, 0), (101, .iload_n 1, 0, 0, 0), (102, .invokevirtual 318, 14, 1, 0), (105, .iload_n 2, 0, 0, 0), (106, .invokevirtual 321, 25, 3, 0), (109, .bipush (-5), 0, 0, -5), (111, .ireturn, 0, 0, 0)]
/-- 122 WholePacks.offered(II)I -/
noncomputable def k_122 : List (Nat × j_I) := [(0, .iload_n 2, 0, 0, 0), (1, .ifCond .lt 8, 9, 0, 0), (4, .iload_n 2, 0, 0, 0), (5, .iconst 2, 0, 0, 2), (6, .if_icmp .le 5, 11, 0, 0), (9, .iconst (-1), 0, 0, -1), (10, .ireturn, 0, 0, 0), (11, .iload_n 1, 0, 0, 0), (12, .ifCond .lt 17, 29, 0, 0), (15, .iload_n 1, 0, 0, 0), (16, .aload_n 0, 0, 0, 0), (17, .getfield 14, 12, 0, 0), (20, .getfield 100, 6, 1, 0), (23, .getfield 257, 4, 0, 0), (26, .if_icmp .lt 6, 32, 0, 0), (29, .bipush (-2), 0, 0, -2), (31, .ireturn, 0, 0, 0), (32, .iload_n 2, 0, 0, 0), (33, .ifCond .ne 16, 49, 0, 0), (36, .aload_n 0, 0, 0, 0), (37, .getfield 14, 12, 0, 0), (40, .getfield 100, 6, 1, 0), (43, .getfield 258, 4, 1, 0), (46, .iload_n 1, 0, 0, 0), (47, .iaload, 0, 0, 0), (48, .ireturn, 0, 0, 0), (49, .iload_n 2, 0, 0, 0), (50, .iconst 1, 0, 0, 1), (51, .if_icmp .ne 18, 69, 0, 0), (54, .aload_n 0, 0, 0, 0), (55, .getfield 14, 12, 0, 0), (58, .getfield 100, 6, 1, 0), (61, .getfield 315, 4, 3, 0), (64, .iload_n 1, 0, 0, 0), (65, .iaload, 0, 0, 0), (66, .goto 15, 81, 0, 0), (69, .aload_n 0, 0, 0, 0), (70, .getfield 14, 12, 0, 0), (73, .getfield 100, 6, 1, 0), (76, .getfield 324, 4, 2, 0), (79, .iload_n 1, 0, 0, 0), (80, .iaload, 0, 0, 0), (81, .ireturn, 0, 0, 0)]
/-- 123 WholePacks.upTo(I)I -/
noncomputable def k_123 : List (Nat × j_I) := [(0, .bipush (-5), 0, 0, -5), (2, .istore_n 2, 0, 0, 0), (3, .iconst 0, 0, 0, 0), (4, .istore_n 3, 0, 0, 0), (5, .iload_n 3, 0, 0, 0), (6, .aload_n 0, 0, 0, 0), (7, .getfield 14, 12, 0, 0), (10, .getfield 100, 6, 1, 0), (13, .getfield 257, 4, 0, 0), (16, .if_icmp .ge 38, 54, 0, 0), (19, .aload_n 0, 0, 0, 0), (20, .getfield 14, 12, 0, 0), (23, .getfield 100, 6, 1, 0), (26, .getfield 324, 4, 2, 0), (29, .iload_n 3, 0, 0, 0), (30, .iaload, 0, 0, 0), (31, .iload_n 1, 0, 0, 0), (32, .if_icmp .gt 16, 48, 0, 0), (35, .aload_n 0, 0, 0, 0), (36, .getfield 14, 12, 0, 0), (39, .getfield 100, 6, 1, 0), (42, .getfield 258, 4, 1, 0), (45, .iload_n 3, 0, 0, 0), (46, .iaload, 0, 0, 0), (47, .istore_n 2, 0, 0, 0), (48, .iinc 3 1, 0, 0, 0), (51, .goto (-46), 5, 0, 0), (54, .iload_n 2, 0, 0, 0), (55, .ireturn, 0, 0, 0)]
/-- 124 WholePacks.dearest()I -/
noncomputable def k_124 : List (Nat × j_I) := [(0, .iconst (-1), 0, 0, -1), (1, .istore_n 1, 0, 0, 0), (2, .iconst 0, 0, 0, 0), (3, .istore_n 2, 0, 0, 0), (4, .iload_n 2, 0, 0, 0), (5, .aload_n 0, 0, 0, 0), (6, .getfield 14, 12, 0, 0), (9, .getfield 100, 6, 1, 0), (12, .getfield 257, 4, 0, 0), (15, .if_icmp .ge 40, 55, 0, 0), (18, .iload_n 1, 0, 0, 0), (19, .ifCond .lt 28, 47, 0, 0), (22, .aload_n 0, 0, 0, 0), (23, .getfield 14, 12, 0, 0), (26, .getfield 100, 6, 1, 0), (29, .iload_n 2, 0, 0, 0), (30, .invokevirtual 325, 24, 1, 0), (33, .aload_n 0, 0, 0, 0), (34, .getfield 14, 12, 0, 0), (37, .getfield 100, 6, 1, 0), (40, .iload_n 1, 0, 0, 0), (41, .invokevirtual 325, 24, 1, 0), (44, .if_icmp .le 5, 49, 0, 0), (47, .iload_n 2, 0, 0, 0), (48, .istore_n 1, 0, 0, 0), (49, .iinc 2 1, 0, 0, 0), (52, .goto (-48), 4, 0, 0), (55, .iload_n 1, 0, 0, 0), (56, .ifCond .ge 8, 64, 0, 0), (59, .bipush (-5), 0, 0, -5), (61, .goto 15, 76, 0, 0), (64, .aload_n 0, 0, 0, 0), (65, .getfield 14, 12, 0, 0), (68, .getfield 100, 6, 1, 0), (71, .getfield 258, 4, 1, 0), (74, .iload_n 1, 0, 0, 0), (75, .iaload, 0, 0, 0), (76, .ireturn, 0, 0, 0)]
/-- 125 WholePacks.plan(III)I -/
noncomputable def k_125 : List (Nat × j_I) := [(0, .iload_n 1, 0, 0, 0), (1, .iconst (-1), 0, 0, -1), (2, .if_icmp .ne 13, 15, 0, 0), (5, .aload_n 0, 0, 0, 0), (6, .getfield 14, 12, 0, 0), (9, .iconst 0, 0, 0, 0), (10, .putfield 328, 6, 8, 0), (13, .iconst 0, 0, 0, 0), (14, .ireturn, 0, 0, 0), (15, .iload_n 1, 0, 0, 0), (16, .ifCond .lt 8, 24, 0, 0), (19, .iload_n 1, 0, 0, 0), (20, .iconst 2, 0, 0, 2), (21, .if_icmp .le 5, 26, 0, 0), (24, .iconst (-1), 0, 0, -1), (25, .ireturn, 0, 0, 0), (26, .iload_n 1, 0, 0, 0), (27, .iconst 1, 0, 0, 1), (28, .if_icmp .ne 14, 42, 0, 0), (31, .aload_n 0, 0, 0, 0), (32, .iload_n 2, 0, 0, 0), (33, .invokevirtual 92, 135, 1, 0), (36, .ifCond .ne 16, 52, 0, 0), (39, .goto 11, 50, 0, 0), (42, .aload_n 0, 0, 0, 0), (43, .iload_n 2, 0, 0, 0), (44, .invokevirtual 116, 136, 1, 0), (47, .ifCond .ne 5, 52, 0, 0), (50, .iconst (-1), 0, 0, -1), (51, .ireturn, 0, 0, 0), (52, .iload_n 1, 0, 0, 0), (53, .iload_n 3, 0, 0, 0), (54, .invokestatic 331, 143, 2, 0), (57, .ifCond .ne 6, 63, 0, 0), (60, .bipush (-2), 0, 0, -2), (62, .ireturn, 0, 0, 0), (63, .aload_n 0, 0, 0, 0), (64, .getfield 14, 12, 0, 0), (67, .getfield 328, 6, 8, 0), (70, .bipush 8, 0, 0, 8), (72, .if_icmp .lt 6, 78, 0, 0), (75, .bipush (-4), 0, 0, -4), (77, .ireturn, 0, 0, 0), (78, .aload_n 0, 0, 0, 0), (79, .getfield 14, 12, 0, 0), (82, .iload_n 1, 0, 0, 0), (83, .iload_n 2, 0, 0, 0), (84, .iload_n 3, 0, 0, 0), (85, .invokevirtual 335, 35, 3, 0), (88, .aload_n 0, 0, 0, 0), (89, .getfield 14, 12, 0, 0), (92, .getfield 328, 6, 8, 0), (95, .ireturn, 0, 0, 0)]
/-- 126 WholePacks.ends()I -/
noncomputable def k_126 : List (Nat × j_I) := [(0, .aload_n 0, 0, 0, 0), (1, .getfield 24, 12, 2, 0), (4, .aload_n 0, 0, 0, 0), (5, .getfield 14, 12, 0, 0), (8, .getfield 77, 6, 0, 0), (11, .invokevirtual 294, 8, 1, 0), (14, .iconst 0, 0, 0, 0), (15, .istore_n 1, 0, 0, 0), (16, .iload_n 1, 0, 0, 0), (17, .aload_n 0, 0, 0, 0), (18, .getfield 14, 12, 0, 0), (21, .getfield 328, 6, 8, 0), (24, .if_icmp .ge 43, 67, 0, 0), (27, .aload_n 0, 0, 0, 0), (28, .getfield 24, 12, 2, 0), (31, .aload_n 0, 0, 0, 0), (32, .getfield 14, 12, 0, 0), (35, .getfield 338, 6, 9, 0), (38, .iload_n 1, 0, 0, 0), (39, .iaload, 0, 0, 0), (40, .aload_n 0, 0, 0, 0), (41, .getfield 14, 12, 0, 0), (44, .getfield 341, 6, 10, 0), (47, .iload_n 1, 0, 0, 0), (48, .iaload, 0, 0, 0), (49, .aload_n 0, 0, 0, 0), (50, .getfield 14, 12, 0, 0), (53, .getfield 344, 6, 11, 0), (56, .iload_n 1, 0, 0, 0), (57, .iaload, 0, 0, 0), (58, .invokevirtual 347, 17, 3, 0), (61, .iinc 1 1, 0, 0, 0), (64, .goto (-48), 16, 0, 0), (67, .aload_n 0, 0, 0, 0), (68, .getfield 35, 12, 4, 0), (71, .aload_n 0, 0, 0, 0), (72, .getfield 24, 12, 2, 0), (75, .invokevirtual 297, 30, 1, 0), (78, .ireturn, 0, 0, 0)]
/-- 128 WholePacks.image()I -/
noncomputable def k_128 : List (Nat × j_I) := [(0, .aload_n 0, 0, 0, 0), (1, .getfield 18, 12, 1, 0), (4, .aload_n 0, 0, 0, 0), (5, .getfield 14, 12, 0, 0), (8, .invokevirtual 367, 32, 1, 0), (11, .aload_n 0, 0, 0, 0), (12, .iconst 1, 0, 0, 1), (13, .putfield 370, 12, 12, 0), (16, .aload_n 0, 0, 0, 0), (17, .getfield 14, 12, 0, 0), (20, .getfield 77, 6, 0, 0), (23, .getfield 109, 3, 1, 0), (26, .ireturn, 0, 0, 0)]
/-- 129 WholePacks.undo()I -/
noncomputable def k_129 : List (Nat × j_I) := [(0, .aload_n 0, 0, 0, 0), (1, .getfield 370, 12, 12, 0), (4, .ifCond .ne 6, 10, 0, 0), (7, .bipush (-3), 0, 0, -3), (9, .ireturn, 0, 0, 0), (10, .aload_n 0, 0, 0, 0), (11, .getfield 14, 12, 0, 0), (14, .aload_n 0, 0, 0, 0), (15, .getfield 18, 12, 1, 0), (18, .invokevirtual 367, 32, 1, 0), (21, .aload_n 0, 0, 0, 0), (22, .iconst 0, 0, 0, 0), (23, .putfield 88, 12, 11, 0), (26, .aload_n 0, 0, 0, 0), (27, .getfield 14, 12, 0, 0), (30, .getfield 77, 6, 0, 0), (33, .getfield 109, 3, 1, 0), (36, .ireturn, 0, 0, 0)]
/-- 130 WholePacks.count(I)I -/
noncomputable def k_130 : List (Nat × j_I) := [(0, .iload_n 1, 0, 0, 0), (1, .tableswitch 186 0 9 #[55, 66, 77, 99, 121, 143, 151, 159, 170, 178], 0, 0, 0), (56, .aload_n 0, 0, 0, 0), (57, .getfield 14, 12, 0, 0), (60, .getfield 77, 6, 0, 0), (63, .getfield 80, 3, 0, 0), (66, .ireturn, 0, 0, 0), (67, .aload_n 0, 0, 0, 0), (68, .getfield 14, 12, 0, 0), (71, .getfield 77, 6, 0, 0), (74, .getfield 109, 3, 1, 0), (77, .ireturn, 0, 0, 0), (78, .aload_n 0, 0, 0, 0), (79, .getfield 88, 12, 11, 0), (82, .ifCond .eq 16, 98, 0, 0), (85, .aload_n 0, 0, 0, 0), (86, .getfield 31, 12, 3, 0), (89, .getfield 161, 5, 0, 0), (92, .getfield 165, 7, 0, 0), (95, .goto 4, 99, 0, 0), (98, .iconst 0, 0, 0, 0), (99, .ireturn, 0, 0, 0), (100, .aload_n 0, 0, 0, 0), (101, .getfield 88, 12, 11, 0), (104, .ifCond .eq 16, 120, 0, 0), (107, .aload_n 0, 0, 0, 0), (108, .getfield 31, 12, 3, 0), (111, .getfield 206, 5, 1, 0), (114, .getfield 373, 2, 0, 0), (117, .goto 4, 121, 0, 0), (120, .iconst 0, 0, 0, 0), (121, .ireturn, 0, 0, 0), (122, .aload_n 0, 0, 0, 0), (123, .getfield 88, 12, 11, 0), (126, .ifCond .eq 16, 142, 0, 0), (129, .aload_n 0, 0, 0, 0), (130, .getfield 31, 12, 3, 0), (133, .getfield 161, 5, 0, 0), (136, .getfield 374, 7, 2, 0), (139, .goto 4, 143, 0, 0), (142, .iconst 0, 0, 0, 0), (143, .ireturn, 0, 0, 0), (144, .aload_n 0, 0, 0, 0), (145, .getfield 14, 12, 0, 0), (148, .getfield 300, 6, 5, 0), (151, .ireturn, 0, 0, 0), (152, .aload_n 0, 0, 0, 0), (153, .getfield 14, 12, 0, 0), (156, .getfield 328, 6, 8, 0), (159, .ireturn, 0, 0, 0), (160, .aload_n 0, 0, 0, 0), (161, .getfield 14, 12, 0, 0), (164, .getfield 100, 6, 1, 0), (167, .getfield 257, 4, 0, 0), (170, .ireturn, 0, 0, 0), (171, .aload_n 0, 0, 0, 0), (172, .getfield 62, 12, 8, 0), (175, .getfield 136, 9, 0, 0), (178, .ireturn, 0, 0, 0), (179, .aload_n 0, 0, 0, 0), (180, .getfield 14, 12, 0, 0), (183, .getfield 231, 6, 4, 0), (186, .ireturn, 0, 0, 0), (187, .bipush (-2), 0, 0, -2), (189, .ireturn, 0, 0, 0)]
/-- 131 WholePacks.tape(III)I -/
noncomputable def k_131 : List (Nat × j_I) := [(0, .iload_n 1, 0, 0, 0), (1, .invokestatic 350, 142, 1, 0), (4, .ifCond .ne 5, 9, 0, 0), (7, .iconst (-1), 0, 0, -1), (8, .ireturn, 0, 0, 0), (9, .iload_n 2, 0, 0, 0), (10, .iconst (-1), 0, 0, -1), (11, .if_icmp .lt 8, 19, 0, 0), (14, .iload_n 2, 0, 0, 0), (15, .iconst 4, 0, 0, 4), (16, .if_icmp .le 6, 22, 0, 0), (19, .bipush (-2), 0, 0, -2), (21, .ireturn, 0, 0, 0), (22, .iload_n 2, 0, 0, 0), (23, .iconst (-1), 0, 0, -1), (24, .if_icmp .eq 12, 36, 0, 0), (27, .iload_n 3, 0, 0, 0), (28, .bipush 60, 0, 0, 60), (30, .if_icmp .le 6, 36, 0, 0), (33, .bipush (-2), 0, 0, -2), (35, .ireturn, 0, 0, 0), (36, .iload_n 2, 0, 0, 0), (37, .iconst (-1), 0, 0, -1), (38, .if_icmp .eq 10, 48, 0, 0), (41, .iload_n 3, 0, 0, 0), (42, .ifCond .ge 6, 48, 0, 0), (45, .bipush (-14), 0, 0, -14), (47, .ireturn, 0, 0, 0), (48, .aload_n 0, 0, 0, 0), (49, .getfield 69, 12, 9, 0), (52, .iload_n 1, 0, 0, 0), (53, .iload_n 2, 0, 0, 0), (54, .iload_n 2, 0, 0, 0), (55, .iconst (-1), 0, 0, -1), (56, .if_icmp .ne 7, 63, 0, 0), (59, .iconst 0, 0, 0, 0), (60, .goto 4, 64, 0, 0), (63, .iload_n 3, 0, 0, 0), (64, .invokevirtual 375, 61, 3, 0), (67, .iconst 1, 0, 0, 1), (68, .ireturn, 0, 0, 0)]
/-- 132 WholePacks.item(IIJ)I -/
noncomputable def k_132 : List (Nat × j_I) := [(0, .iload_n 1, 0, 0, 0), (1, .invokestatic 350, 142, 1, 0), (4, .ifCond .ne 5, 9, 0, 0), (7, .iconst (-1), 0, 0, -1), (8, .ireturn, 0, 0, 0), (9, .aload_n 0, 0, 0, 0), (10, .getfield 69, 12, 9, 0), (13, .getfield 353, 8, 0, 0), (16, .iload_n 1, 0, 0, 0), (17, .iaload, 0, 0, 0), (18, .iconst (-1), 0, 0, -1), (19, .if_icmp .ne 6, 25, 0, 0), (22, .bipush (-11), 0, 0, -11), (24, .ireturn, 0, 0, 0), (25, .iload_n 2, 0, 0, 0), (26, .ifCond .lt 16, 42, 0, 0), (29, .iload_n 2, 0, 0, 0), (30, .aload_n 0, 0, 0, 0), (31, .getfield 69, 12, 9, 0), (34, .getfield 357, 8, 1, 0), (37, .iload_n 1, 0, 0, 0), (38, .iaload, 0, 0, 0), (39, .if_icmp .lt 6, 45, 0, 0), (42, .bipush (-13), 0, 0, -13), (44, .ireturn, 0, 0, 0), (45, .aload_n 0, 0, 0, 0), (46, .getfield 69, 12, 9, 0), (49, .getfield 360, 8, 2, 0), (52, .iload_n 1, 0, 0, 0), (53, .aaload, 0, 0, 0), (54, .iload_n 2, 0, 0, 0), (55, .aload_n 0, 0, 0, 0), (56, .getfield 69, 12, 9, 0), (59, .aload_n 0, 0, 0, 0), (60, .getfield 69, 12, 9, 0), (63, .getfield 353, 8, 0, 0), (66, .iload_n 1, 0, 0, 0), (67, .iaload, 0, 0, 0), (68, .lload_n 3, 0, 0, 0), (69, .invokevirtual 378, 62, 2, 0), (72, .lastore, 0, 0, 0), (73, .iconst 1, 0, 0, 1), (74, .ireturn, 0, 0, 0)]
/-- 135 WholePacks.isPack(I)Z -/
noncomputable def k_135 : List (Nat × j_I) := [(0, .iload_n 1, 0, 0, 0), (1, .ifCond .lt 21, 22, 0, 0), (4, .iload_n 1, 0, 0, 0), (5, .aload_n 0, 0, 0, 0), (6, .getfield 14, 12, 0, 0), (9, .getfield 77, 6, 0, 0), (12, .getfield 80, 3, 0, 0), (15, .if_icmp .ge 7, 22, 0, 0), (18, .iconst 1, 0, 0, 1), (19, .goto 4, 23, 0, 0), (22, .iconst 0, 0, 0, 0), (23, .ireturn, 0, 0, 0)]
/-- 136 WholePacks.isRule(I)Z -/
noncomputable def k_136 : List (Nat × j_I) := [(0, .iload_n 1, 0, 0, 0), (1, .ifCond .lt 21, 22, 0, 0), (4, .iload_n 1, 0, 0, 0), (5, .aload_n 0, 0, 0, 0), (6, .getfield 14, 12, 0, 0), (9, .getfield 77, 6, 0, 0), (12, .getfield 109, 3, 1, 0), (15, .if_icmp .ge 7, 22, 0, 0), (18, .iconst 1, 0, 0, 1), (19, .goto 4, 23, 0, 0), (22, .iconst 0, 0, 0, 0), (23, .ireturn, 0, 0, 0)]
/-- 138 WholePacks.isCode(I)Z -/
noncomputable def k_138 : List (Nat × j_I) := [(0, .iload_n 1, 0, 0, 0), (1, .ifCond .lt 25, 26, 0, 0), (4, .iload_n 1, 0, 0, 0), (5, .getstatic 392, 99, 0, 0), (8, .aload_n 0, 0, 0, 0), (9, .getfield 14, 12, 0, 0), (12, .getfield 77, 6, 0, 0), (15, .getfield 80, 3, 0, 0), (18, .iaload, 0, 0, 0), (19, .if_icmp .ge 7, 26, 0, 0), (22, .iconst 1, 0, 0, 1), (23, .goto 4, 27, 0, 0), (26, .iconst 0, 0, 0, 0), (27, .ireturn, 0, 0, 0)]
/-- 139 WholePacks.isBound(I)Z -/
noncomputable def k_139 : List (Nat × j_I) := [(0, .iload_n 0, 0, 0, 0), (1, .bipush (-99), 0, 0, -99), (3, .if_icmp .lt 14, 17, 0, 0), (6, .iload_n 0, 0, 0, 0), (7, .sipush 999, 0, 0, 999), (10, .if_icmp .gt 7, 17, 0, 0), (13, .iconst 1, 0, 0, 1), (14, .goto 4, 18, 0, 0), (17, .iconst 0, 0, 0, 0), (18, .ireturn, 0, 0, 0)]
/-- 140 WholePacks.isFactor(I)Z -/
noncomputable def k_140 : List (Nat × j_I) := [(0, .iload_n 0, 0, 0, 0), (1, .bipush (-9), 0, 0, -9), (3, .if_icmp .lt 13, 16, 0, 0), (6, .iload_n 0, 0, 0, 0), (7, .bipush 9, 0, 0, 9), (9, .if_icmp .gt 7, 16, 0, 0), (12, .iconst 1, 0, 0, 1), (13, .goto 4, 17, 0, 0), (16, .iconst 0, 0, 0, 0), (17, .ireturn, 0, 0, 0)]
/-- 141 WholePacks.isPart(I)Z -/
noncomputable def k_141 : List (Nat × j_I) := [(0, .iload_n 0, 0, 0, 0), (1, .ifCond .eq 8, 9, 0, 0), (4, .iload_n 0, 0, 0, 0), (5, .iconst 1, 0, 0, 1), (6, .if_icmp .ne 7, 13, 0, 0), (9, .iconst 1, 0, 0, 1), (10, .goto 4, 14, 0, 0), (13, .iconst 0, 0, 0, 0), (14, .ireturn, 0, 0, 0)]
/-- 142 WholePacks.isTape(I)Z -/
noncomputable def k_142 : List (Nat × j_I) := [(0, .iload_n 0, 0, 0, 0), (1, .ifCond .lt 13, 14, 0, 0), (4, .iload_n 0, 0, 0, 0), (5, .bipush 6, 0, 0, 6), (7, .if_icmp .ge 7, 14, 0, 0), (10, .iconst 1, 0, 0, 1), (11, .goto 4, 15, 0, 0), (14, .iconst 0, 0, 0, 0), (15, .ireturn, 0, 0, 0)]
/-- 143 WholePacks.isPlanned(II)Z -/
noncomputable def k_143 : List (Nat × j_I) := [(0, .iload_n 0, 0, 0, 0), (1, .ifCond .ne 8, 9, 0, 0), (4, .iload_n 1, 0, 0, 0), (5, .invokestatic 106, 139, 1, 0), (8, .ireturn, 0, 0, 0), (9, .iload_n 0, 0, 0, 0), (10, .iconst 1, 0, 0, 1), (11, .if_icmp .ne 21, 32, 0, 0), (14, .iload_n 1, 0, 0, 0), (15, .ifCond .lt 13, 28, 0, 0), (18, .iload_n 1, 0, 0, 0), (19, .bipush 99, 0, 0, 99), (21, .if_icmp .gt 7, 28, 0, 0), (24, .iconst 1, 0, 0, 1), (25, .goto 11, 36, 0, 0), (28, .iconst 0, 0, 0, 0), (29, .goto 7, 36, 0, 0), (32, .iload_n 1, 0, 0, 0), (33, .invokestatic 119, 140, 1, 0), (36, .ireturn, 0, 0, 0)]
/-- 144 WholePacks.isNear(J)Z -/
noncomputable def k_144 : List (Nat × j_I) := [(0, .lload_n 0, 0, 0, 0), (1, .ldc2_w 395, 0, 0, 1000000000), (4, .lcmp, 0, 0, 0), (5, .ifCond .gt 15, 20, 0, 0), (8, .lload_n 0, 0, 0, 0), (9, .ldc2_w 397, 0, 0, -1000000000), (12, .lcmp, 0, 0, 0), (13, .ifCond .lt 7, 20, 0, 0), (16, .iconst 1, 0, 0, 1), (17, .goto 4, 21, 0, 0), (20, .iconst 0, 0, 0, 0), (21, .ireturn, 0, 0, 0)]
/-- 145 WholePacks.isSeenSo()Z -/
noncomputable def k_145 : List (Nat × j_I) := [(0, .aload_n 0, 0, 0, 0), (1, .getfield 35, 12, 4, 0), (4, .aload_n 0, 0, 0, 0), (5, .getfield 24, 12, 2, 0), (8, .bipush 12, 0, 0, 12), (10, .invokevirtual 157, 29, 2, 0), (13, .iconst 1, 0, 0, 1), (14, .if_icmp .eq 5, 19, 0, 0), (17, .iconst 0, 0, 0, 0), (18, .ireturn, 0, 0, 0), (19, .iconst 0, 0, 0, 0), (20, .istore_n 1, 0, 0, 0), (21, .iload_n 1, 0, 0, 0), (22, .aload_n 0, 0, 0, 0), (23, .getfield 14, 12, 0, 0), (26, .getfield 300, 6, 5, 0), (29, .if_icmp .ge 44, 73, 0, 0), (32, .aload_n 0, 0, 0, 0), (33, .getfield 35, 12, 4, 0), (36, .getfield 161, 5, 0, 0), (39, .aload_n 0, 0, 0, 0), (40, .getfield 14, 12, 0, 0), (43, .getfield 399, 6, 6, 0), (46, .iload_n 1, 0, 0, 0), (47, .iaload, 0, 0, 0), (48, .invokevirtual 364, 54, 1, 0), (51, .aload_n 0, 0, 0, 0), (52, .getfield 14, 12, 0, 0), (55, .getfield 402, 6, 7, 0), (58, .iload_n 1, 0, 0, 0), (59, .iaload, 0, 0, 0), (60, .i2l, 0, 0, 0), (61, .lcmp, 0, 0, 0), (62, .ifCond .eq 5, 67, 0, 0), (65, .iconst 0, 0, 0, 0), (66, .ireturn, 0, 0, 0), (67, .iinc 1 1, 0, 0, 0), (70, .goto (-49), 21, 0, 0), (73, .iconst 1, 0, 0, 1), (74, .ireturn, 0, 0, 0)]
/-- 146 WholePacks.lowest(JJI)J -/
noncomputable def k_146 : List (Nat × j_I) := [(0, .lload_n 2, 0, 0, 0), (1, .lstore 5, 0, 0, 0), (3, .lload_n 0, 0, 0, 0), (4, .invokestatic 405, 267, 1, 0), (7, .lstore 7, 0, 0, 0), (9, .iconst 0, 0, 0, 0), (10, .istore 9, 0, 0, 0), (12, .iload 9, 0, 0, 0), (14, .sipush 200, 0, 0, 200), (17, .if_icmp .ge 31, 48, 0, 0), (20, .lload 7, 0, 0, 0), (22, .lconst 0, 0, 0, 0), (23, .lcmp, 0, 0, 0), (24, .ifCond .eq 24, 48, 0, 0), (27, .lload 5, 0, 0, 0), (29, .lload 7, 0, 0, 0), (31, .lrem, 0, 0, 0), (32, .lstore 10, 0, 0, 0), (34, .lload 7, 0, 0, 0), (36, .lstore 5, 0, 0, 0), (38, .lload 10, 0, 0, 0), (40, .lstore 7, 0, 0, 0), (42, .iinc 9 1, 0, 0, 0), (45, .goto (-33), 12, 0, 0), (48, .lload 5, 0, 0, 0), (50, .lconst 0, 0, 0, 0), (51, .lcmp, 0, 0, 0), (52, .ifCond .gt 7, 59, 0, 0), (55, .ldc2_w 170, 0, 0, -9223372036854775808), (58, .lreturn, 0, 0, 0), (59, .iload 4, 0, 0, 0), (61, .ifCond .ne 7, 68, 0, 0), (64, .lload_n 0, 0, 0, 0), (65, .goto 4, 69, 0, 0), (68, .lload_n 2, 0, 0, 0), (69, .lload 5, 0, 0, 0), (71, .ldiv, 0, 0, 0), (72, .lreturn, 0, 0, 0)]
/-- 265 java/lang/Math.floorDiv(JJ)J -/
noncomputable def k_265 : List (Nat × j_I) := [(0, .lload_n 0, 0, 0, 0), (1, .lload_n 2, 0, 0, 0), (2, .ldiv, 0, 0, 0), (3, .lstore 4, 0, 0, 0), (5, .lload_n 0, 0, 0, 0), (6, .lload_n 2, 0, 0, 0), (7, .lxor, 0, 0, 0), (8, .lconst 0, 0, 0, 0), (9, .lcmp, 0, 0, 0), (10, .ifCond .ge 17, 27, 0, 0), (13, .lload 4, 0, 0, 0), (15, .lload_n 2, 0, 0, 0), (16, .lmul, 0, 0, 0), (17, .lload_n 0, 0, 0, 0), (18, .lcmp, 0, 0, 0), (19, .ifCond .eq 8, 27, 0, 0), (22, .lload 4, 0, 0, 0), (24, .lconst 1, 0, 0, 1), (25, .lsub, 0, 0, 0), (26, .lreturn, 0, 0, 0), (27, .lload 4, 0, 0, 0), (29, .lreturn, 0, 0, 0)]
/-- 266 java/lang/Math.floorMod(JJ)J -/
noncomputable def k_266 : List (Nat × j_I) := [(0, .lload_n 0, 0, 0, 0), (1, .lload_n 2, 0, 0, 0), (2, .lrem, 0, 0, 0), (3, .lstore 4, 0, 0, 0), (5, .lload_n 0, 0, 0, 0), (6, .lload_n 2, 0, 0, 0), (7, .lxor, 0, 0, 0), (8, .lconst 0, 0, 0, 0), (9, .lcmp, 0, 0, 0), (10, .ifCond .ge 15, 25, 0, 0), (13, .lload 4, 0, 0, 0), (15, .lconst 0, 0, 0, 0), (16, .lcmp, 0, 0, 0), (17, .ifCond .eq 8, 25, 0, 0), (20, .lload 4, 0, 0, 0), (22, .lload_n 2, 0, 0, 0), (23, .ladd, 0, 0, 0), (24, .lreturn, 0, 0, 0), (25, .lload 4, 0, 0, 0), (27, .lreturn, 0, 0, 0)]
/-- 267 java/lang/Math.abs(J)J -/
noncomputable def k_267 : List (Nat × j_I) := [(0, .lload_n 0, 0, 0, 0), (1, .lconst 0, 0, 0, 0), (2, .lcmp, 0, 0, 0), (3, .ifCond .ge 8, 11, 0, 0), (6, .lload_n 0, 0, 0, 0), (7, .lneg, 0, 0, 0), (8, .goto 4, 12, 0, 0), (11, .lload_n 0, 0, 0, 0), (12, .lreturn, 0, 0, 0)]
/-- 268 java/lang/Math.min(II)I -/
noncomputable def k_268 : List (Nat × j_I) := [(0, .iload_n 0, 0, 0, 0), (1, .iload_n 1, 0, 0, 0), (2, .if_icmp .gt 7, 9, 0, 0), (5, .iload_n 0, 0, 0, 0), (6, .goto 4, 10, 0, 0), (9, .iload_n 1, 0, 0, 0), (10, .ireturn, 0, 0, 0)]
/-- 269 java/util/Arrays.fill([JJ)V -/
noncomputable def k_269 : List (Nat × j_I) := [(0, .iconst 0, 0, 0, 0), (1, .istore_n 3, 0, 0, 0), (2, .aload_n 0, 0, 0, 0), (3, .arraylength, 0, 0, 0), (4, .istore 4, 0, 0, 0), (6, .iload_n 3, 0, 0, 0), (7, .iload 4, 0, 0, 0), (9, .if_icmp .ge 13, 22, 0, 0), (12, .aload_n 0, 0, 0, 0), (13, .iload_n 3, 0, 0, 0), (14, .lload_n 1, 0, 0, 0), (15, .lastore, 0, 0, 0), (16, .iinc 3 1, 0, 0, 0), (19, .goto (-13), 6, 0, 0), (22, .return_, 0, 0, 0)]
/-- 270 java/util/Arrays.fill([II)V -/
noncomputable def k_270 : List (Nat × j_I) := [(0, .iconst 0, 0, 0, 0), (1, .istore_n 2, 0, 0, 0), (2, .aload_n 0, 0, 0, 0), (3, .arraylength, 0, 0, 0), (4, .istore_n 3, 0, 0, 0), (5, .iload_n 2, 0, 0, 0), (6, .iload_n 3, 0, 0, 0), (7, .if_icmp .ge 13, 20, 0, 0), (10, .aload_n 0, 0, 0, 0), (11, .iload_n 2, 0, 0, 0), (12, .iload_n 1, 0, 0, 0), (13, .iastore, 0, 0, 0), (14, .iinc 2 1, 0, 0, 0), (17, .goto (-12), 5, 0, 0), (20, .return_, 0, 0, 0)]
/-- 271 WholePacksLaw.law([I)Z -/
noncomputable def k_271 : List (Nat × j_I) := [(0, .new 20, 12, 0, 0), (3, .dup, 0, 0, 0), (4, .invokespecial 43, 87, 0, 0), (7, .astore_n 1, 0, 0, 0), (8, .aload_n 0, 0, 0, 0), (9, .iconst 0, 0, 0, 0), (10, .invokestatic 25, 308, 2, 0), (13, .istore_n 2, 0, 0, 0), (14, .iconst 2, 0, 0, 2), (15, .iload_n 2, 0, 0, 0), (16, .iconst 3, 0, 0, 3), (17, .iand, 0, 0, 0), (18, .iconst 3, 0, 0, 3), (19, .irem, 0, 0, 0), (20, .iadd, 0, 0, 0), (21, .istore_n 3, 0, 0, 0), (22, .aload_n 1, 0, 0, 0), (23, .iload_n 3, 0, 0, 0), (24, .invokevirtual 44, 88, 1, 0), (27, .iconst 2, 0, 0, 2), (28, .if_icmp .ne 7, 35, 0, 0), (31, .iconst 1, 0, 0, 1), (32, .goto 4, 36, 0, 0), (35, .iconst 0, 0, 0, 0), (36, .istore 4, 0, 0, 0), (38, .iconst 4, 0, 0, 4), (39, .newarray .int, 0, 0, 0), (41, .astore 5, 0, 0, 0), (43, .iconst 0, 0, 0, 0), (44, .istore 6, 0, 0, 0), (46, .iload 6, 0, 0, 0), (48, .iload_n 3, 0, 0, 0), (49, .if_icmp .ge 50, 99, 0, 0), (52, .aload 5, 0, 0, 0), (54, .iload 6, 0, 0, 0), (56, .iload_n 2, 0, 0, 0), (57, .iconst 4, 0, 0, 4), (58, .iconst 4, 0, 0, 4), (59, .iload 6, 0, 0, 0), (61, .imul, 0, 0, 0), (62, .iadd, 0, 0, 0), (63, .ishr, 0, 0, 0), (64, .bipush 15, 0, 0, 15), (66, .iand, 0, 0, 0), (67, .iastore, 0, 0, 0), (68, .iload 4, 0, 0, 0), (70, .aload_n 1, 0, 0, 0), (71, .iload 6, 0, 0, 0), (73, .aload 5, 0, 0, 0), (75, .iload 6, 0, 0, 0), (77, .iaload, 0, 0, 0), (78, .invokevirtual 47, 89, 2, 0), (81, .iconst 1, 0, 0, 1), (82, .if_icmp .ne 7, 89, 0, 0), (85, .iconst 1, 0, 0, 1), (86, .goto 4, 90, 0, 0), (89, .iconst 0, 0, 0, 0), (90, .iand, 0, 0, 0), (91, .istore 4, 0, 0, 0), (93, .iinc 6 1, 0, 0, 0), (96, .goto (-50), 46, 0, 0), (99, .iconst 0, 0, 0, 0), (100, .istore 6, 0, 0, 0), (102, .iconst 0, 0, 0, 0), (103, .istore 7, 0, 0, 0), (105, .iload 7, 0, 0, 0), (107, .iconst 3, 0, 0, 3), (108, .if_icmp .ge 704, 812, 0, 0), (111, .aload_n 0, 0, 0, 0), (112, .iconst 1, 0, 0, 1), (113, .iload 7, 0, 0, 0), (115, .iadd, 0, 0, 0), (116, .invokestatic 25, 308, 2, 0), (119, .istore 8, 0, 0, 0), (121, .iconst 4, 0, 0, 4), (122, .newarray .int, 0, 0, 0), (124, .astore 9, 0, 0, 0), (126, .ldc 50, 1, 0, 0), (128, .astore 10, 0, 0, 0), (130, .iconst 0, 0, 0, 0), (131, .istore 11, 0, 0, 0), (133, .iload 11, 0, 0, 0), (135, .iconst 3, 0, 0, 3), (136, .if_icmp .ge 237, 373, 0, 0), (139, .iload 8, 0, 0, 0), (141, .iconst 4, 0, 0, 4), (142, .iload 11, 0, 0, 0), (144, .imul, 0, 0, 0), (145, .ishr, 0, 0, 0), (146, .bipush 7, 0, 0, 7), (148, .iand, 0, 0, 0), (149, .istore 12, 0, 0, 0), (151, .iload 8, 0, 0, 0), (153, .iconst 4, 0, 0, 4), (154, .iload 11, 0, 0, 0), (156, .imul, 0, 0, 0), (157, .bipush 12, 0, 0, 12), (159, .iadd, 0, 0, 0), (160, .ishr, 0, 0, 0), (161, .bipush 15, 0, 0, 15), (163, .iand, 0, 0, 0), (164, .iload_n 3, 0, 0, 0), (165, .irem, 0, 0, 0), (166, .istore 13, 0, 0, 0), (168, .iload 8, 0, 0, 0), (170, .iconst 4, 0, 0, 4), (171, .iload 11, 0, 0, 0), (173, .imul, 0, 0, 0), (174, .ishr, 0, 0, 0), (175, .bipush 8, 0, 0, 8), (177, .iand, 0, 0, 0), (178, .ifCond .eq 7, 185, 0, 0), (181, .iconst 1, 0, 0, 1), (182, .goto 4, 186, 0, 0), (185, .iconst 0, 0, 0, 0), (186, .istore 14, 0, 0, 0), (188, .aload 9, 0, 0, 0), (190, .iload 13, 0, 0, 0), (192, .iaload, 0, 0, 0), (193, .iload 14, 0, 0, 0), (195, .ifCond .eq 9, 204, 0, 0), (198, .iload 12, 0, 0, 0), (200, .ineg, 0, 0, 0), (201, .goto 5, 206, 0, 0), (204, .iload 12, 0, 0, 0), (206, .iadd, 0, 0, 0), (207, .bipush 9, 0, 0, 9), (209, .if_icmp .gt 31, 240, 0, 0), (212, .aload 9, 0, 0, 0), (214, .iload 13, 0, 0, 0), (216, .iaload, 0, 0, 0), (217, .iload 14, 0, 0, 0), (219, .ifCond .eq 9, 228, 0, 0), (222, .iload 12, 0, 0, 0), (224, .ineg, 0, 0, 0), (225, .goto 5, 230, 0, 0), (228, .iload 12, 0, 0, 0), (230, .iadd, 0, 0, 0), (231, .bipush (-9), 0, 0, -9), (233, .if_icmp .lt 7, 240, 0, 0), (236, .iconst 1, 0, 0, 1), (237, .goto 4, 241, 0, 0), (240, .iconst 0, 0, 0, 0), (241, .istore 15, 0, 0, 0), (243, .iload 15, 0, 0, 0), (245, .ifCond .eq 122, 367, 0, 0), (248, .aload 9, 0, 0, 0), (250, .iload 13, 0, 0, 0), (252, .dup2, 0, 0, 0), (253, .iaload, 0, 0, 0), (254, .iload 14, 0, 0, 0), (256, .ifCond .eq 9, 265, 0, 0), (259, .iload 12, 0, 0, 0), (261, .ineg, 0, 0, 0), (262, .goto 5, 267, 0, 0), (265, .iload 12, 0, 0, 0), (267, .iadd, 0, 0, 0), (268, .iastore, 0, 0, 0), (269, .new 52, 1, 0, 0), (272, .dup, 0, 0, 0), (273, .invokespecial 54, 286, 0, 0), (276, .aload 10, 0, 0, 0), (278, .invokevirtual 55, 283, 1, 0), (281, .iload 14, 0, 0, 0), (283, .ifCond .eq 8, 291, 0, 0), (286, .ldc 59, 1, 1, 0), (288, .goto 18, 306, 0, 0), (291, .aload 10, 0, 0, 0), (293, .invokevirtual 9, 279, 0, 0), (296, .ifCond .le 8, 304, 0, 0), (299, .ldc 61, 1, 2, 0), (301, .goto 5, 306, 0, 0), (304, .ldc 50, 1, 0, 0), (306, .invokevirtual 55, 283, 1, 0), (309, .iload 12, 0, 0, 0), (311, .iconst 1, 0, 0, 1), (312, .if_icmp .ne 18, 330, 0, 0), (315, .iload 8, 0, 0, 0), (317, .bipush 27, 0, 0, 27), (319, .ishr, 0, 0, 0), (320, .iconst 1, 0, 0, 1), (321, .iand, 0, 0, 0), (322, .ifCond .ne 8, 330, 0, 0), (325, .ldc 50, 1, 0, 0), (327, .goto 23, 350, 0, 0), (330, .new 52, 1, 0, 0), (333, .dup, 0, 0, 0), (334, .invokespecial 54, 286, 0, 0), (337, .ldc 50, 1, 0, 0), (339, .invokevirtual 55, 283, 1, 0), (342, .iload 12, 0, 0, 0), (344, .invokevirtual 63, 284, 1, 0), (347, .invokevirtual 66, 288, 0, 0), (350, .invokevirtual 55, 283, 1, 0), (353, .bipush 97, 0, 0, 97), (355, .iload 13, 0, 0, 0), (357, .iadd, 0, 0, 0), (358, .i2c, 0, 0, 0), (359, .invokevirtual 70, 285, 1, 0), (362, .invokevirtual 66, 288, 0, 0), (365, .astore 10, 0, 0, 0), (367, .iinc 11 1, 0, 0, 0), (370, .goto (-237), 133, 0, 0), (373, .iload 8, 0, 0, 0), (375, .bipush 24, 0, 0, 24), (377, .ishr, 0, 0, 0), (378, .bipush 7, 0, 0, 7), (380, .iand, 0, 0, 0), (381, .bipush 15, 0, 0, 15), (383, .imul, 0, 0, 0), (384, .bipush 20, 0, 0, 20), (386, .isub, 0, 0, 0), (387, .istore 11, 0, 0, 0), (389, .new 52, 1, 0, 0), (392, .dup, 0, 0, 0), (393, .invokespecial 54, 286, 0, 0), (396, .aload 10, 0, 0, 0), (398, .invokevirtual 55, 283, 1, 0), (401, .iload 8, 0, 0, 0), (403, .bipush 28, 0, 0, 28), (405, .ishr, 0, 0, 0), (406, .iconst 1, 0, 0, 1), (407, .iand, 0, 0, 0), (408, .ifCond .ne 8, 416, 0, 0), (411, .ldc 73, 1, 3, 0), (413, .goto 5, 418, 0, 0), (416, .ldc 75, 1, 4, 0), (418, .invokevirtual 55, 283, 1, 0), (421, .iload 11, 0, 0, 0), (423, .invokevirtual 63, 284, 1, 0), (426, .invokevirtual 66, 288, 0, 0), (429, .astore 10, 0, 0, 0), (431, .iload 8, 0, 0, 0), (433, .bipush 29, 0, 0, 29), (435, .ishr, 0, 0, 0), (436, .iconst 3, 0, 0, 3), (437, .iand, 0, 0, 0), (438, .istore 12, 0, 0, 0), (440, .iload 12, 0, 0, 0), (442, .ifCond .ne 232, 674, 0, 0), (445, .aload 10, 0, 0, 0), (447, .invokevirtual 9, 279, 0, 0), (450, .istore 13, 0, 0, 0), (452, .iload 4, 0, 0, 0), (454, .aload_n 1, 0, 0, 0), (455, .new 52, 1, 0, 0), (458, .dup, 0, 0, 0), (459, .invokespecial 54, 286, 0, 0), (462, .aload 10, 0, 0, 0), (464, .invokevirtual 55, 283, 1, 0), (467, .ldc 77, 1, 5, 0), (469, .invokevirtual 55, 283, 1, 0), (472, .invokevirtual 66, 288, 0, 0), (475, .invokestatic 79, 309, 2, 0), (478, .ifCond .eq 40, 518, 0, 0), (481, .aload_n 1, 0, 0, 0), (482, .invokevirtual 83, 95, 0, 0), (485, .bipush (-10), 0, 0, -10), (487, .iload 13, 0, 0, 0), (489, .isub, 0, 0, 0), (490, .iconst 2, 0, 0, 2), (491, .isub, 0, 0, 0), (492, .if_icmp .ne 26, 518, 0, 0), (495, .aload_n 1, 0, 0, 0), (496, .bipush 8, 0, 0, 8), (498, .invokevirtual 86, 130, 1, 0), (501, .ifCond .ne 17, 518, 0, 0), (504, .aload_n 1, 0, 0, 0), (505, .iconst 1, 0, 0, 1), (506, .invokevirtual 86, 130, 1, 0), (509, .iload 6, 0, 0, 0), (511, .if_icmp .ne 7, 518, 0, 0), (514, .iconst 1, 0, 0, 1), (515, .goto 4, 519, 0, 0), (518, .iconst 0, 0, 0, 0), (519, .iand, 0, 0, 0), (520, .istore 4, 0, 0, 0), (522, .iload 4, 0, 0, 0), (524, .aload_n 1, 0, 0, 0), (525, .new 52, 1, 0, 0), (528, .dup, 0, 0, 0), (529, .invokespecial 54, 286, 0, 0), (532, .aload 10, 0, 0, 0), (534, .invokevirtual 55, 283, 1, 0), (537, .ldc 89, 1, 6, 0), (539, .invokevirtual 55, 283, 1, 0), (542, .invokevirtual 66, 288, 0, 0), (545, .invokestatic 79, 309, 2, 0), (548, .ifCond .eq 122, 670, 0, 0), (551, .aload_n 1, 0, 0, 0), (552, .invokevirtual 83, 95, 0, 0), (555, .bipush (-10), 0, 0, -10), (557, .iload 13, 0, 0, 0), (559, .isub, 0, 0, 0), (560, .if_icmp .ne 110, 670, 0, 0), (563, .aload_n 1, 0, 0, 0), (564, .new 52, 1, 0, 0), (567, .dup, 0, 0, 0), (568, .invokespecial 54, 286, 0, 0), (571, .aload 10, 0, 0, 0), (573, .invokevirtual 55, 283, 1, 0), (576, .ldc 91, 1, 7, 0), (578, .invokevirtual 55, 283, 1, 0), (581, .invokevirtual 66, 288, 0, 0), (584, .invokestatic 79, 309, 2, 0), (587, .ifCond .eq 83, 670, 0, 0), (590, .aload_n 1, 0, 0, 0), (591, .invokevirtual 83, 95, 0, 0), (594, .bipush (-10), 0, 0, -10), (596, .iload 13, 0, 0, 0), (598, .isub, 0, 0, 0), (599, .iconst 4, 0, 0, 4), (600, .isub, 0, 0, 0), (601, .if_icmp .ne 69, 670, 0, 0), (604, .aload_n 1, 0, 0, 0), (605, .ldc 93, 1, 8, 0), (607, .invokestatic 79, 309, 2, 0), (610, .ifCond .eq 60, 670, 0, 0), (613, .aload_n 1, 0, 0, 0), (614, .invokevirtual 83, 95, 0, 0), (617, .bipush (-15), 0, 0, -15), (619, .if_icmp .ne 51, 670, 0, 0), (622, .aload_n 1, 0, 0, 0), (623, .new 52, 1, 0, 0), (626, .dup, 0, 0, 0), (627, .invokespecial 54, 286, 0, 0), (630, .ldc 50, 1, 0, 0), (632, .invokevirtual 55, 283, 1, 0), (635, .bipush 97, 0, 0, 97), (637, .iload_n 3, 0, 0, 0), (638, .iadd, 0, 0, 0), (639, .i2c, 0, 0, 0), (640, .invokevirtual 70, 285, 1, 0), (643, .ldc 95, 1, 9, 0), (645, .invokevirtual 55, 283, 1, 0), (648, .invokevirtual 66, 288, 0, 0), (651, .invokestatic 79, 309, 2, 0), (654, .ifCond .eq 16, 670, 0, 0), (657, .aload_n 1, 0, 0, 0), (658, .invokevirtual 83, 95, 0, 0), (661, .bipush (-10), 0, 0, -10), (663, .if_icmp .ne 7, 670, 0, 0), (666, .iconst 1, 0, 0, 1), (667, .goto 4, 671, 0, 0), (670, .iconst 0, 0, 0, 0), (671, .iand, 0, 0, 0), (672, .istore 4, 0, 0, 0), (674, .iload 4, 0, 0, 0), (676, .aload_n 1, 0, 0, 0), (677, .aload 10, 0, 0, 0), (679, .invokestatic 79, 309, 2, 0), (682, .ifCond .eq 15, 697, 0, 0), (685, .aload_n 1, 0, 0, 0), (686, .invokevirtual 83, 95, 0, 0), (689, .iconst 1, 0, 0, 1), (690, .if_icmp .ne 7, 697, 0, 0), (693, .iconst 1, 0, 0, 1), (694, .goto 4, 698, 0, 0), (697, .iconst 0, 0, 0, 0), (698, .iand, 0, 0, 0), (699, .istore 4, 0, 0, 0), (701, .iload 4, 0, 0, 0), (703, .aload_n 1, 0, 0, 0), (704, .iload 6, 0, 0, 0), (706, .iconst 0, 0, 0, 0), (707, .invokevirtual 97, 96, 2, 0), (710, .iload 8, 0, 0, 0), (712, .bipush 28, 0, 0, 28), (714, .ishr, 0, 0, 0), (715, .iconst 1, 0, 0, 1), (716, .iand, 0, 0, 0), (717, .ifCond .ne 9, 726, 0, 0), (720, .sipush 1000, 0, 0, 1000), (723, .goto 6, 729, 0, 0), (726, .sipush 1001, 0, 0, 1001), (729, .if_icmp .ne 23, 752, 0, 0), (732, .aload_n 1, 0, 0, 0), (733, .iload 6, 0, 0, 0), (735, .iconst 1, 0, 0, 1), (736, .invokevirtual 97, 96, 2, 0), (739, .sipush 1000, 0, 0, 1000), (742, .iload 11, 0, 0, 0), (744, .iadd, 0, 0, 0), (745, .if_icmp .ne 7, 752, 0, 0), (748, .iconst 1, 0, 0, 1), (749, .goto 4, 753, 0, 0), (752, .iconst 0, 0, 0, 0), (753, .iand, 0, 0, 0), (754, .istore 4, 0, 0, 0), (756, .iconst 0, 0, 0, 0), (757, .istore 13, 0, 0, 0), (759, .iload 13, 0, 0, 0), (761, .iload_n 3, 0, 0, 0), (762, .if_icmp .ge 41, 803, 0, 0), (765, .iload 4, 0, 0, 0), (767, .aload_n 1, 0, 0, 0), (768, .iload 6, 0, 0, 0), (770, .iconst 2, 0, 0, 2), (771, .iload 13, 0, 0, 0), (773, .iadd, 0, 0, 0), (774, .invokevirtual 97, 96, 2, 0), (777, .sipush 1000, 0, 0, 1000), (780, .aload 9, 0, 0, 0), (782, .iload 13, 0, 0, 0), (784, .iaload, 0, 0, 0), (785, .iadd, 0, 0, 0), (786, .if_icmp .ne 7, 793, 0, 0), (789, .iconst 1, 0, 0, 1), (790, .goto 4, 794, 0, 0), (793, .iconst 0, 0, 0, 0), (794, .iand, 0, 0, 0), (795, .istore 4, 0, 0, 0), (797, .iinc 13 1, 0, 0, 0), (800, .goto (-41), 759, 0, 0), (803, .iinc 6 1, 0, 0, 0), (806, .iinc 7 1, 0, 0, 0), (809, .goto (-704), 105, 0, 0), (812, .bipush 100, 0, 0, 100), (814, .newarray .int, 0, 0, 0), (816, .astore 7, 0, 0, 0), (818, .iconst 0, 0, 0, 0), (819, .istore 8, 0, 0, 0), (821, .iconst 0, 0, 0, 0), (822, .istore 9, 0, 0, 0), (824, .iload 9, 0, 0, 0), (826, .bipush 100, 0, 0, 100), (828, .if_icmp .ge 16, 844, 0, 0), (831, .aload 7, 0, 0, 0), (833, .iload 9, 0, 0, 0), (835, .bipush (-5), 0, 0, -5), (837, .iastore, 0, 0, 0), (838, .iinc 9 1, 0, 0, 0), (841, .goto (-17), 824, 0, 0), (844, .bipush 100, 0, 0, 100), (846, .newarray .int, 0, 0, 0), (848, .astore 9, 0, 0, 0), (850, .iconst 0, 0, 0, 0), (851, .istore 10, 0, 0, 0), (853, .iload 10, 0, 0, 0), (855, .bipush 8, 0, 0, 8), (857, .if_icmp .ge 141, 998, 0, 0), (860, .aload_n 0, 0, 0, 0), (861, .bipush 10, 0, 0, 10), (863, .iload 10, 0, 0, 0), (865, .iadd, 0, 0, 0), (866, .invokestatic 25, 308, 2, 0), (869, .istore 11, 0, 0, 0), (871, .iload 11, 0, 0, 0), (873, .bipush 127, 0, 0, 127), (875, .iand, 0, 0, 0), (876, .bipush 100, 0, 0, 100), (878, .irem, 0, 0, 0), (879, .istore 12, 0, 0, 0), (881, .iload 12, 0, 0, 0), (883, .istore 13, 0, 0, 0), (885, .iconst 0, 0, 0, 0), (886, .istore 14, 0, 0, 0), (888, .aload 5, 0, 0, 0), (890, .iload_n 3, 0, 0, 0), (891, .iconst 1, 0, 0, 1), (892, .isub, 0, 0, 0), (893, .iaload, 0, 0, 0), (894, .iload 13, 0, 0, 0), (896, .bipush 10, 0, 0, 10), (898, .irem, 0, 0, 0), (899, .imul, 0, 0, 0), (900, .aload 5, 0, 0, 0), (902, .iload_n 3, 0, 0, 0), (903, .iconst 2, 0, 0, 2), (904, .isub, 0, 0, 0), (905, .iaload, 0, 0, 0), (906, .iload 13, 0, 0, 0), (908, .bipush 10, 0, 0, 10), (910, .idiv, 0, 0, 0), (911, .imul, 0, 0, 0), (912, .iadd, 0, 0, 0), (913, .istore 14, 0, 0, 0), (915, .iload 11, 0, 0, 0), (917, .bipush 7, 0, 0, 7), (919, .ishr, 0, 0, 0), (920, .bipush 127, 0, 0, 127), (922, .iand, 0, 0, 0), (923, .istore 15, 0, 0, 0), (925, .iload 4, 0, 0, 0), (927, .aload_n 1, 0, 0, 0), (928, .iload 12, 0, 0, 0), (930, .iload 15, 0, 0, 0), (932, .invokevirtual 100, 121, 2, 0), (935, .aload 7, 0, 0, 0), (937, .iload 12, 0, 0, 0), (939, .iaload, 0, 0, 0), (940, .if_icmp .ne 16, 956, 0, 0), (943, .aload_n 1, 0, 0, 0), (944, .iload 14, 0, 0, 0), (946, .invokevirtual 103, 123, 1, 0), (949, .ifCond .lt 7, 956, 0, 0), (952, .iconst 1, 0, 0, 1), (953, .goto 4, 957, 0, 0), (956, .iconst 0, 0, 0, 0), (957, .iand, 0, 0, 0), (958, .istore 4, 0, 0, 0), (960, .iload 8, 0, 0, 0), (962, .aload 7, 0, 0, 0), (964, .iload 12, 0, 0, 0), (966, .iaload, 0, 0, 0), (967, .ifCond .ge 7, 974, 0, 0), (970, .iconst 1, 0, 0, 1), (971, .goto 4, 975, 0, 0), (974, .iconst 0, 0, 0, 0), (975, .iadd, 0, 0, 0), (976, .istore 8, 0, 0, 0), (978, .aload 7, 0, 0, 0), (980, .iload 12, 0, 0, 0), (982, .iload 15, 0, 0, 0), (984, .iastore, 0, 0, 0), (985, .aload 9, 0, 0, 0), (987, .iload 12, 0, 0, 0), (989, .iload 14, 0, 0, 0), (991, .iastore, 0, 0, 0), (992, .iinc 10 1, 0, 0, 0), (995, .goto (-142), 853, 0, 0), (998, .iconst (-1), 0, 0, -1), (999, .istore 10, 0, 0, 0), (1001, .iconst (-1), 0, 0, -1), (1002, .istore 11, 0, 0, 0), (1004, .iconst 0, 0, 0, 0), (1005, .istore 12, 0, 0, 0), (1007, .iload 12, 0, 0, 0), (1009, .iload 8, 0, 0, 0), (1011, .if_icmp .ge 159, 1170, 0, 0), (1014, .aload_n 1, 0, 0, 0), (1015, .iload 12, 0, 0, 0), (1017, .iconst 0, 0, 0, 0), (1018, .invokevirtual 106, 122, 2, 0), (1021, .istore 13, 0, 0, 0), (1023, .iload 4, 0, 0, 0), (1025, .iload 13, 0, 0, 0), (1027, .ifCond .lt 90, 1117, 0, 0), (1030, .iload 13, 0, 0, 0), (1032, .bipush 100, 0, 0, 100), (1034, .if_icmp .ge 83, 1117, 0, 0), (1037, .aload 7, 0, 0, 0), (1039, .iload 13, 0, 0, 0), (1041, .iaload, 0, 0, 0), (1042, .ifCond .lt 75, 1117, 0, 0), (1045, .aload_n 1, 0, 0, 0), (1046, .iload 12, 0, 0, 0), (1048, .iconst 1, 0, 0, 1), (1049, .invokevirtual 106, 122, 2, 0), (1052, .aload 7, 0, 0, 0), (1054, .iload 13, 0, 0, 0), (1056, .iaload, 0, 0, 0), (1057, .if_icmp .ne 60, 1117, 0, 0), (1060, .aload_n 1, 0, 0, 0), (1061, .iload 12, 0, 0, 0), (1063, .iconst 2, 0, 0, 2), (1064, .invokevirtual 106, 122, 2, 0), (1067, .aload 9, 0, 0, 0), (1069, .iload 13, 0, 0, 0), (1071, .iaload, 0, 0, 0), (1072, .if_icmp .ne 45, 1117, 0, 0), (1075, .iload 10, 0, 0, 0), (1077, .ifCond .lt 36, 1113, 0, 0), (1080, .aload 9, 0, 0, 0), (1082, .iload 10, 0, 0, 0), (1084, .iaload, 0, 0, 0), (1085, .aload 9, 0, 0, 0), (1087, .iload 13, 0, 0, 0), (1089, .iaload, 0, 0, 0), (1090, .if_icmp .lt 23, 1113, 0, 0), (1093, .aload 9, 0, 0, 0), (1095, .iload 10, 0, 0, 0), (1097, .iaload, 0, 0, 0), (1098, .aload 9, 0, 0, 0), (1100, .iload 13, 0, 0, 0), (1102, .iaload, 0, 0, 0), (1103, .if_icmp .ne 14, 1117, 0, 0), (1106, .iload 10, 0, 0, 0), (1108, .iload 13, 0, 0, 0), (1110, .if_icmp .ge 7, 1117, 0, 0), (1113, .iconst 1, 0, 0, 1), (1114, .goto 4, 1118, 0, 0), (1117, .iconst 0, 0, 0, 0), (1118, .iand, 0, 0, 0), (1119, .istore 4, 0, 0, 0), (1121, .iload 11, 0, 0, 0), (1123, .ifCond .lt 28, 1151, 0, 0), (1126, .aload 7, 0, 0, 0), (1128, .iload 13, 0, 0, 0), (1130, .iaload, 0, 0, 0), (1131, .aload 9, 0, 0, 0), (1133, .iload 13, 0, 0, 0), (1135, .iaload, 0, 0, 0), (1136, .isub, 0, 0, 0), (1137, .aload 7, 0, 0, 0), (1139, .iload 11, 0, 0, 0), (1141, .iaload, 0, 0, 0), (1142, .aload 9, 0, 0, 0), (1144, .iload 11, 0, 0, 0), (1146, .iaload, 0, 0, 0), (1147, .isub, 0, 0, 0), (1148, .if_icmp .le 8, 1156, 0, 0), (1151, .iload 13, 0, 0, 0), (1153, .goto 5, 1158, 0, 0), (1156, .iload 11, 0, 0, 0), (1158, .istore 11, 0, 0, 0), (1160, .iload 13, 0, 0, 0), (1162, .istore 10, 0, 0, 0), (1164, .iinc 12 1, 0, 0, 0), (1167, .goto (-160), 1007, 0, 0), (1170, .iload 4, 0, 0, 0), (1172, .aload_n 1, 0, 0, 0), (1173, .bipush 7, 0, 0, 7), (1175, .invokevirtual 86, 130, 1, 0), (1178, .iload 8, 0, 0, 0), (1180, .if_icmp .ne 49, 1229, 0, 0), (1183, .aload_n 1, 0, 0, 0), (1184, .iload 8, 0, 0, 0), (1186, .iconst 0, 0, 0, 0), (1187, .invokevirtual 106, 122, 2, 0), (1190, .bipush (-2), 0, 0, -2), (1192, .if_icmp .ne 37, 1229, 0, 0), (1195, .aload_n 1, 0, 0, 0), (1196, .invokevirtual 109, 124, 0, 0), (1199, .iload 11, 0, 0, 0), (1201, .if_icmp .ne 28, 1229, 0, 0), (1204, .aload_n 1, 0, 0, 0), (1205, .ldc 112, 0, 0, 1000000), (1207, .invokevirtual 103, 123, 1, 0), (1210, .iload 10, 0, 0, 0), (1212, .if_icmp .ne 17, 1229, 0, 0), (1215, .aload_n 1, 0, 0, 0), (1216, .iconst (-1), 0, 0, -1), (1217, .invokevirtual 103, 123, 1, 0), (1220, .bipush (-5), 0, 0, -5), (1222, .if_icmp .ne 7, 1229, 0, 0), (1225, .iconst 1, 0, 0, 1), (1226, .goto 4, 1230, 0, 0), (1229, .iconst 0, 0, 0, 0), (1230, .iand, 0, 0, 0), (1231, .istore 4, 0, 0, 0), (1233, .iload 4, 0, 0, 0), (1235, .ifCond .ne 5, 1240, 0, 0), (1238, .iconst 0, 0, 0, 0), (1239, .ireturn, 0, 0, 0), (1240, .iload_n 2, 0, 0, 0), (1241, .bipush 20, 0, 0, 20), (1243, .ishr, 0, 0, 0), (1244, .iconst 3, 0, 0, 3), (1245, .iand, 0, 0, 0), (1246, .iload 6, 0, 0, 0), (1248, .irem, 0, 0, 0), (1249, .istore 12, 0, 0, 0), (1251, .iload_n 2, 0, 0, 0), (1252, .bipush 22, 0, 0, 22), (1254, .ishr, 0, 0, 0), (1255, .bipush 63, 0, 0, 63), (1257, .iand, 0, 0, 0), (1258, .istore 13, 0, 0, 0), (1260, .aload_n 1, 0, 0, 0), (1261, .invokevirtual 113, 126, 0, 0), (1264, .istore 14, 0, 0, 0), (1266, .iload 4, 0, 0, 0), (1268, .aload_n 1, 0, 0, 0), (1269, .iconst 0, 0, 0, 0), (1270, .iload 12, 0, 0, 0), (1272, .iload 13, 0, 0, 0), (1274, .invokevirtual 116, 125, 3, 0), (1277, .iconst 1, 0, 0, 1), (1278, .if_icmp .ne 46, 1324, 0, 0), (1281, .aload_n 1, 0, 0, 0), (1282, .invokevirtual 113, 126, 0, 0), (1285, .aload_n 1, 0, 0, 0), (1286, .iload 12, 0, 0, 0), (1288, .iload 13, 0, 0, 0), (1290, .invokevirtual 119, 115, 2, 0), (1293, .if_icmp .ne 31, 1324, 0, 0), (1296, .aload_n 1, 0, 0, 0), (1297, .iconst 1, 0, 0, 1), (1298, .iconst 0, 0, 0, 0), (1299, .bipush 7, 0, 0, 7), (1301, .invokevirtual 116, 125, 3, 0), (1304, .iconst 2, 0, 0, 2), (1305, .if_icmp .ne 19, 1324, 0, 0), (1308, .aload_n 1, 0, 0, 0), (1309, .iconst 2, 0, 0, 2), (1310, .iload 12, 0, 0, 0), (1312, .iconst 3, 0, 0, 3), (1313, .invokevirtual 116, 125, 3, 0), (1316, .iconst 3, 0, 0, 3), (1317, .if_icmp .ne 7, 1324, 0, 0), (1320, .iconst 1, 0, 0, 1), (1321, .goto 4, 1325, 0, 0), (1324, .iconst 0, 0, 0, 0), (1325, .iand, 0, 0, 0), (1326, .istore 4, 0, 0, 0), (1328, .aload_n 1, 0, 0, 0), (1329, .invokevirtual 113, 126, 0, 0), (1332, .istore 15, 0, 0, 0), (1334, .iload 4, 0, 0, 0), (1336, .aload_n 1, 0, 0, 0), (1337, .invokevirtual 122, 128, 0, 0), (1340, .iload 6, 0, 0, 0), (1342, .if_icmp .ne 107, 1449, 0, 0), (1345, .aload_n 1, 0, 0, 0), (1346, .iload 12, 0, 0, 0), (1348, .iload 13, 0, 0, 0), (1350, .invokevirtual 125, 92, 2, 0), (1353, .sipush 901, 0, 0, 901), (1356, .if_icmp .lt 93, 1449, 0, 0), (1359, .aload_n 1, 0, 0, 0), (1360, .iconst 0, 0, 0, 0), (1361, .bipush 7, 0, 0, 7), (1363, .invokevirtual 47, 89, 2, 0), (1366, .aload 5, 0, 0, 0), (1368, .iconst 0, 0, 0, 0), (1369, .iaload, 0, 0, 0), (1370, .if_icmp .ne 79, 1449, 0, 0), (1373, .aload_n 1, 0, 0, 0), (1374, .bipush 7, 0, 0, 7), (1376, .invokevirtual 86, 130, 1, 0), (1379, .ifCond .ne 70, 1449, 0, 0), (1382, .aload_n 1, 0, 0, 0), (1383, .iload 12, 0, 0, 0), (1385, .iconst 0, 0, 0, 0), (1386, .iconst 3, 0, 0, 3), (1387, .invokevirtual 35, 91, 3, 0), (1390, .bipush 91, 0, 0, 91), (1392, .if_icmp .lt 57, 1449, 0, 0), (1395, .aload_n 1, 0, 0, 0), (1396, .iconst (-1), 0, 0, -1), (1397, .bipush 9, 0, 0, 9), (1399, .bipush 9, 0, 0, 9), (1401, .invokevirtual 116, 125, 3, 0), (1404, .ifCond .ne 45, 1449, 0, 0), (1407, .aload_n 1, 0, 0, 0), (1408, .invokevirtual 113, 126, 0, 0), (1411, .iload 15, 0, 0, 0), (1413, .if_icmp .ne 36, 1449, 0, 0), (1416, .aload_n 1, 0, 0, 0), (1417, .invokevirtual 128, 93, 0, 0), (1420, .iload 6, 0, 0, 0), (1422, .iconst 1, 0, 0, 1), (1423, .isub, 0, 0, 0), (1424, .if_icmp .ne 25, 1449, 0, 0), (1427, .aload_n 1, 0, 0, 0), (1428, .iconst 5, 0, 0, 5), (1429, .invokevirtual 44, 88, 1, 0), (1432, .iload_n 3, 0, 0, 0), (1433, .if_icmp .ne 16, 1449, 0, 0), (1436, .aload_n 1, 0, 0, 0), (1437, .invokevirtual 131, 129, 0, 0), (1440, .iload 6, 0, 0, 0), (1442, .if_icmp .ne 7, 1449, 0, 0), (1445, .iconst 1, 0, 0, 1), (1446, .goto 4, 1450, 0, 0), (1449, .iconst 0, 0, 0, 0), (1450, .iand, 0, 0, 0), (1451, .istore 4, 0, 0, 0), (1453, .iload 4, 0, 0, 0), (1455, .aload_n 1, 0, 0, 0), (1456, .iconst 0, 0, 0, 0), (1457, .invokevirtual 86, 130, 1, 0), (1460, .iload_n 3, 0, 0, 0), (1461, .if_icmp .ne 56, 1517, 0, 0), (1464, .aload_n 1, 0, 0, 0), (1465, .bipush 6, 0, 0, 6), (1467, .invokevirtual 86, 130, 1, 0), (1470, .iconst 3, 0, 0, 3), (1471, .if_icmp .ne 46, 1517, 0, 0), (1474, .aload_n 1, 0, 0, 0), (1475, .bipush 7, 0, 0, 7), (1477, .invokevirtual 86, 130, 1, 0), (1480, .iload 8, 0, 0, 0), (1482, .if_icmp .ne 35, 1517, 0, 0), (1485, .aload_n 1, 0, 0, 0), (1486, .invokevirtual 113, 126, 0, 0), (1489, .iload 15, 0, 0, 0), (1491, .if_icmp .ne 26, 1517, 0, 0), (1494, .aload_n 1, 0, 0, 0), (1495, .iconst (-1), 0, 0, -1), (1496, .iconst 0, 0, 0, 0), (1497, .iconst 0, 0, 0, 0), (1498, .invokevirtual 116, 125, 3, 0), (1501, .ifCond .ne 16, 1517, 0, 0), (1504, .aload_n 1, 0, 0, 0), (1505, .invokevirtual 113, 126, 0, 0), (1508, .iload 14, 0, 0, 0), (1510, .if_icmp .ne 7, 1517, 0, 0), (1513, .iconst 1, 0, 0, 1), (1514, .goto 4, 1518, 0, 0), (1517, .iconst 0, 0, 0, 0), (1518, .iand, 0, 0, 0), (1519, .istore 4, 0, 0, 0), (1521, .aload_n 1, 0, 0, 0), (1522, .iload_n 2, 0, 0, 0), (1523, .iconst 1, 0, 0, 1), (1524, .iload_n 2, 0, 0, 0), (1525, .iconst 3, 0, 0, 3), (1526, .iand, 0, 0, 0), (1527, .iadd, 0, 0, 0), (1528, .invokevirtual 134, 120, 2, 0), (1531, .istore 16, 0, 0, 0), (1533, .iload 4, 0, 0, 0), (1535, .iload 16, 0, 0, 0), (1537, .bipush (-6), 0, 0, -6), (1539, .if_icmp .lt 31, 1570, 0, 0), (1542, .iload 16, 0, 0, 0), (1544, .aload_n 1, 0, 0, 0), (1545, .iload_n 2, 0, 0, 0), (1546, .iconst 1, 0, 0, 1), (1547, .iload_n 2, 0, 0, 0), (1548, .iconst 3, 0, 0, 3), (1549, .iand, 0, 0, 0), (1550, .iadd, 0, 0, 0), (1551, .invokevirtual 134, 120, 2, 0), (1554, .if_icmp .ne 16, 1570, 0, 0), (1557, .aload_n 1, 0, 0, 0), (1558, .invokevirtual 113, 126, 0, 0), (1561, .iload 14, 0, 0, 0), (1563, .if_icmp .ne 7, 1570, 0, 0), (1566, .iconst 1, 0, 0, 1), (1567, .goto 4, 1571, 0, 0), (1570, .iconst 0, 0, 0, 0), (1571, .iand, 0, 0, 0), (1572, .istore 4, 0, 0, 0), (1574, .iload 4, 0, 0, 0), (1576, .aload_n 1, 0, 0, 0), (1577, .iconst 0, 0, 0, 0), (1578, .iload_n 2, 0, 0, 0), (1579, .bipush 8, 0, 0, 8), (1581, .ishr, 0, 0, 0), (1582, .iconst 3, 0, 0, 3), (1583, .iand, 0, 0, 0), (1584, .invokevirtual 137, 116, 2, 0), (1587, .iconst 1, 0, 0, 1), (1588, .if_icmp .ne 7, 1595, 0, 0), (1591, .iconst 1, 0, 0, 1), (1592, .goto 4, 1596, 0, 0), (1595, .iconst 0, 0, 0, 0), (1596, .iand, 0, 0, 0), (1597, .istore 4, 0, 0, 0), (1599, .aload_n 1, 0, 0, 0), (1600, .iload 12, 0, 0, 0), (1602, .iconst 0, 0, 0, 0), (1603, .invokevirtual 140, 117, 2, 0), (1606, .istore 17, 0, 0, 0), (1608, .aload_n 1, 0, 0, 0), (1609, .iload 12, 0, 0, 0), (1611, .iconst 1, 0, 0, 1), (1612, .invokevirtual 140, 117, 2, 0), (1615, .istore 18, 0, 0, 0), (1617, .iconst 0, 0, 0, 0), (1618, .istore 19, 0, 0, 0), (1620, .bipush (-5), 0, 0, -5), (1622, .istore 20, 0, 0, 0), (1624, .iconst 0, 0, 0, 0), (1625, .istore 21, 0, 0, 0), (1627, .iload 21, 0, 0, 0), (1629, .bipush 50, 0, 0, 50), (1631, .if_icmp .ge 77, 1708, 0, 0), (1634, .iload 4, 0, 0, 0), (1636, .aload_n 1, 0, 0, 0), (1637, .iload 12, 0, 0, 0), (1639, .iload 21, 0, 0, 0), (1641, .invokevirtual 125, 92, 2, 0), (1644, .sipush 901, 0, 0, 901), (1647, .if_icmp .lt 7, 1654, 0, 0), (1650, .iconst 1, 0, 0, 1), (1651, .goto 4, 1655, 0, 0), (1654, .iconst 0, 0, 0, 0), (1655, .iand, 0, 0, 0), (1656, .istore 4, 0, 0, 0), (1658, .aload_n 1, 0, 0, 0), (1659, .bipush 12, 0, 0, 12), (1661, .invokevirtual 143, 97, 1, 0), (1664, .iconst 1, 0, 0, 1), (1665, .if_icmp .ne 37, 1702, 0, 0), (1668, .aload_n 1, 0, 0, 0), (1669, .iconst 0, 0, 0, 0), (1670, .iconst 0, 0, 0, 0), (1671, .invokevirtual 146, 99, 2, 0), (1674, .iload_n 2, 0, 0, 0), (1675, .bipush 8, 0, 0, 8), (1677, .ishr, 0, 0, 0), (1678, .iconst 3, 0, 0, 3), (1679, .iand, 0, 0, 0), (1680, .i2l, 0, 0, 0), (1681, .lcmp, 0, 0, 0), (1682, .ifCond .ne 20, 1702, 0, 0), (1685, .iinc 19 1, 0, 0, 0), (1688, .iload 20, 0, 0, 0), (1690, .ifCond .ge 8, 1698, 0, 0), (1693, .iload 21, 0, 0, 0), (1695, .goto 5, 1700, 0, 0), (1698, .iload 20, 0, 0, 0), (1700, .istore 20, 0, 0, 0), (1702, .iinc 21 5, 0, 0, 0), (1705, .goto (-78), 1627, 0, 0), (1708, .iload 4, 0, 0, 0), (1710, .ifCond .eq 256, 1966, 0, 0), (1713, .iload 17, 0, 0, 0), (1715, .iload 19, 0, 0, 0), (1717, .if_icmp .ne 249, 1966, 0, 0), (1720, .iload 18, 0, 0, 0), (1722, .iload 20, 0, 0, 0), (1724, .if_icmp .ne 242, 1966, 0, 0), (1727, .aload_n 1, 0, 0, 0), (1728, .iconst (-1), 0, 0, -1), (1729, .iconst 0, 0, 0, 0), (1730, .invokevirtual 137, 116, 2, 0), (1733, .ifCond .ne 233, 1966, 0, 0), (1736, .aload_n 1, 0, 0, 0), (1737, .iload 12, 0, 0, 0), (1739, .iconst 0, 0, 0, 0), (1740, .invokevirtual 140, 117, 2, 0), (1743, .iload 19, 0, 0, 0), (1745, .if_icmp .lt 221, 1966, 0, 0), (1748, .aload_n 1, 0, 0, 0), (1749, .iconst 0, 0, 0, 0), (1750, .invokevirtual 150, 119, 1, 0), (1753, .iload_n 3, 0, 0, 0), (1754, .i2l, 0, 0, 0), (1755, .lmul, 0, 0, 0), (1756, .aload_n 1, 0, 0, 0), (1757, .iconst 1, 0, 0, 1), (1758, .invokevirtual 150, 119, 1, 0), (1761, .aload 5, 0, 0, 0), (1763, .iconst 0, 0, 0, 0), (1764, .iaload, 0, 0, 0), (1765, .aload 5, 0, 0, 0), (1767, .iconst 1, 0, 0, 1), (1768, .iaload, 0, 0, 0), (1769, .iadd, 0, 0, 0), (1770, .aload 5, 0, 0, 0), (1772, .iconst 2, 0, 0, 2), (1773, .iaload, 0, 0, 0), (1774, .iadd, 0, 0, 0), (1775, .aload 5, 0, 0, 0), (1777, .iconst 3, 0, 0, 3), (1778, .iaload, 0, 0, 0), (1779, .iadd, 0, 0, 0), (1780, .i2l, 0, 0, 0), (1781, .lmul, 0, 0, 0), (1782, .lcmp, 0, 0, 0), (1783, .ifCond .ne 183, 1966, 0, 0), (1786, .aload_n 1, 0, 0, 0), (1787, .iload_n 3, 0, 0, 0), (1788, .iconst 0, 0, 0, 0), (1789, .invokevirtual 137, 116, 2, 0), (1792, .iconst (-1), 0, 0, -1), (1793, .if_icmp .ne 173, 1966, 0, 0), (1796, .aload_n 1, 0, 0, 0), (1797, .iconst 0, 0, 0, 0), (1798, .sipush 1000, 0, 0, 1000), (1801, .invokevirtual 137, 116, 2, 0), (1804, .bipush (-2), 0, 0, -2), (1806, .if_icmp .ne 160, 1966, 0, 0), (1809, .aload_n 1, 0, 0, 0), (1810, .iload 6, 0, 0, 0), (1812, .iconst 0, 0, 0, 0), (1813, .invokevirtual 140, 117, 2, 0), (1816, .iconst (-1), 0, 0, -1), (1817, .if_icmp .ne 149, 1966, 0, 0), (1820, .aload_n 1, 0, 0, 0), (1821, .iconst (-1), 0, 0, -1), (1822, .iconst 0, 0, 0, 0), (1823, .invokevirtual 100, 121, 2, 0), (1826, .bipush (-2), 0, 0, -2), (1828, .if_icmp .ne 138, 1966, 0, 0), (1831, .aload_n 1, 0, 0, 0), (1832, .iconst 0, 0, 0, 0), (1833, .sipush 1000, 0, 0, 1000), (1836, .invokevirtual 100, 121, 2, 0), (1839, .bipush (-2), 0, 0, -2), (1841, .if_icmp .ne 125, 1966, 0, 0), (1844, .aload_n 1, 0, 0, 0), (1845, .iconst 3, 0, 0, 3), (1846, .iconst 0, 0, 0, 0), (1847, .iconst 0, 0, 0, 0), (1848, .invokevirtual 116, 125, 3, 0), (1851, .iconst (-1), 0, 0, -1), (1852, .if_icmp .ne 114, 1966, 0, 0), (1855, .aload_n 1, 0, 0, 0), (1856, .iconst 0, 0, 0, 0), (1857, .iload 6, 0, 0, 0), (1859, .iconst 0, 0, 0, 0), (1860, .invokevirtual 116, 125, 3, 0), (1863, .iconst (-1), 0, 0, -1), (1864, .if_icmp .ne 102, 1966, 0, 0), (1867, .aload_n 1, 0, 0, 0), (1868, .iconst 1, 0, 0, 1), (1869, .iconst 0, 0, 0, 0), (1870, .bipush 100, 0, 0, 100), (1872, .invokevirtual 116, 125, 3, 0), (1875, .bipush (-2), 0, 0, -2), (1877, .if_icmp .ne 89, 1966, 0, 0), (1880, .aload_n 1, 0, 0, 0), (1881, .iconst 0, 0, 0, 0), (1882, .iconst 5, 0, 0, 5), (1883, .iconst 1, 0, 0, 1), (1884, .invokevirtual 154, 131, 3, 0), (1887, .bipush (-2), 0, 0, -2), (1889, .if_icmp .ne 77, 1966, 0, 0), (1892, .aload_n 1, 0, 0, 0), (1893, .iconst 0, 0, 0, 0), (1894, .iconst 0, 0, 0, 0), (1895, .bipush 61, 0, 0, 61), (1897, .invokevirtual 154, 131, 3, 0), (1900, .bipush (-2), 0, 0, -2), (1902, .if_icmp .ne 64, 1966, 0, 0), (1905, .aload_n 1, 0, 0, 0), (1906, .iconst 0, 0, 0, 0), (1907, .iconst 0, 0, 0, 0), (1908, .iconst (-1), 0, 0, -1), (1909, .invokevirtual 154, 131, 3, 0), (1912, .bipush (-14), 0, 0, -14), (1914, .if_icmp .ne 52, 1966, 0, 0), (1917, .aload_n 1, 0, 0, 0), (1918, .iconst 0, 0, 0, 0), (1919, .iconst 0, 0, 0, 0), (1920, .lconst 1, 0, 0, 1), (1921, .invokevirtual 157, 132, 3, 0), (1924, .bipush (-11), 0, 0, -11), (1926, .if_icmp .ne 40, 1966, 0, 0), (1929, .aload_n 1, 0, 0, 0), (1930, .bipush 10, 0, 0, 10), (1932, .invokevirtual 86, 130, 1, 0), (1935, .bipush (-2), 0, 0, -2), (1937, .if_icmp .ne 29, 1966, 0, 0), (1940, .aload_n 1, 0, 0, 0), (1941, .bipush 6, 0, 0, 6), (1943, .invokevirtual 44, 88, 1, 0), (1946, .bipush (-2), 0, 0, -2), (1948, .if_icmp .ne 18, 1966, 0, 0), (1951, .aload_n 1, 0, 0, 0), (1952, .iconst 0, 0, 0, 0), (1953, .iconst 5, 0, 0, 5), (1954, .invokevirtual 134, 120, 2, 0), (1957, .bipush (-2), 0, 0, -2), (1959, .if_icmp .ne 7, 1966, 0, 0), (1962, .iconst 1, 0, 0, 1), (1963, .goto 4, 1967, 0, 0), (1966, .iconst 0, 0, 0, 0), (1967, .ireturn, 0, 0, 0)]
/-- 272 java/lang/String.charAt(I)C -/
noncomputable def k_272 : List (Nat × j_I) := [(0, .aload_n 0, 0, 0, 0), (1, .invokevirtual 492, 278, 0, 0), (4, .ifCond .eq 12, 16, 0, 0), (7, .aload_n 0, 0, 0, 0), (8, .getfield 9, 0, 0, 0), (11, .iload_n 1, 0, 0, 0), (12, .invokestatic 495, 281, 2, 0), (15, .ireturn, 0, 0, 0), (16, .aload_n 0, 0, 0, 0), (17, .getfield 9, 0, 0, 0), (20, .iload_n 1, 0, 0, 0), (21, .invokestatic 498, 9997, 0, 0), (24, .ireturn, 0, 0, 0)]
/-- 273 java/lang/String.checkIndex(II)V -/
noncomputable def k_273 : List (Nat × j_I) := [(0, .iload_n 0, 0, 0, 0), (1, .iload_n 1, 0, 0, 0), (2, .goto 3, 5, 0, 0), (5, .invokestatic 1059, 282, 2, 0), (8, .pop, 0, 0, 0), (9, .return_, 0, 0, 0)]
/-- 274 java/lang/String.coder()B -/
noncomputable def k_274 : List (Nat × j_I) := [(0, .getstatic 38, 98, 0, 0), (3, .ifCond .eq 10, 13, 0, 0), (6, .aload_n 0, 0, 0, 0), (7, .getfield 15, 0, 1, 0), (10, .goto 4, 14, 0, 0), (13, .iconst 1, 0, 0, 1), (14, .ireturn, 0, 0, 0)]
/-- 275 java/lang/String.getBytes([BIB)V -/
noncomputable def k_275 : List (Nat × j_I) := [(0, .aload_n 0, 0, 0, 0), (1, .invokevirtual 335, 274, 0, 0), (4, .iload_n 3, 0, 0, 0), (5, .if_icmp .ne 23, 28, 0, 0), (8, .aload_n 0, 0, 0, 0), (9, .getfield 9, 0, 0, 0), (12, .iconst 0, 0, 0, 0), (13, .aload_n 1, 0, 0, 0), (14, .iload_n 2, 0, 0, 0), (15, .iload_n 3, 0, 0, 0), (16, .ishl, 0, 0, 0), (17, .aload_n 0, 0, 0, 0), (18, .getfield 9, 0, 0, 0), (21, .arraylength, 0, 0, 0), (22, .invokestatic 212, 9999, 5, 0), (25, .goto 18, 43, 0, 0), (28, .aload_n 0, 0, 0, 0), (29, .getfield 9, 0, 0, 0), (32, .iconst 0, 0, 0, 0), (33, .aload_n 1, 0, 0, 0), (34, .iload_n 2, 0, 0, 0), (35, .aload_n 0, 0, 0, 0), (36, .getfield 9, 0, 0, 0), (39, .arraylength, 0, 0, 0), (40, .invokestatic 106, 9997, 0, 0), (43, .return_, 0, 0, 0)]
/-- 276 java/lang/String.<init>(Ljava/lang/StringBuilder;)V -/
noncomputable def k_276 : List (Nat × j_I) := [(0, .aload_n 0, 0, 0, 0), (1, .aload_n 1, 0, 0, 0), (2, .goto 1, 3, 0, 0), (3, .invokespecial 489, 277, 1, 0), (6, .return_, 0, 0, 0)]
/-- 277 java/lang/String.<init>(Ljava/lang/AbstractStringBuilder;Ljava/lang/Void;)V -/
noncomputable def k_277 : List (Nat × j_I) := [(0, .aload_n 0, 0, 0, 0), (1, .invokespecial 1, 9998, 0, 0), (4, .aload_n 1, 0, 0, 0), (5, .invokevirtual 552, 293, 0, 0), (8, .astore_n 3, 0, 0, 0), (9, .aload_n 1, 0, 0, 0), (10, .invokevirtual 549, 287, 0, 0), (13, .istore 4, 0, 0, 0), (15, .aload_n 1, 0, 0, 0), (16, .invokevirtual 1047, 296, 0, 0), (19, .ifCond .eq 22, 41, 0, 0), (22, .aload_n 0, 0, 0, 0), (23, .iconst 0, 0, 0, 0), (24, .putfield 15, 0, 1, 0), (27, .aload_n 0, 0, 0, 0), (28, .aload_n 3, 0, 0, 0), (29, .iconst 0, 0, 0, 0), (30, .iload 4, 0, 0, 0), (32, .invokestatic 54, 304, 3, 0), (35, .putfield 9, 0, 0, 0), (38, .goto 59, 97, 0, 0), (41, .getstatic 38, 98, 0, 0), (44, .ifCond .eq 35, 79, 0, 0), (47, .aload_n 1, 0, 0, 0), (48, .getfield 1048, 1, 2, 0), (51, .ifCond .eq 28, 79, 0, 0), (54, .aload_n 0, 0, 0, 0), (55, .aload_n 3, 0, 0, 0), (56, .iconst 0, 0, 0, 0), (57, .iload 4, 0, 0, 0), (59, .invokestatic 1051, 9997, 0, 0), (62, .putfield 9, 0, 0, 0), (65, .aload_n 0, 0, 0, 0), (66, .aload_n 0, 0, 0, 0), (67, .getfield 9, 0, 0, 0), (70, .iload 4, 0, 0, 0), (72, .invokestatic 47, 9997, 0, 0), (75, .putfield 15, 0, 1, 0), (78, .return_, 0, 0, 0), (79, .aload_n 0, 0, 0, 0), (80, .iconst 1, 0, 0, 1), (81, .putfield 15, 0, 1, 0), (84, .aload_n 0, 0, 0, 0), (85, .aload_n 3, 0, 0, 0), (86, .iconst 0, 0, 0, 0), (87, .iload 4, 0, 0, 0), (89, .iconst 1, 0, 0, 1), (90, .ishl, 0, 0, 0), (91, .invokestatic 54, 304, 3, 0), (94, .putfield 9, 0, 0, 0), (97, .return_, 0, 0, 0)]
/-- 278 java/lang/String.isLatin1()Z -/
noncomputable def k_278 : List (Nat × j_I) := [(0, .getstatic 38, 98, 0, 0), (3, .ifCond .eq 14, 17, 0, 0), (6, .aload_n 0, 0, 0, 0), (7, .getfield 15, 0, 1, 0), (10, .ifCond .ne 7, 17, 0, 0), (13, .iconst 1, 0, 0, 1), (14, .goto 4, 18, 0, 0), (17, .iconst 0, 0, 0, 0), (18, .ireturn, 0, 0, 0)]
/-- 279 java/lang/String.length()I -/
noncomputable def k_279 : List (Nat × j_I) := [(0, .aload_n 0, 0, 0, 0), (1, .getfield 9, 0, 0, 0), (4, .arraylength, 0, 0, 0), (5, .aload_n 0, 0, 0, 0), (6, .invokevirtual 335, 274, 0, 0), (9, .ishr, 0, 0, 0), (10, .ireturn, 0, 0, 0)]
/-- 280 java/lang/StringLatin1.canEncode(C)Z -/
noncomputable def k_280 : List (Nat × j_I) := [(0, .iload_n 0, 0, 0, 0), (1, .sipush 255, 0, 0, 255), (4, .if_icmp .gt 7, 11, 0, 0), (7, .iconst 1, 0, 0, 1), (8, .goto 4, 12, 0, 0), (11, .iconst 0, 0, 0, 0), (12, .ireturn, 0, 0, 0)]
/-- 281 java/lang/StringLatin1.charAt([BI)C -/
noncomputable def k_281 : List (Nat × j_I) := [(0, .iload_n 1, 0, 0, 0), (1, .aload_n 0, 0, 0, 0), (2, .arraylength, 0, 0, 0), (3, .invokestatic 9, 273, 2, 0), (6, .aload_n 0, 0, 0, 0), (7, .iload_n 1, 0, 0, 0), (8, .baload, 0, 0, 0), (9, .sipush 255, 0, 0, 255), (12, .iand, 0, 0, 0), (13, .i2c, 0, 0, 0), (14, .ireturn, 0, 0, 0)]
/-- 282 jdk/internal/util/Preconditions.checkIndex(IILjava/util/function/BiFunction;)I -/
noncomputable def k_282 : List (Nat × j_I) := [(0, .iload_n 0, 0, 0, 0), (1, .ifCond .lt 8, 9, 0, 0), (4, .iload_n 0, 0, 0, 0), (5, .iload_n 1, 0, 0, 0), (6, .if_icmp .lt 10, 16, 0, 0), (9, .aload_n 2, 0, 0, 0), (10, .iload_n 0, 0, 0, 0), (11, .iload_n 1, 0, 0, 0), (12, .invokestatic 95, 9997, 0, 0), (15, .athrow, 0, 0, 0), (16, .iload_n 0, 0, 0, 0), (17, .ireturn, 0, 0, 0)]
/-- 283 java/lang/StringBuilder.append(Ljava/lang/String;)Ljava/lang/StringBuilder; -/
noncomputable def k_283 : List (Nat × j_I) := [(0, .aload_n 0, 0, 0, 0), (1, .aload_n 1, 0, 0, 0), (2, .invokespecial 29, 291, 1, 0), (5, .pop, 0, 0, 0), (6, .aload_n 0, 0, 0, 0), (7, .areturn, 0, 0, 0)]
/-- 284 java/lang/StringBuilder.append(I)Ljava/lang/StringBuilder; -/
noncomputable def k_284 : List (Nat × j_I) := [(0, .aload_n 0, 0, 0, 0), (1, .iload_n 1, 0, 0, 0), (2, .invokespecial 53, 290, 1, 0), (5, .pop, 0, 0, 0), (6, .aload_n 0, 0, 0, 0), (7, .areturn, 0, 0, 0)]
/-- 285 java/lang/StringBuilder.append(C)Ljava/lang/StringBuilder; -/
noncomputable def k_285 : List (Nat × j_I) := [(0, .aload_n 0, 0, 0, 0), (1, .iload_n 1, 0, 0, 0), (2, .invokespecial 50, 289, 1, 0), (5, .pop, 0, 0, 0), (6, .aload_n 0, 0, 0, 0), (7, .areturn, 0, 0, 0)]
/-- 286 java/lang/StringBuilder.<init>()V -/
noncomputable def k_286 : List (Nat × j_I) := [(0, .aload_n 0, 0, 0, 0), (1, .bipush 16, 0, 0, 16), (3, .invokespecial 1, 295, 1, 0), (6, .return_, 0, 0, 0)]
/-- 287 java/lang/StringBuilder.length()I -/
noncomputable def k_287 : List (Nat × j_I) := [(0, .aload_n 0, 0, 0, 0), (1, .invokespecial 343, 297, 0, 0), (4, .ireturn, 0, 0, 0)]
/-- 288 java/lang/StringBuilder.toString()Ljava/lang/String; -/
noncomputable def k_288 : List (Nat × j_I) := [(0, .new 18, 0, 0, 0), (3, .dup, 0, 0, 0), (4, .aload_n 0, 0, 0, 0), (5, .invokespecial 137, 276, 1, 0), (8, .areturn, 0, 0, 0)]
/-- 289 java/lang/AbstractStringBuilder.append(C)Ljava/lang/AbstractStringBuilder; -/
noncomputable def k_289 : List (Nat × j_I) := [(0, .aload_n 0, 0, 0, 0), (1, .aload_n 0, 0, 0, 0), (2, .getfield 79, 1, 3, 0), (5, .iconst 1, 0, 0, 1), (6, .iadd, 0, 0, 0), (7, .invokevirtual 100, 292, 1, 0), (10, .aload_n 0, 0, 0, 0), (11, .invokevirtual 83, 296, 0, 0), (14, .ifCond .eq 31, 45, 0, 0), (17, .iload_n 1, 0, 0, 0), (18, .invokestatic 191, 280, 1, 0), (21, .ifCond .eq 24, 45, 0, 0), (24, .aload_n 0, 0, 0, 0), (25, .getfield 15, 1, 0, 0), (28, .aload_n 0, 0, 0, 0), (29, .dup, 0, 0, 0), (30, .getfield 79, 1, 3, 0), (33, .dup_x1, 0, 0, 0), (34, .iconst 1, 0, 0, 1), (35, .iadd, 0, 0, 0), (36, .putfield 79, 1, 3, 0), (39, .iload_n 1, 0, 0, 0), (40, .i2b, 0, 0, 0), (41, .bastore, 0, 0, 0), (42, .goto 33, 75, 0, 0), (45, .aload_n 0, 0, 0, 0), (46, .invokevirtual 83, 296, 0, 0), (49, .ifCond .eq 7, 56, 0, 0), (52, .aload_n 0, 0, 0, 0), (53, .invokevirtual 195, 9997, 0, 0), (56, .aload_n 0, 0, 0, 0), (57, .getfield 15, 1, 0, 0), (60, .aload_n 0, 0, 0, 0), (61, .dup, 0, 0, 0), (62, .getfield 79, 1, 3, 0), (65, .dup_x1, 0, 0, 0), (66, .iconst 1, 0, 0, 1), (67, .iadd, 0, 0, 0), (68, .putfield 79, 1, 3, 0), (71, .iload_n 1, 0, 0, 0), (72, .invokestatic 197, 9997, 0, 0), (75, .aload_n 0, 0, 0, 0), (76, .areturn, 0, 0, 0)]
/-- 290 java/lang/AbstractStringBuilder.append(I)Ljava/lang/AbstractStringBuilder; -/
noncomputable def k_290 : List (Nat × j_I) := [(0, .aload_n 0, 0, 0, 0), (1, .getfield 79, 1, 3, 0), (4, .istore_n 2, 0, 0, 0), (5, .iload_n 2, 0, 0, 0), (6, .iload_n 1, 0, 0, 0), (7, .invokestatic 245, 301, 1, 0), (10, .iadd, 0, 0, 0), (11, .istore_n 3, 0, 0, 0), (12, .aload_n 0, 0, 0, 0), (13, .iload_n 3, 0, 0, 0), (14, .invokevirtual 100, 292, 1, 0), (17, .aload_n 0, 0, 0, 0), (18, .invokevirtual 83, 296, 0, 0), (21, .ifCond .eq 16, 37, 0, 0), (24, .iload_n 1, 0, 0, 0), (25, .iload_n 3, 0, 0, 0), (26, .aload_n 0, 0, 0, 0), (27, .getfield 15, 1, 0, 0), (30, .invokestatic 248, 300, 3, 0), (33, .pop, 0, 0, 0), (34, .goto 14, 48, 0, 0), (37, .iload_n 1, 0, 0, 0), (38, .iload_n 2, 0, 0, 0), (39, .iload_n 3, 0, 0, 0), (40, .aload_n 0, 0, 0, 0), (41, .getfield 15, 1, 0, 0), (44, .invokestatic 251, 9997, 0, 0), (47, .pop, 0, 0, 0), (48, .aload_n 0, 0, 0, 0), (49, .iload_n 3, 0, 0, 0), (50, .putfield 79, 1, 3, 0), (53, .aload_n 0, 0, 0, 0), (54, .areturn, 0, 0, 0)]
/-- 291 java/lang/AbstractStringBuilder.append(Ljava/lang/String;)Ljava/lang/AbstractStringBuilder; -/
noncomputable def k_291 : List (Nat × j_I) := [(0, .aload_n 1, 0, 0, 0), (1, .ifnonnull 8, 9, 0, 0), (4, .aload_n 0, 0, 0, 0), (5, .invokevirtual 204, 9997, 0, 0), (8, .areturn, 0, 0, 0), (9, .aload_n 1, 0, 0, 0), (10, .invokevirtual 32, 279, 0, 0), (13, .istore_n 2, 0, 0, 0), (14, .aload_n 0, 0, 0, 0), (15, .aload_n 0, 0, 0, 0), (16, .getfield 79, 1, 3, 0), (19, .iload_n 2, 0, 0, 0), (20, .iadd, 0, 0, 0), (21, .invokevirtual 100, 292, 1, 0), (24, .aload_n 0, 0, 0, 0), (25, .aload_n 0, 0, 0, 0), (26, .getfield 79, 1, 3, 0), (29, .aload_n 1, 0, 0, 0), (30, .invokevirtual 208, 299, 2, 0), (33, .aload_n 0, 0, 0, 0), (34, .dup, 0, 0, 0), (35, .getfield 79, 1, 3, 0), (38, .iload_n 2, 0, 0, 0), (39, .iadd, 0, 0, 0), (40, .putfield 79, 1, 3, 0), (43, .aload_n 0, 0, 0, 0), (44, .areturn, 0, 0, 0)]
/-- 292 java/lang/AbstractStringBuilder.ensureCapacityInternal(I)V -/
noncomputable def k_292 : List (Nat × j_I) := [(0, .aload_n 0, 0, 0, 0), (1, .getfield 15, 1, 0, 0), (4, .arraylength, 0, 0, 0), (5, .aload_n 0, 0, 0, 0), (6, .getfield 22, 1, 1, 0), (9, .ishr, 0, 0, 0), (10, .istore_n 2, 0, 0, 0), (11, .iload_n 1, 0, 0, 0), (12, .iload_n 2, 0, 0, 0), (13, .isub, 0, 0, 0), (14, .ifCond .le 24, 38, 0, 0), (17, .aload_n 0, 0, 0, 0), (18, .aload_n 0, 0, 0, 0), (19, .getfield 15, 1, 0, 0), (22, .aload_n 0, 0, 0, 0), (23, .iload_n 1, 0, 0, 0), (24, .invokevirtual 104, 298, 1, 0), (27, .aload_n 0, 0, 0, 0), (28, .getfield 22, 1, 1, 0), (31, .ishl, 0, 0, 0), (32, .invokestatic 108, 305, 2, 0), (35, .putfield 15, 1, 0, 0), (38, .return_, 0, 0, 0)]
/-- 293 java/lang/AbstractStringBuilder.getValue()[B -/
noncomputable def k_293 : List (Nat × j_I) := [(0, .aload_n 0, 0, 0, 0), (1, .getfield 15, 1, 0, 0), (4, .areturn, 0, 0, 0)]
/-- 294 java/lang/AbstractStringBuilder.inflateIfNeededFor(Ljava/lang/String;)V -/
noncomputable def k_294 : List (Nat × j_I) := [(0, .getstatic 18, 98, 0, 0), (3, .ifCond .eq 18, 21, 0, 0), (6, .aload_n 0, 0, 0, 0), (7, .getfield 22, 1, 1, 0), (10, .aload_n 1, 0, 0, 0), (11, .invokevirtual 40, 274, 0, 0), (14, .if_icmp .eq 7, 21, 0, 0), (17, .aload_n 0, 0, 0, 0), (18, .invokevirtual 195, 9997, 0, 0), (21, .return_, 0, 0, 0)]
/-- 295 java/lang/AbstractStringBuilder.<init>(I)V -/
noncomputable def k_295 : List (Nat × j_I) := [(0, .aload_n 0, 0, 0, 0), (1, .invokespecial 3, 9998, 0, 0), (4, .getstatic 18, 98, 0, 0), (7, .ifCond .eq 18, 25, 0, 0), (10, .aload_n 0, 0, 0, 0), (11, .iload_n 1, 0, 0, 0), (12, .newarray .byte, 0, 0, 0), (14, .putfield 15, 1, 0, 0), (17, .aload_n 0, 0, 0, 0), (18, .iconst 0, 0, 0, 0), (19, .putfield 22, 1, 1, 0), (22, .goto 16, 38, 0, 0), (25, .aload_n 0, 0, 0, 0), (26, .iload_n 1, 0, 0, 0), (27, .invokestatic 26, 9997, 0, 0), (30, .putfield 15, 1, 0, 0), (33, .aload_n 0, 0, 0, 0), (34, .iconst 1, 0, 0, 1), (35, .putfield 22, 1, 1, 0), (38, .return_, 0, 0, 0)]
/-- 296 java/lang/AbstractStringBuilder.isLatin1()Z -/
noncomputable def k_296 : List (Nat × j_I) := [(0, .getstatic 18, 98, 0, 0), (3, .ifCond .eq 14, 17, 0, 0), (6, .aload_n 0, 0, 0, 0), (7, .getfield 22, 1, 1, 0), (10, .ifCond .ne 7, 17, 0, 0), (13, .iconst 1, 0, 0, 1), (14, .goto 4, 18, 0, 0), (17, .iconst 0, 0, 0, 0), (18, .ireturn, 0, 0, 0)]
/-- 297 java/lang/AbstractStringBuilder.length()I -/
noncomputable def k_297 : List (Nat × j_I) := [(0, .aload_n 0, 0, 0, 0), (1, .getfield 79, 1, 3, 0), (4, .ireturn, 0, 0, 0)]
/-- 298 java/lang/AbstractStringBuilder.newCapacity(I)I -/
noncomputable def k_298 : List (Nat × j_I) := [(0, .aload_n 0, 0, 0, 0), (1, .getfield 15, 1, 0, 0), (4, .arraylength, 0, 0, 0), (5, .istore_n 2, 0, 0, 0), (6, .iload_n 1, 0, 0, 0), (7, .aload_n 0, 0, 0, 0), (8, .getfield 22, 1, 1, 0), (11, .ishl, 0, 0, 0), (12, .istore_n 3, 0, 0, 0), (13, .iload_n 3, 0, 0, 0), (14, .iload_n 2, 0, 0, 0), (15, .isub, 0, 0, 0), (16, .istore 4, 0, 0, 0), (18, .iload_n 2, 0, 0, 0), (19, .iload 4, 0, 0, 0), (21, .iload_n 2, 0, 0, 0), (22, .iconst 2, 0, 0, 2), (23, .aload_n 0, 0, 0, 0), (24, .getfield 22, 1, 1, 0), (27, .ishl, 0, 0, 0), (28, .iadd, 0, 0, 0), (29, .invokestatic 114, 306, 3, 0), (32, .istore 5, 0, 0, 0), (34, .iload 5, 0, 0, 0), (36, .ldc 39, 0, 0, 2147483647), (38, .if_icmp .ne 13, 51, 0, 0), (41, .new 120, 9997, 0, 0), (44, .dup, 0, 0, 0), (45, .ldc 122, 9997, 0, 0), (47, .invokespecial 124, 9997, 0, 0), (50, .athrow, 0, 0, 0), (51, .iload 5, 0, 0, 0), (53, .aload_n 0, 0, 0, 0), (54, .getfield 22, 1, 1, 0), (57, .ishr, 0, 0, 0), (58, .ireturn, 0, 0, 0)]
/-- 299 java/lang/AbstractStringBuilder.putStringAt(ILjava/lang/String;)V -/
noncomputable def k_299 : List (Nat × j_I) := [(0, .aload_n 0, 0, 0, 0), (1, .aload_n 2, 0, 0, 0), (2, .invokevirtual 397, 294, 1, 0), (5, .aload_n 2, 0, 0, 0), (6, .aload_n 0, 0, 0, 0), (7, .getfield 15, 1, 0, 0), (10, .iload_n 1, 0, 0, 0), (11, .aload_n 0, 0, 0, 0), (12, .getfield 22, 1, 1, 0), (15, .invokevirtual 399, 275, 3, 0), (18, .return_, 0, 0, 0)]
/-- 300 java/lang/Integer.getChars(II[B)I -/
noncomputable def k_300 : List (Nat × j_I) := [(0, .iload_n 1, 0, 0, 0), (1, .istore 5, 0, 0, 0), (3, .iload_n 0, 0, 0, 0), (4, .ifCond .ge 7, 11, 0, 0), (7, .iconst 1, 0, 0, 1), (8, .goto 4, 12, 0, 0), (11, .iconst 0, 0, 0, 0), (12, .istore 6, 0, 0, 0), (14, .iload 6, 0, 0, 0), (16, .ifCond .ne 6, 22, 0, 0), (19, .iload_n 0, 0, 0, 0), (20, .ineg, 0, 0, 0), (21, .istore_n 0, 0, 0, 0), (22, .iload_n 0, 0, 0, 0), (23, .bipush (-100), 0, 0, -100), (25, .if_icmp .gt 47, 72, 0, 0), (28, .iload_n 0, 0, 0, 0), (29, .bipush 100, 0, 0, 100), (31, .idiv, 0, 0, 0), (32, .istore_n 3, 0, 0, 0), (33, .iload_n 3, 0, 0, 0), (34, .bipush 100, 0, 0, 100), (36, .imul, 0, 0, 0), (37, .iload_n 0, 0, 0, 0), (38, .isub, 0, 0, 0), (39, .istore 4, 0, 0, 0), (41, .iload_n 3, 0, 0, 0), (42, .istore_n 0, 0, 0, 0), (43, .aload_n 2, 0, 0, 0), (44, .iinc 5 (-1), 0, 0, 0), (47, .iload 5, 0, 0, 0), (49, .getstatic 83, 96, 0, 0), (52, .iload 4, 0, 0, 0), (54, .baload, 0, 0, 0), (55, .bastore, 0, 0, 0), (56, .aload_n 2, 0, 0, 0), (57, .iinc 5 (-1), 0, 0, 0), (60, .iload 5, 0, 0, 0), (62, .getstatic 87, 97, 0, 0), (65, .iload 4, 0, 0, 0), (67, .baload, 0, 0, 0), (68, .bastore, 0, 0, 0), (69, .goto (-47), 22, 0, 0), (72, .aload_n 2, 0, 0, 0), (73, .iinc 5 (-1), 0, 0, 0), (76, .iload 5, 0, 0, 0), (78, .getstatic 83, 96, 0, 0), (81, .iload_n 0, 0, 0, 0), (82, .ineg, 0, 0, 0), (83, .baload, 0, 0, 0), (84, .bastore, 0, 0, 0), (85, .iload_n 0, 0, 0, 0), (86, .bipush (-9), 0, 0, -9), (88, .if_icmp .ge 16, 104, 0, 0), (91, .aload_n 2, 0, 0, 0), (92, .iinc 5 (-1), 0, 0, 0), (95, .iload 5, 0, 0, 0), (97, .getstatic 87, 97, 0, 0), (100, .iload_n 0, 0, 0, 0), (101, .ineg, 0, 0, 0), (102, .baload, 0, 0, 0), (103, .bastore, 0, 0, 0), (104, .iload 6, 0, 0, 0), (106, .ifCond .eq 12, 118, 0, 0), (109, .aload_n 2, 0, 0, 0), (110, .iinc 5 (-1), 0, 0, 0), (113, .iload 5, 0, 0, 0), (115, .bipush 45, 0, 0, 45), (117, .bastore, 0, 0, 0), (118, .iload 5, 0, 0, 0), (120, .ireturn, 0, 0, 0)]
/-- 301 java/lang/Integer.stringSize(I)I -/
noncomputable def k_301 : List (Nat × j_I) := [(0, .iconst 1, 0, 0, 1), (1, .istore_n 1, 0, 0, 0), (2, .iload_n 0, 0, 0, 0), (3, .ifCond .lt 8, 11, 0, 0), (6, .iconst 0, 0, 0, 0), (7, .istore_n 1, 0, 0, 0), (8, .iload_n 0, 0, 0, 0), (9, .ineg, 0, 0, 0), (10, .istore_n 0, 0, 0, 0), (11, .bipush (-10), 0, 0, -10), (13, .istore_n 2, 0, 0, 0), (14, .iconst 1, 0, 0, 1), (15, .istore_n 3, 0, 0, 0), (16, .iload_n 3, 0, 0, 0), (17, .bipush 10, 0, 0, 10), (19, .if_icmp .ge 23, 42, 0, 0), (22, .iload_n 0, 0, 0, 0), (23, .iload_n 2, 0, 0, 0), (24, .if_icmp .le 7, 31, 0, 0), (27, .iload_n 3, 0, 0, 0), (28, .iload_n 1, 0, 0, 0), (29, .iadd, 0, 0, 0), (30, .ireturn, 0, 0, 0), (31, .bipush 10, 0, 0, 10), (33, .iload_n 2, 0, 0, 0), (34, .imul, 0, 0, 0), (35, .istore_n 2, 0, 0, 0), (36, .iinc 3 1, 0, 0, 0), (39, .goto (-23), 16, 0, 0), (42, .bipush 10, 0, 0, 10), (44, .iload_n 1, 0, 0, 0), (45, .iadd, 0, 0, 0), (46, .ireturn, 0, 0, 0)]
/-- 302 java/util/Arrays.checkLength(II)V -/
noncomputable def k_302 : List (Nat × j_I) := [(0, .iload_n 1, 0, 0, 0), (1, .iload_n 0, 0, 0, 0), (2, .if_icmp .ge 35, 37, 0, 0), (5, .new 43, 9997, 0, 0), (8, .dup, 0, 0, 0), (9, .new 45, 9997, 0, 0), (12, .dup, 0, 0, 0), (13, .invokespecial 47, 9997, 0, 0), (16, .iload_n 0, 0, 0, 0), (17, .invokevirtual 54, 9997, 0, 0), (20, .ldc_w 337, 9997, 0, 0), (23, .invokevirtual 50, 9997, 0, 0), (26, .iload_n 1, 0, 0, 0), (27, .invokevirtual 54, 9997, 0, 0), (30, .invokevirtual 61, 9997, 0, 0), (33, .invokespecial 65, 9997, 0, 0), (36, .athrow, 0, 0, 0), (37, .return_, 0, 0, 0)]
/-- 303 java/util/Arrays.copyOfRangeByte([BII)[B -/
noncomputable def k_303 : List (Nat × j_I) := [(0, .iload_n 1, 0, 0, 0), (1, .iload_n 2, 0, 0, 0), (2, .invokestatic 343, 302, 2, 0), (5, .iload_n 2, 0, 0, 0), (6, .iload_n 1, 0, 0, 0), (7, .isub, 0, 0, 0), (8, .istore_n 3, 0, 0, 0), (9, .iload_n 3, 0, 0, 0), (10, .newarray .byte, 0, 0, 0), (12, .astore 4, 0, 0, 0), (14, .aload_n 0, 0, 0, 0), (15, .iload_n 1, 0, 0, 0), (16, .aload 4, 0, 0, 0), (18, .iconst 0, 0, 0, 0), (19, .aload_n 0, 0, 0, 0), (20, .arraylength, 0, 0, 0), (21, .iload_n 1, 0, 0, 0), (22, .isub, 0, 0, 0), (23, .iload_n 3, 0, 0, 0), (24, .invokestatic 304, 268, 2, 0), (27, .invokestatic 150, 9999, 5, 0), (30, .aload 4, 0, 0, 0), (32, .areturn, 0, 0, 0)]
/-- 304 java/util/Arrays.copyOfRange([BII)[B -/
noncomputable def k_304 : List (Nat × j_I) := [(0, .iload_n 1, 0, 0, 0), (1, .ifCond .ne 9, 10, 0, 0), (4, .iload_n 2, 0, 0, 0), (5, .aload_n 0, 0, 0, 0), (6, .arraylength, 0, 0, 0), (7, .if_icmp .eq 10, 17, 0, 0), (10, .aload_n 0, 0, 0, 0), (11, .iload_n 1, 0, 0, 0), (12, .iload_n 2, 0, 0, 0), (13, .invokestatic 339, 303, 3, 0), (16, .areturn, 0, 0, 0), (17, .aload_n 0, 0, 0, 0), (18, .invokevirtual 310, 9996, 0, 0), (21, .checkcast 311, 0, 0, 0), (24, .areturn, 0, 0, 0)]
/-- 305 java/util/Arrays.copyOf([BI)[B -/
noncomputable def k_305 : List (Nat × j_I) := [(0, .iload_n 1, 0, 0, 0), (1, .aload_n 0, 0, 0, 0), (2, .arraylength, 0, 0, 0), (3, .if_icmp .ne 11, 14, 0, 0), (6, .aload_n 0, 0, 0, 0), (7, .invokevirtual 310, 9996, 0, 0), (10, .checkcast 311, 0, 0, 0), (13, .areturn, 0, 0, 0), (14, .iload_n 1, 0, 0, 0), (15, .newarray .byte, 0, 0, 0), (17, .astore_n 2, 0, 0, 0), (18, .aload_n 0, 0, 0, 0), (19, .iconst 0, 0, 0, 0), (20, .aload_n 2, 0, 0, 0), (21, .iconst 0, 0, 0, 0), (22, .aload_n 0, 0, 0, 0), (23, .arraylength, 0, 0, 0), (24, .iload_n 1, 0, 0, 0), (25, .invokestatic 304, 268, 2, 0), (28, .invokestatic 150, 9999, 5, 0), (31, .aload_n 2, 0, 0, 0), (32, .areturn, 0, 0, 0)]
/-- 306 jdk/internal/util/ArraysSupport.newLength(III)I -/
noncomputable def k_306 : List (Nat × j_I) := [(0, .iload_n 0, 0, 0, 0), (1, .iload_n 1, 0, 0, 0), (2, .iload_n 2, 0, 0, 0), (3, .invokestatic 194, 307, 2, 0), (6, .iadd, 0, 0, 0), (7, .istore_n 3, 0, 0, 0), (8, .iconst 0, 0, 0, 0), (9, .iload_n 3, 0, 0, 0), (10, .if_icmp .ge 11, 21, 0, 0), (13, .iload_n 3, 0, 0, 0), (14, .ldc 200, 0, 0, 2147483639), (16, .if_icmp .gt 5, 21, 0, 0), (19, .iload_n 3, 0, 0, 0), (20, .ireturn, 0, 0, 0), (21, .iload_n 0, 0, 0, 0), (22, .iload_n 1, 0, 0, 0), (23, .invokestatic 201, 9997, 0, 0), (26, .ireturn, 0, 0, 0)]
/-- 307 java/lang/Math.max(II)I -/
noncomputable def k_307 : List (Nat × j_I) := [(0, .iload_n 0, 0, 0, 0), (1, .iload_n 1, 0, 0, 0), (2, .if_icmp .lt 7, 9, 0, 0), (5, .iload_n 0, 0, 0, 0), (6, .goto 4, 10, 0, 0), (9, .iload_n 1, 0, 0, 0), (10, .ireturn, 0, 0, 0)]
/-- 308 WholePacksLaw.cell([II)I -/
noncomputable def k_308 : List (Nat × j_I) := [(0, .ldc 7, 0, 0, 69069), (2, .iload_n 1, 0, 0, 0), (3, .aload_n 0, 0, 0, 0), (4, .arraylength, 0, 0, 0), (5, .if_icmp .ge 9, 14, 0, 0), (8, .aload_n 0, 0, 0, 0), (9, .iload_n 1, 0, 0, 0), (10, .iaload, 0, 0, 0), (11, .goto 4, 15, 0, 0), (14, .iconst 0, 0, 0, 0), (15, .sipush 1009, 0, 0, 1009), (18, .iload_n 1, 0, 0, 0), (19, .imul, 0, 0, 0), (20, .iadd, 0, 0, 0), (21, .imul, 0, 0, 0), (22, .sipush 12345, 0, 0, 12345), (25, .iadd, 0, 0, 0), (26, .istore_n 2, 0, 0, 0), (27, .iload_n 2, 0, 0, 0), (28, .iload_n 2, 0, 0, 0), (29, .bipush 13, 0, 0, 13), (31, .iushr, 0, 0, 0), (32, .ixor, 0, 0, 0), (33, .ldc 8, 0, 0, 1103515245), (35, .imul, 0, 0, 0), (36, .istore_n 2, 0, 0, 0), (37, .iload_n 2, 0, 0, 0), (38, .iload_n 2, 0, 0, 0), (39, .bipush 16, 0, 0, 16), (41, .iushr, 0, 0, 0), (42, .ixor, 0, 0, 0), (43, .ireturn, 0, 0, 0)]
/-- 309 WholePacksLaw.feeds(LWholePacks;Ljava/lang/String;)Z -/
noncomputable def k_309 : List (Nat × j_I) := [(0, .iconst 1, 0, 0, 1), (1, .istore_n 2, 0, 0, 0), (2, .iconst 0, 0, 0, 0), (3, .istore_n 3, 0, 0, 0), (4, .iload_n 3, 0, 0, 0), (5, .aload_n 1, 0, 0, 0), (6, .invokevirtual 9, 279, 0, 0), (9, .if_icmp .ge 32, 41, 0, 0), (12, .iload_n 2, 0, 0, 0), (13, .aload_n 0, 0, 0, 0), (14, .aload_n 1, 0, 0, 0), (15, .iload_n 3, 0, 0, 0), (16, .invokevirtual 15, 272, 1, 0), (19, .invokevirtual 19, 94, 1, 0), (22, .iload_n 3, 0, 0, 0), (23, .iconst 1, 0, 0, 1), (24, .iadd, 0, 0, 0), (25, .if_icmp .ne 7, 32, 0, 0), (28, .iconst 1, 0, 0, 1), (29, .goto 4, 33, 0, 0), (32, .iconst 0, 0, 0, 0), (33, .iand, 0, 0, 0), (34, .istore_n 2, 0, 0, 0), (35, .iinc 3 1, 0, 0, 0), (38, .goto (-34), 4, 0, 0), (41, .iload_n 2, 0, 0, 0), (42, .ireturn, 0, 0, 0)]
noncomputable def j_code : List (List (Nat × j_I)) := [k_0, k_1, k_2, [], k_4, k_5, [], k_7, k_8, k_9, k_10, k_11, k_12, k_13, k_14, [], k_16, k_17, k_18, k_19, k_20, k_21, k_22, k_23, k_24, k_25, [], k_27, k_28, k_29, k_30, k_31, k_32, k_33, k_34, k_35, [], k_37, k_38, k_39, [], [], k_42, k_43, k_44, k_45, k_46, k_47, k_48, k_49, k_50, k_51, k_52, k_53, k_54, [], k_56, [], [], [], k_60, k_61, k_62, [], k_64, k_65, k_66, k_67, k_68, k_69, k_70, k_71, k_72, k_73, [], [], [], [], [], [], k_80, [], [], [], [], [], [], k_87, k_88, k_89, [], k_91, k_92, k_93, k_94, k_95, k_96, k_97, [], k_99, [], [], [], [], [], [], [], [], [], [], [], [], [], [], [], k_115, k_116, k_117, [], k_119, k_120, k_121, k_122, k_123, k_124, k_125, k_126, [], k_128, k_129, k_130, k_131, k_132, [], [], k_135, k_136, [], k_138, k_139, k_140, k_141, k_142, k_143, k_144, k_145, k_146, [], [], [], [], [], [], [], [], [], [], [], [], [], [], [], [], [], [], [], [], [], [], [], [], [], [], [], [], [], [], [], [], [], [], [], [], [], [], [], [], [], [], [], [], [], [], [], [], [], [], [], [], [], [], [], [], [], [], [], [], [], [], [], [], [], [], [], [], [], [], [], [], [], [], [], [], [], [], [], [], [], [], [], [], [], [], [], [], [], [], [], [], [], [], [], [], [], [], [], [], [], [], [], [], [], [], [], [], [], [], [], [], [], [], [], [], [], [], k_265, k_266, k_267, k_268, k_269, k_270, k_271, k_272, k_273, k_274, k_275, k_276, k_277, k_278, k_279, k_280, k_281, k_282, k_283, k_284, k_285, k_286, k_287, k_288, k_289, k_290, k_291, k_292, k_293, k_294, k_295, k_296, k_297, k_298, k_299, k_300, k_301, k_302, k_303, k_304, k_305, k_306, k_307, k_308, k_309]
/-- name, bytes, locals, what it returns, class, 0 virtual 1 static 2 init 3 one that is not wanted here, how many it takes (without the object) -/
abbrev j_M : Type := MethodName × ByteArray × Nat × Option FieldType × Nat × Nat × Nat
noncomputable def j_meth_0 : List j_M := [(yX0_init, cX0_init, 1, none, 2, 2, 0), (yX0_clear, cX0_clear, 1, none, 2, 0, 0), (yX0_formOf, cX0_formOf, 3, (some .long), 2, 0, 2), (⟨"", "", ""⟩, cL_law, 0, none, 13, 3, 0), (yX0_make, cX0_make, 7, (some .boolean), 2, 0, 3), (yX0_tellIn, cX0_tellIn, 11, (some .long), 2, 0, 4), (⟨"", "", ""⟩, cL_law, 0, none, 13, 3, 0), (yX1_init, cX1_init, 1, none, 3, 2, 0), (yX1_become, cX1_become, 2, none, 3, 0, 1), (yX1_startAgain, cX1_startAgain, 2, none, 3, 0, 1), (yX1_addRule, cX1_addRule, 4, none, 3, 0, 2), (yX1_factorOf, cX1_factorOf, 3, (some .int), 3, 0, 2), (yX1_setFactor, cX1_setFactor, 4, none, 3, 0, 3), (yX1_formOf, cX1_formOf, 4, (some .int), 3, 0, 2), (yX1_costOf, cX1_costOf, 4, (some .int), 3, 0, 1), (⟨"", "", ""⟩, cL_law, 0, none, 13, 3, 0), (yX1_digitOf, cX1_digitOf, 5, (some .int), 3, 0, 2), (yX1_change, cX1_change, 5, none, 3, 0, 3), (yX1_drawRules, cX1_drawRules, 6, none, 3, 0, 2), (yX1_stirred, cX1_stirred, 1, (some .int), 3, 1, 1), (yX2_init, cX2_init, 1, none, 4, 2, 0), (yX2_become, cX2_become, 2, none, 4, 0, 1), (yX2_clear, cX2_clear, 1, none, 4, 0, 0), (yX2_placeOf, cX2_placeOf, 3, (some .int), 4, 0, 1), (yX2_gainOf, cX2_gainOf, 2, (some .int), 4, 0, 1), (yX2_insert, cX2_insert, 5, none, 4, 0, 3), (⟨"", "", ""⟩, cL_law, 0, none, 13, 3, 0), (yX2_isAhead, cX2_isAhead, 4, (some .boolean), 4, 0, 3), (yX3_init, cX3_init, 1, none, 5, 2, 0), (yX3_work, cX3_work, 5, (some .int), 5, 0, 2), (yX3_worthOf, cX3_worthOf, 3, (some .int), 5, 0, 1), (yX4_init, cX4_init, 1, none, 6, 2, 0), (yX4_become, cX4_become, 2, none, 6, 0, 1), (yX4_startAgain, cX4_startAgain, 2, none, 6, 0, 1), (yX4_addSeen, cX4_addSeen, 3, none, 6, 0, 2), (yX4_addPlan, cX4_addPlan, 4, none, 6, 0, 3), (⟨"", "", ""⟩, cL_law, 0, none, 13, 3, 0), (yX5_init, cX5_init, 1, none, 7, 2, 0), (yX5_start, cX5_start, 5, none, 7, 0, 1), (yX5_addRow, cX5_addRow, 6, (some .int), 7, 0, 2)]
noncomputable def j_meth_1 : List j_M := [(⟨"", "", ""⟩, cL_law, 0, none, 13, 3, 0), (⟨"", "", ""⟩, cL_law, 0, none, 13, 3, 0), (yX5_addCut, cX5_addCut, 5, none, 7, 0, 2), (yX5_restOf, cX5_restOf, 3, (some .long), 7, 0, 1), (yX5_wholeOf, cX5_wholeOf, 3, (some .long), 7, 0, 1), (yX5_repair, cX5_repair, 4, (some .int), 7, 0, 0), (yX5_lowestRow, cX5_lowestRow, 3, (some .int), 7, 0, 0), (yX5_nearestColumn, cX5_nearestColumn, 4, (some .int), 7, 0, 1), (yX5_isNearer, cX5_isNearer, 8, (some .boolean), 7, 0, 3), (yX5_pivot, cX5_pivot, 6, (some .boolean), 7, 0, 2), (yX5_freshenRow, cX5_freshenRow, 11, (some .boolean), 7, 0, 3), (yX5_mixed, cX5_mixed, 11, (some .long), 7, 0, 5), (yX5_rowOf, cX5_rowOf, 3, (some .int), 7, 0, 1), (yX5_rightOf, cX5_rightOf, 3, (some .long), 7, 0, 1), (yX5_floorOf, cX5_floorOf, 2, (some .long), 7, 0, 1), (⟨"", "", ""⟩, cL_law, 0, none, 13, 3, 0), (yX5_partedRow, cX5_partedRow, 2, (some .int), 7, 0, 0), (⟨"", "", ""⟩, cL_law, 0, none, 13, 3, 0), (⟨"", "", ""⟩, cL_law, 0, none, 13, 3, 0), (⟨"", "", ""⟩, cL_law, 0, none, 13, 3, 0), (yX6_init, cX6_init, 1, none, 8, 2, 0), (yX6_lay, cX6_lay, 4, none, 8, 0, 3), (yX6_trimmed, cX6_trimmed, 4, (some .long), 8, 0, 2), (⟨"", "", ""⟩, cL_law, 0, none, 13, 3, 0), (yX7_init, cX7_init, 1, none, 9, 2, 0), (yX7_findFault, cX7_findFault, 3, (some .int), 9, 0, 1), (yX7_addRulesTo, cX7_addRulesTo, 4, none, 9, 0, 1), (yX7_here, cX7_here, 1, (some .int), 9, 0, 0), (yX7_skip, cX7_skip, 2, (some .boolean), 9, 0, 1), (yX7_atDigit, cX7_atDigit, 1, (some .boolean), 9, 0, 0), (yX7_readClause, cX7_readClause, 3, (some .boolean), 9, 0, 0), (yX7_readTerm, cX7_readTerm, 5, (some .boolean), 9, 0, 1), (yX7_readBound, cX7_readBound, 4, (some .boolean), 9, 0, 1), (yX8_init, cX8_init, 1, none, 10, 2, 0), (⟨"", "", ""⟩, cL_law, 0, none, 13, 3, 0), (⟨"", "", ""⟩, cL_law, 0, none, 13, 3, 0), (⟨"", "", ""⟩, cL_law, 0, none, 13, 3, 0), (⟨"", "", ""⟩, cL_law, 0, none, 13, 3, 0), (⟨"", "", ""⟩, cL_law, 0, none, 13, 3, 0), (⟨"", "", ""⟩, cL_law, 0, none, 13, 3, 0)]
noncomputable def j_meth_2 : List j_M := [(yX9_init, cX9_init, 1, none, 11, 2, 0), (⟨"", "", ""⟩, cL_law, 0, none, 13, 3, 0), (⟨"", "", ""⟩, cL_law, 0, none, 13, 3, 0), (⟨"", "", ""⟩, cL_law, 0, none, 13, 3, 0), (⟨"", "", ""⟩, cL_law, 0, none, 13, 3, 0), (⟨"", "", ""⟩, cL_law, 0, none, 13, 3, 0), (⟨"", "", ""⟩, cL_law, 0, none, 13, 3, 0), (yX10_init, cX10_init, 1, none, 12, 2, 0), (yX10_size, cX10_size, 3, (some .int), 12, 0, 1), (yX10_cost, cX10_cost, 4, (some .int), 12, 0, 2), (⟨"", "", ""⟩, cL_law, 0, none, 13, 3, 0), (yX10_factor, cX10_factor, 5, (some .int), 12, 0, 3), (yX10_bound, cX10_bound, 4, (some .int), 12, 0, 2), (yX10_less, cX10_less, 1, (some .int), 12, 0, 0), (yX10_feed, cX10_feed, 2, (some .int), 12, 0, 1), (yX10_read, cX10_read, 2, (some .int), 12, 0, 0), (yX10_ruleOf, cX10_ruleOf, 3, (some .int), 12, 0, 2), (yX10_solve, cX10_solve, 2, (some .int), 12, 0, 1), (⟨"", "", ""⟩, cL_law, 0, none, 13, 3, 0), (yX10_amount, cX10_amount, 3, (some .long), 12, 0, 2), (⟨"", "", ""⟩, cL_law, 0, none, 13, 3, 0), (⟨"", "", ""⟩, cL_law, 0, none, 13, 3, 0), (⟨"", "", ""⟩, cL_law, 0, none, 13, 3, 0), (⟨"", "", ""⟩, cL_law, 0, none, 13, 3, 0), (⟨"", "", ""⟩, cL_law, 0, none, 13, 3, 0), (⟨"", "", ""⟩, cL_law, 0, none, 13, 3, 0), (⟨"", "", ""⟩, cL_law, 0, none, 13, 3, 0), (⟨"", "", ""⟩, cL_law, 0, none, 13, 3, 0), (⟨"", "", ""⟩, cL_law, 0, none, 13, 3, 0), (⟨"", "", ""⟩, cL_law, 0, none, 13, 3, 0), (⟨"", "", ""⟩, cL_law, 0, none, 13, 3, 0), (⟨"", "", ""⟩, cL_law, 0, none, 13, 3, 0), (⟨"", "", ""⟩, cL_law, 0, none, 13, 3, 0), (⟨"", "", ""⟩, cL_law, 0, none, 13, 3, 0), (⟨"", "", ""⟩, cL_law, 0, none, 13, 3, 0), (yX10_would, cX10_would, 3, (some .int), 12, 0, 2), (yX10_see, cX10_see, 3, (some .int), 12, 0, 2), (yX10_fits, cX10_fits, 6, (some .int), 12, 0, 2), (⟨"", "", ""⟩, cL_law, 0, none, 13, 3, 0), (yX10_mean, cX10_mean, 4, (some .long), 12, 0, 1)]
noncomputable def j_meth_3 : List j_M := [(yX10_drawn, cX10_drawn, 3, (some .int), 12, 0, 2), (yX10_offer, cX10_offer, 5, (some .int), 12, 0, 2), (yX10_offered, cX10_offered, 3, (some .int), 12, 0, 2), (yX10_upTo, cX10_upTo, 4, (some .int), 12, 0, 1), (yX10_dearest, cX10_dearest, 3, (some .int), 12, 0, 0), (yX10_plan, cX10_plan, 4, (some .int), 12, 0, 3), (yX10_ends, cX10_ends, 2, (some .int), 12, 0, 0), (⟨"", "", ""⟩, cL_law, 0, none, 13, 3, 0), (yX10_image, cX10_image, 1, (some .int), 12, 0, 0), (yX10_undo, cX10_undo, 1, (some .int), 12, 0, 0), (yX10_count, cX10_count, 2, (some .int), 12, 0, 1), (yX10_tape, cX10_tape, 4, (some .int), 12, 0, 3), (yX10_item, cX10_item, 5, (some .int), 12, 0, 3), (⟨"", "", ""⟩, cL_law, 0, none, 13, 3, 0), (⟨"", "", ""⟩, cL_law, 0, none, 13, 3, 0), (yX10_isPack, cX10_isPack, 2, (some .boolean), 12, 0, 1), (yX10_isRule, cX10_isRule, 2, (some .boolean), 12, 0, 1), (⟨"", "", ""⟩, cL_law, 0, none, 13, 3, 0), (yX10_isCode, cX10_isCode, 2, (some .boolean), 12, 0, 1), (yX10_isBound, cX10_isBound, 1, (some .boolean), 12, 1, 1), (yX10_isFactor, cX10_isFactor, 1, (some .boolean), 12, 1, 1), (yX10_isPart, cX10_isPart, 1, (some .boolean), 12, 1, 1), (yX10_isTape, cX10_isTape, 1, (some .boolean), 12, 1, 1), (yX10_isPlanned, cX10_isPlanned, 2, (some .boolean), 12, 1, 2), (yX10_isNear, cX10_isNear, 2, (some .boolean), 12, 1, 1), (yX10_isSeenSo, cX10_isSeenSo, 2, (some .boolean), 12, 0, 0), (yX10_lowest, cX10_lowest, 12, (some .long), 12, 1, 3), (⟨"", "", ""⟩, cL_law, 0, none, 13, 3, 0), (⟨"", "", ""⟩, cL_law, 0, none, 13, 3, 0), (⟨"", "", ""⟩, cL_law, 0, none, 13, 3, 0), (⟨"", "", ""⟩, cL_law, 0, none, 13, 3, 0), (⟨"", "", ""⟩, cL_law, 0, none, 13, 3, 0), (⟨"", "", ""⟩, cL_law, 0, none, 13, 3, 0), (⟨"", "", ""⟩, cL_law, 0, none, 13, 3, 0), (⟨"", "", ""⟩, cL_law, 0, none, 13, 3, 0), (⟨"", "", ""⟩, cL_law, 0, none, 13, 3, 0), (⟨"", "", ""⟩, cL_law, 0, none, 13, 3, 0), (⟨"", "", ""⟩, cL_law, 0, none, 13, 3, 0), (⟨"", "", ""⟩, cL_law, 0, none, 13, 3, 0), (⟨"", "", ""⟩, cL_law, 0, none, 13, 3, 0)]
noncomputable def j_meth_4 : List j_M := [(⟨"", "", ""⟩, cL_law, 0, none, 13, 3, 0), (⟨"", "", ""⟩, cL_law, 0, none, 13, 3, 0), (⟨"", "", ""⟩, cL_law, 0, none, 13, 3, 0), (⟨"", "", ""⟩, cL_law, 0, none, 13, 3, 0), (⟨"", "", ""⟩, cL_law, 0, none, 13, 3, 0), (⟨"", "", ""⟩, cL_law, 0, none, 13, 3, 0), (⟨"", "", ""⟩, cL_law, 0, none, 13, 3, 0), (⟨"", "", ""⟩, cL_law, 0, none, 13, 3, 0), (⟨"", "", ""⟩, cL_law, 0, none, 13, 3, 0), (⟨"", "", ""⟩, cL_law, 0, none, 13, 3, 0), (⟨"", "", ""⟩, cL_law, 0, none, 13, 3, 0), (⟨"", "", ""⟩, cL_law, 0, none, 13, 3, 0), (⟨"", "", ""⟩, cL_law, 0, none, 13, 3, 0), (⟨"", "", ""⟩, cL_law, 0, none, 13, 3, 0), (⟨"", "", ""⟩, cL_law, 0, none, 13, 3, 0), (⟨"", "", ""⟩, cL_law, 0, none, 13, 3, 0), (⟨"", "", ""⟩, cL_law, 0, none, 13, 3, 0), (⟨"", "", ""⟩, cL_law, 0, none, 13, 3, 0), (⟨"", "", ""⟩, cL_law, 0, none, 13, 3, 0), (⟨"", "", ""⟩, cL_law, 0, none, 13, 3, 0), (⟨"", "", ""⟩, cL_law, 0, none, 13, 3, 0), (⟨"", "", ""⟩, cL_law, 0, none, 13, 3, 0), (⟨"", "", ""⟩, cL_law, 0, none, 13, 3, 0), (⟨"", "", ""⟩, cL_law, 0, none, 13, 3, 0), (⟨"", "", ""⟩, cL_law, 0, none, 13, 3, 0), (⟨"", "", ""⟩, cL_law, 0, none, 13, 3, 0), (⟨"", "", ""⟩, cL_law, 0, none, 13, 3, 0), (⟨"", "", ""⟩, cL_law, 0, none, 13, 3, 0), (⟨"", "", ""⟩, cL_law, 0, none, 13, 3, 0), (⟨"", "", ""⟩, cL_law, 0, none, 13, 3, 0), (⟨"", "", ""⟩, cL_law, 0, none, 13, 3, 0), (⟨"", "", ""⟩, cL_law, 0, none, 13, 3, 0), (⟨"", "", ""⟩, cL_law, 0, none, 13, 3, 0), (⟨"", "", ""⟩, cL_law, 0, none, 13, 3, 0), (⟨"", "", ""⟩, cL_law, 0, none, 13, 3, 0), (⟨"", "", ""⟩, cL_law, 0, none, 13, 3, 0), (⟨"", "", ""⟩, cL_law, 0, none, 13, 3, 0), (⟨"", "", ""⟩, cL_law, 0, none, 13, 3, 0), (⟨"", "", ""⟩, cL_law, 0, none, 13, 3, 0), (⟨"", "", ""⟩, cL_law, 0, none, 13, 3, 0)]
noncomputable def j_meth_5 : List j_M := [(⟨"", "", ""⟩, cL_law, 0, none, 13, 3, 0), (⟨"", "", ""⟩, cL_law, 0, none, 13, 3, 0), (⟨"", "", ""⟩, cL_law, 0, none, 13, 3, 0), (⟨"", "", ""⟩, cL_law, 0, none, 13, 3, 0), (⟨"", "", ""⟩, cL_law, 0, none, 13, 3, 0), (⟨"", "", ""⟩, cL_law, 0, none, 13, 3, 0), (⟨"", "", ""⟩, cL_law, 0, none, 13, 3, 0), (⟨"", "", ""⟩, cL_law, 0, none, 13, 3, 0), (⟨"", "", ""⟩, cL_law, 0, none, 13, 3, 0), (⟨"", "", ""⟩, cL_law, 0, none, 13, 3, 0), (⟨"", "", ""⟩, cL_law, 0, none, 13, 3, 0), (⟨"", "", ""⟩, cL_law, 0, none, 13, 3, 0), (⟨"", "", ""⟩, cL_law, 0, none, 13, 3, 0), (⟨"", "", ""⟩, cL_law, 0, none, 13, 3, 0), (⟨"", "", ""⟩, cL_law, 0, none, 13, 3, 0), (⟨"", "", ""⟩, cL_law, 0, none, 13, 3, 0), (⟨"", "", ""⟩, cL_law, 0, none, 13, 3, 0), (⟨"", "", ""⟩, cL_law, 0, none, 13, 3, 0), (⟨"", "", ""⟩, cL_law, 0, none, 13, 3, 0), (⟨"", "", ""⟩, cL_law, 0, none, 13, 3, 0), (⟨"", "", ""⟩, cL_law, 0, none, 13, 3, 0), (⟨"", "", ""⟩, cL_law, 0, none, 13, 3, 0), (⟨"", "", ""⟩, cL_law, 0, none, 13, 3, 0), (⟨"", "", ""⟩, cL_law, 0, none, 13, 3, 0), (⟨"", "", ""⟩, cL_law, 0, none, 13, 3, 0), (⟨"", "", ""⟩, cL_law, 0, none, 13, 3, 0), (⟨"", "", ""⟩, cL_law, 0, none, 13, 3, 0), (⟨"", "", ""⟩, cL_law, 0, none, 13, 3, 0), (⟨"", "", ""⟩, cL_law, 0, none, 13, 3, 0), (⟨"", "", ""⟩, cL_law, 0, none, 13, 3, 0), (⟨"", "", ""⟩, cL_law, 0, none, 13, 3, 0), (⟨"", "", ""⟩, cL_law, 0, none, 13, 3, 0), (⟨"", "", ""⟩, cL_law, 0, none, 13, 3, 0), (⟨"", "", ""⟩, cL_law, 0, none, 13, 3, 0), (⟨"", "", ""⟩, cL_law, 0, none, 13, 3, 0), (⟨"", "", ""⟩, cL_law, 0, none, 13, 3, 0), (⟨"", "", ""⟩, cL_law, 0, none, 13, 3, 0), (⟨"", "", ""⟩, cL_law, 0, none, 13, 3, 0), (⟨"", "", ""⟩, cL_law, 0, none, 13, 3, 0), (⟨"", "", ""⟩, cL_law, 0, none, 13, 3, 0)]
noncomputable def j_meth_6 : List j_M := [(⟨"", "", ""⟩, cL_law, 0, none, 13, 3, 0), (⟨"", "", ""⟩, cL_law, 0, none, 13, 3, 0), (⟨"", "", ""⟩, cL_law, 0, none, 13, 3, 0), (⟨"", "", ""⟩, cL_law, 0, none, 13, 3, 0), (⟨"", "", ""⟩, cL_law, 0, none, 13, 3, 0), (⟨"", "", ""⟩, cL_law, 0, none, 13, 3, 0), (⟨"", "", ""⟩, cL_law, 0, none, 13, 3, 0), (⟨"", "", ""⟩, cL_law, 0, none, 13, 3, 0), (⟨"", "", ""⟩, cL_law, 0, none, 13, 3, 0), (⟨"", "", ""⟩, cL_law, 0, none, 13, 3, 0), (⟨"", "", ""⟩, cL_law, 0, none, 13, 3, 0), (⟨"", "", ""⟩, cL_law, 0, none, 13, 3, 0), (⟨"", "", ""⟩, cL_law, 0, none, 13, 3, 0), (⟨"", "", ""⟩, cL_law, 0, none, 13, 3, 0), (⟨"", "", ""⟩, cL_law, 0, none, 13, 3, 0), (⟨"", "", ""⟩, cL_law, 0, none, 13, 3, 0), (⟨"", "", ""⟩, cL_law, 0, none, 13, 3, 0), (⟨"", "", ""⟩, cL_law, 0, none, 13, 3, 0), (⟨"", "", ""⟩, cL_law, 0, none, 13, 3, 0), (⟨"", "", ""⟩, cL_law, 0, none, 13, 3, 0), (⟨"", "", ""⟩, cL_law, 0, none, 13, 3, 0), (⟨"", "", ""⟩, cL_law, 0, none, 13, 3, 0), (⟨"", "", ""⟩, cL_law, 0, none, 13, 3, 0), (⟨"", "", ""⟩, cL_law, 0, none, 13, 3, 0), (⟨"", "", ""⟩, cL_law, 0, none, 13, 3, 0), (yJ9_floorDiv_f86c9, cJ9_floorDiv_f86c9, 6, (some .long), 14, 1, 2), (yJ9_floorMod_f86c9, cJ9_floorMod_f86c9, 6, (some .long), 14, 1, 2), (yJ9_abs_067f4, cJ9_abs_067f4, 2, (some .long), 14, 1, 1), (yJ9_min_7cf53, cJ9_min_7cf53, 2, (some .int), 14, 1, 2), (yJ7_fill_d0a16, cJ7_fill_d0a16, 5, none, 15, 1, 2), (yJ7_fill_53178, cJ7_fill_53178, 4, none, 15, 1, 2), (yL_law, cL_law, 22, (some .boolean), 13, 1, 1), (yJ0_charAt_5068e, cJ0_charAt_5068e, 2, (some .char), 0, 0, 1), (yJ0_checkIndex_df160, cJ0_checkIndex_df160, 2, none, 0, 1, 2), (yJ0_coder_7d493, cJ0_coder_7d493, 1, (some .byte), 0, 0, 0), (yJ0_getBytes_840e7, cJ0_getBytes_840e7, 4, none, 0, 0, 3), (yJ0_init_81219, cJ0_init_81219, 2, none, 0, 2, 1), (yJ0_init_db425, cJ0_init_db425, 5, none, 0, 2, 1), (yJ0_isLatin1_aae02, cJ0_isLatin1_aae02, 1, (some .boolean), 0, 0, 0), (yJ0_length_8abf5, cJ0_length_8abf5, 1, (some .int), 0, 0, 0)]
noncomputable def j_meth_7 : List j_M := [(yJ1_canEncode_fc78d, cJ1_canEncode_fc78d, 1, (some .boolean), 18, 1, 1), (yJ1_charAt_3b067, cJ1_charAt_3b067, 2, (some .char), 18, 1, 2), (yJ3_checkIndex_8e157, cJ3_checkIndex_8e157, 3, (some .int), 20, 1, 2), (yJ4_append_15ec4, cJ4_append_15ec4, 2, (some (.object "java/lang/StringBuilder")), 1, 0, 1), (yJ4_append_bf812, cJ4_append_bf812, 2, (some (.object "java/lang/StringBuilder")), 1, 0, 1), (yJ4_append_cf468, cJ4_append_cf468, 2, (some (.object "java/lang/StringBuilder")), 1, 0, 1), (yJ4_init_da8c8, cJ4_init_da8c8, 1, none, 1, 2, 0), (yJ4_length_8abf5, cJ4_length_8abf5, 1, (some .int), 1, 0, 0), (yJ4_toString_0e30d, cJ4_toString_0e30d, 1, (some (.object "java/lang/String")), 1, 0, 0), (yJ5_append_3fe6f, cJ5_append_3fe6f, 2, (some (.object "java/lang/AbstractStringBuilder")), 16, 0, 1), (yJ5_append_c97b9, cJ5_append_c97b9, 4, (some (.object "java/lang/AbstractStringBuilder")), 16, 0, 1), (yJ5_append_cf1ce, cJ5_append_cf1ce, 3, (some (.object "java/lang/AbstractStringBuilder")), 16, 0, 1), (yJ5_ensureCapacityInternal_d00df, cJ5_ensureCapacityInternal_d00df, 3, none, 16, 0, 1), (yJ5_getValue_6d5f1, cJ5_getValue_6d5f1, 1, (some (.array .byte)), 16, 0, 0), (yJ5_inflateIfNeededFor_a7421, cJ5_inflateIfNeededFor_a7421, 2, none, 16, 0, 1), (yJ5_init_d00df, cJ5_init_d00df, 2, none, 16, 2, 1), (yJ5_isLatin1_aae02, cJ5_isLatin1_aae02, 1, (some .boolean), 16, 0, 0), (yJ5_length_8abf5, cJ5_length_8abf5, 1, (some .int), 16, 0, 0), (yJ5_newCapacity_0f7a4, cJ5_newCapacity_0f7a4, 6, (some .int), 16, 0, 1), (yJ5_putStringAt_47b60, cJ5_putStringAt_47b60, 3, none, 16, 0, 2), (yJ6_getChars_ba4f3, cJ6_getChars_ba4f3, 7, (some .int), 17, 1, 3), (yJ6_stringSize_0f7a4, cJ6_stringSize_0f7a4, 4, (some .int), 17, 1, 1), (yJ7_checkLength_df160, cJ7_checkLength_df160, 2, none, 15, 1, 2), (yJ7_copyOfRangeByte_39247, cJ7_copyOfRangeByte_39247, 5, (some (.array .byte)), 15, 1, 3), (yJ7_copyOfRange_39247, cJ7_copyOfRange_39247, 3, (some (.array .byte)), 15, 1, 3), (yJ7_copyOf_9075b, cJ7_copyOf_9075b, 3, (some (.array .byte)), 15, 1, 2), (yJ8_newLength_cabcc, cJ8_newLength_cabcc, 4, (some .int), 19, 1, 3), (yJ9_max_7cf53, cJ9_max_7cf53, 2, (some .int), 14, 1, 2), (yL_cell, cL_cell, 3, (some .int), 13, 1, 2), (yL_feeds, cL_feeds, 4, (some .boolean), 13, 1, 2)]
noncomputable def j_meth : List j_M := j_meth_0 ++ j_meth_1 ++ j_meth_2 ++ j_meth_3 ++ j_meth_4 ++ j_meth_5 ++ j_meth_6 ++ j_meth_7
/-- what a method returns: 0 nothing, 1 int, 2 long, 3 boolean, 4 byte, 5 char, 6 a reference -/
def j_rk : List Nat := [0, 0, 2, 0, 3, 2, 0, 0, 0, 0, 0, 1, 0, 1, 1, 0, 1, 0, 0, 1, 0, 0, 0, 1, 1, 0, 0, 3, 0, 1, 1, 0, 0, 0, 0, 0, 0, 0, 0, 1, 0, 0, 0, 2, 2, 1, 1, 1, 3, 3, 3, 2, 1, 2, 2, 0, 1, 0, 0, 0, 0, 0, 2, 0, 0, 1, 0, 1, 3, 3, 3, 3, 3, 0, 0, 0, 0, 0, 0, 0, 0, 0, 0, 0, 0, 0, 0, 0, 1, 1, 0, 1, 1, 1, 1, 1, 1, 1, 0, 2, 0, 0, 0, 0, 0, 0, 0, 0, 0, 0, 0, 0, 0, 0, 0, 1, 1, 1, 0, 2, 1, 1, 1, 1, 1, 1, 1, 0, 1, 1, 1, 1, 1, 0, 0, 3, 3, 0, 3, 3, 3, 3, 3, 3, 3, 3, 2, 0, 0, 0, 0, 0, 0, 0, 0, 0, 0, 0, 0, 0, 0, 0, 0, 0, 0, 0, 0, 0, 0, 0, 0, 0, 0, 0, 0, 0, 0, 0, 0, 0, 0, 0, 0, 0, 0, 0, 0, 0, 0, 0, 0, 0, 0, 0, 0, 0, 0, 0, 0, 0, 0, 0, 0, 0, 0, 0, 0, 0, 0, 0, 0, 0, 0, 0, 0, 0, 0, 0, 0, 0, 0, 0, 0, 0, 0, 0, 0, 0, 0, 0, 0, 0, 0, 0, 0, 0, 0, 0, 0, 0, 0, 0, 0, 0, 0, 0, 0, 0, 0, 0, 0, 0, 0, 0, 0, 0, 0, 0, 0, 0, 0, 0, 0, 0, 0, 2, 2, 2, 1, 0, 0, 3, 5, 0, 4, 0, 0, 0, 3, 1, 3, 5, 1, 6, 6, 6, 0, 1, 6, 6, 6, 6, 0, 6, 0, 0, 3, 1, 1, 0, 1, 1, 0, 6, 6, 6, 1, 1, 1, 3]
def j_cn : List String := [RJ0, RJ4, RX0, RX1, RX2, RX3, RX4, RX5, RX6, RX7, RX8, RX9, RX10, RL, RJ9, RJ7, RJ5, RJ6, RJ1, RJ8, RJ3]
/-- class, entry of its pool, class of the field, slot, place of the word -/
def j_ft : List (Nat × Nat × Nat × Nat × Nat) := [(0, 9, 0, 0, 1098), (0, 15, 0, 1, 1099), (0, 1048, 1, 2, 904), (2, 9, 2, 1, 246), (2, 15, 2, 2, 247), (2, 18, 2, 3, 248), (2, 21, 2, 0, 243), (2, 25, 3, 0, 74), (2, 36, 7, 1, 189), (2, 41, 7, 6, 200), (2, 45, 7, 7, 202), (2, 52, 7, 4, 195), (2, 56, 7, 5, 198), (2, 59, 7, 8, 204), (3, 9, 3, 0, 70), (3, 15, 3, 2, 79), (3, 19, 3, 3, 82), (3, 22, 3, 4, 84), (3, 25, 3, 5, 86), (3, 28, 3, 1, 75), (4, 9, 4, 1, 109), (4, 15, 4, 2, 111), (4, 18, 4, 3, 113), (4, 21, 4, 0, 107), (5, 12, 5, 0, 258), (5, 21, 5, 1, 260), (5, 36, 5, 2, 262), (5, 47, 2, 0, 244), (5, 58, 7, 3, 193), (6, 12, 6, 0, 124), (6, 21, 6, 1, 126), (6, 25, 6, 2, 128), (6, 29, 6, 3, 130), (6, 33, 6, 4, 131), (6, 36, 6, 6, 135), (6, 39, 6, 7, 137), (6, 42, 6, 9, 141), (6, 45, 6, 10, 143), (6, 48, 6, 11, 145), (6, 64, 6, 5, 133), (6, 67, 6, 8, 139), (7, 9, 7, 1, 188), (7, 15, 7, 4, 194), (7, 19, 7, 5, 197), (7, 23, 7, 6, 199), (7, 26, 7, 7, 201), (7, 30, 7, 8, 203), (7, 33, 7, 9, 205), (7, 36, 7, 10, 206), (7, 39, 7, 11, 207), (7, 42, 7, 12, 208), (7, 45, 7, 0, 186), (7, 48, 3, 0, 71), (7, 53, 7, 2, 190), (7, 56, 7, 3, 192), (7, 59, 3, 2, 80), (7, 62, 3, 1, 76), (8, 9, 8, 0, 382), (8, 15, 8, 1, 384), (8, 20, 8, 2, 386), (9, 9, 9, 2, 349), (9, 15, 9, 5, 353), (9, 19, 9, 6, 354), (9, 22, 9, 7, 355), (9, 25, 9, 4, 352), (9, 29, 9, 3, 351), (9, 32, 9, 1, 347), (9, 39, 9, 0, 345), (9, 52, 3, 0, 73), (9, 55, 3, 1, 77), (10, 9, 10, 2, 278), (10, 15, 10, 3, 279), (10, 22, 10, 4, 280), (10, 26, 10, 5, 281), (10, 29, 10, 6, 282), (10, 32, 10, 7, 283), (10, 35, 10, 8, 284), (10, 38, 10, 9, 285), (10, 41, 10, 10, 286), (11, 12, 11, 4, 319), (11, 18, 11, 5, 320), (11, 22, 11, 6, 321), (12, 14, 12, 0, 395), (12, 18, 12, 1, 396), (12, 24, 12, 2, 397), (12, 31, 12, 3, 398), (12, 35, 12, 4, 399), (12, 41, 12, 5, 400), (12, 48, 12, 6, 401), (12, 55, 12, 7, 402), (12, 62, 12, 8, 403), (12, 69, 12, 9, 404), (12, 73, 12, 10, 405), (12, 77, 6, 0, 125), (12, 80, 3, 0, 72), (12, 88, 12, 11, 406), (12, 96, 3, 2, 81), (12, 100, 6, 1, 127), (12, 109, 3, 1, 78), (12, 130, 3, 4, 85), (12, 133, 6, 2, 129), (12, 136, 9, 0, 346), (12, 139, 9, 2, 350), (12, 147, 9, 1, 348), (12, 154, 3, 3, 83), (12, 161, 5, 0, 259), (12, 165, 7, 0, 187), (12, 189, 7, 4, 196), (12, 206, 5, 1, 261), (12, 231, 6, 4, 132), (12, 257, 4, 0, 108), (12, 258, 4, 1, 110), (12, 300, 6, 5, 134), (12, 315, 4, 3, 114), (12, 324, 4, 2, 112), (12, 328, 6, 8, 140), (12, 338, 6, 9, 142), (12, 341, 6, 10, 144), (12, 344, 6, 11, 146), (12, 353, 8, 0, 383), (12, 357, 8, 1, 385), (12, 360, 8, 2, 387), (12, 370, 12, 12, 407), (12, 373, 2, 0, 245), (12, 374, 7, 2, 191), (12, 399, 6, 6, 136), (12, 402, 6, 7, 138), (16, 15, 1, 0, 902), (16, 22, 1, 1, 903), (16, 79, 1, 3, 905)]
def j_fs : List (Nat × Nat × Nat) := [(12, 392, 723)]
/-- nest mates: class, entry, class of the field, slot, host, place of the word -/
def j_fn : List (Nat × Nat × Nat × Nat × Nat × Nat) := []
def j_fsn : List (Nat × Nat × Nat × Nat) := []
/-- statics of the JDK: class, entry, 98 COMPACT_STRINGS 96 DigitOnes 97 DigitTens, place of the word -/
def j_gs : List (Nat × Nat × Nat × Nat) := [(0, 38, 98, 841), (16, 18, 98, 894), (17, 83, 96, 1040), (17, 87, 97, 1042)]
def j_mn : List (Nat × Nat × Nat × Nat × Nat) := [(2, 32, 144, 12, 633), (5, 11, 37, 12, 182), (5, 20, 0, 12, 239), (6, 11, 7, 12, 66), (6, 20, 20, 12, 103), (7, 111, 144, 12, 594), (9, 76, 140, 12, 522), (10, 21, 37, 12, 277), (11, 11, 7, 12, 318), (12, 13, 31, 12, 60), (12, 23, 7, 12, 173), (12, 30, 28, 12, 176), (12, 40, 73, 12, 272), (12, 47, 80, 12, 313), (12, 54, 20, 12, 338), (12, 61, 64, 12, 341), (12, 68, 60, 12, 376)]
def j_mt : List (Nat × Nat × Nat × Nat) := [(0, 1, 9998, 1064), (0, 54, 304, 1079), (0, 212, 9999, 1012), (0, 335, 274, 837), (0, 492, 278, 847), (0, 495, 281, 851), (1, 1, 295, 890), (1, 29, 291, 919), (1, 50, 289, 1018), (1, 53, 290, 1031), (1, 137, 276, 1058), (1, 343, 297, 1076), (2, 3, 9998, 242), (2, 28, 5, 617), (2, 48, 43, 634), (2, 62, 44, 621), (2, 65, 2, 628), (2, 69, 13, 632), (3, 3, 9998, 69), (3, 31, 9999, 669), (3, 37, 270, 447), (3, 43, 12, 535), (3, 47, 11, 557), (3, 51, 16, 733), (3, 57, 10, 710), (3, 61, 19, 711), (4, 3, 9998, 106), (4, 25, 9999, 793), (4, 31, 27, 741), (5, 3, 9998, 179), (5, 25, 38, 549), (5, 29, 1, 562), (5, 32, 45, 566), (5, 40, 56, 602), (5, 43, 4, 613), (5, 50, 42, 635), (5, 54, 29, 674), (5, 62, 44, 675), (6, 3, 9998, 63), (6, 51, 8, 788), (6, 55, 21, 789), (6, 58, 9999, 794), (6, 70, 9, 443), (6, 74, 22, 450), (6, 77, 270, 454), (7, 3, 9998, 185), (7, 65, 13, 553), (7, 69, 39, 558), (7, 75, 43, 606), (7, 79, 266, 610), (7, 85, 265, 625), (7, 88, 46, 570), (7, 92, 47, 574), (7, 96, 49, 582), (7, 100, 48, 578), (7, 104, 50, 586), (7, 107, 51, 590), (7, 115, 9999, 599), (7, 121, 52, 651), (7, 124, 53, 696), (7, 128, 44, 697), (8, 3, 9998, 379), (8, 23, 269, 814), (9, 3, 9998, 344), (9, 35, 70, 502), (9, 42, 68, 506), (9, 46, 10, 531), (9, 58, 12, 536), (9, 62, 67, 510), (9, 66, 71, 514), (9, 70, 72, 523), (9, 73, 69, 518), (10, 3, 9998, 275), (11, 3, 9998, 316), (12, 5, 9998, 55), (12, 84, 33, 439), (12, 92, 135, 459), (12, 103, 22, 463), (12, 106, 139, 487), (12, 116, 136, 468), (12, 119, 140, 472), (12, 122, 11, 475), (12, 126, 12, 479), (12, 143, 65, 498), (12, 150, 66, 527), (12, 157, 29, 545), (12, 183, 141, 643), (12, 186, 53, 647), (12, 193, 146, 655), (12, 265, 138, 719), (12, 294, 8, 665), (12, 297, 30, 670), (12, 303, 34, 680), (12, 306, 145, 688), (12, 309, 18, 706), (12, 312, 23, 725), (12, 318, 14, 729), (12, 321, 25, 737), (12, 325, 24, 757), (12, 331, 143, 765), (12, 335, 35, 768), (12, 347, 17, 776), (12, 350, 142, 807), (12, 364, 54, 692), (12, 367, 32, 784), (12, 375, 61, 810), (12, 378, 62, 821), (12, 405, 267, 658), (13, 9, 279, 833), (13, 15, 272, 843), (13, 19, 94, 881), (13, 25, 308, 825), (13, 35, 91, 464), (13, 43, 87, 52), (13, 44, 88, 435), (13, 47, 89, 455), (13, 54, 286, 887), (13, 55, 283, 915), (13, 63, 284, 1027), (13, 66, 288, 1052), (13, 70, 285, 1014), (13, 79, 309, 830), (13, 83, 95, 494), (13, 86, 130, 799), (13, 97, 96, 537), (13, 100, 121, 715), (13, 103, 123, 749), (13, 106, 122, 745), (13, 109, 124, 753), (13, 113, 126, 772), (13, 116, 125, 761), (13, 119, 115, 661), (13, 122, 128, 780), (13, 125, 92, 483), (13, 128, 93, 490), (13, 131, 129, 795), (13, 134, 120, 702), (13, 137, 116, 676), (13, 140, 117, 684), (13, 143, 97, 541), (13, 146, 99, 639), (13, 150, 119, 698), (13, 154, 131, 803), (13, 157, 132, 817), (15, 150, 9999, 958), (15, 304, 268, 955), (15, 339, 303, 1082), (15, 343, 302, 1085), (16, 3, 9998, 893), (16, 32, 279, 979), (16, 40, 274, 988), (16, 108, 305, 945), (16, 114, 306, 934), (16, 191, 280, 1021), (16, 245, 301, 1034), (16, 248, 300, 1037), (16, 399, 275, 1008), (18, 9, 273, 854), (19, 194, 307, 937)]
/-- calls of what StringBuilder has of its superclass: class, entry, method, 1 the superclass's 2 its own, places of link, selects, sameMethod -/
def j_vu : List (Nat × Nat × Nat × Nat × Nat × Nat × Nat) := [(0, 549, 287, 2, 1070, 1073, 1072), (0, 552, 293, 1, 1065, 1068, 1067), (0, 1047, 296, 1, 1078, 962, 961), (16, 83, 296, 1, 959, 962, 961), (16, 100, 292, 1, 926, 1, 1122), (16, 104, 298, 1, 930, 2, 1123), (16, 208, 299, 1, 980, 3, 1124), (16, 397, 294, 1, 984, 4, 1125)]
def j_ct : List (Nat × Nat × Nat × Nat) := [(1, 18, 0, 1056), (5, 9, 7, 180), (5, 18, 2, 237), (6, 9, 3, 64), (6, 18, 4, 101), (10, 19, 7, 276), (11, 9, 3, 317), (12, 11, 6, 58), (12, 21, 3, 172), (12, 28, 5, 174), (12, 38, 10, 270), (12, 45, 11, 311), (12, 52, 4, 337), (12, 59, 9, 339), (12, 66, 8, 374), (13, 20, 12, 50), (13, 52, 1, 885)]
def j_kt : List (Nat × Nat × Nat × Int × Nat) := [(3, 65, 0, 1103515245, 714), (12, 170, 1, -9223372036854775808, 646), (12, 395, 1, 1000000000, 597), (12, 397, 1, -1000000000, 598), (13, 7, 0, 69069, 828), (13, 8, 0, 1103515245, 829), (13, 112, 0, 1000000, 1119), (16, 39, 0, 2147483647, 944), (19, 200, 0, 2147483639, 940)]
/-- texts: class, entry, which, place of the word -/
def j_st : List (Nat × Nat × Nat × Nat) := [(13, 50, 0, 1109), (13, 59, 1, 1110), (13, 61, 2, 1111), (13, 73, 3, 1112), (13, 75, 4, 1113), (13, 77, 5, 1114), (13, 89, 6, 1115), (13, 91, 7, 1116), (13, 93, 8, 1117), (13, 95, 9, 1118)]
/-- the texts: entry in the law's pool, letters -/
def j_tx : List (Nat × String × List Nat) := [(50, "", []), (59, "-", [45]), (61, "+", [43]), (73, ">", [62]), (75, "<", [60]), (77, ";a", [59, 97]), (89, "x", [120]), (91, ";9a+a>1", [59, 57, 97, 43, 97, 62, 49]), (93, "a>-100", [97, 62, 45, 49, 48, 48]), (95, ">1", [62, 49])]
/-- of each method the places of the words: code, initialized, instanceMethod or static, selects -/
def j_mw : List (Nat × Nat × Nat × Nat) := [(241, 33, 240, 0), (565, 33, 563, 564), (631, 33, 629, 630), (0, 0, 0, 0), (616, 33, 614, 615), (620, 33, 619, 21), (0, 0, 0, 0), (68, 29, 67, 0), (668, 29, 666, 667), (446, 29, 444, 445), (534, 29, 532, 533), (478, 29, 476, 477), (482, 29, 480, 481), (556, 29, 554, 555), (732, 29, 730, 731), (0, 0, 0, 0), (736, 29, 735, 24), (779, 29, 777, 778), (709, 29, 707, 708), (713, 29, 712, 0), (105, 30, 104, 0), (792, 30, 790, 791), (453, 30, 451, 452), (728, 30, 726, 727), (760, 30, 758, 759), (740, 30, 738, 739), (0, 0, 0, 0), (744, 30, 743, 25), (178, 31, 177, 0), (548, 31, 546, 547), (673, 31, 671, 672), (62, 28, 61, 0), (787, 28, 785, 786), (442, 28, 440, 441), (683, 28, 681, 682), (771, 28, 769, 770), (0, 0, 0, 0), (184, 32, 183, 0), (552, 32, 550, 551), (561, 32, 560, 14), (0, 0, 0, 0), (0, 0, 0, 0), (638, 32, 636, 637), (609, 32, 607, 608), (624, 32, 622, 623), (569, 32, 567, 568), (573, 32, 572, 15), (577, 32, 576, 16), (581, 32, 580, 17), (585, 32, 584, 18), (589, 32, 588, 19), (593, 32, 592, 20), (654, 32, 652, 653), (650, 32, 648, 649), (695, 32, 693, 694), (0, 0, 0, 0), (605, 32, 603, 604), (0, 0, 0, 0), (0, 0, 0, 0), (0, 0, 0, 0), (378, 37, 377, 0), (813, 37, 811, 812), (824, 37, 822, 823), (0, 0, 0, 0), (343, 36, 342, 0), (501, 36, 499, 500), (530, 36, 528, 529), (513, 36, 512, 10), (509, 36, 508, 9), (521, 36, 520, 12), (505, 36, 504, 8), (517, 36, 516, 11), (526, 36, 525, 13), (274, 34, 273, 0), (0, 0, 0, 0), (0, 0, 0, 0), (0, 0, 0, 0), (0, 0, 0, 0), (0, 0, 0, 0), (0, 0, 0, 0), (315, 35, 314, 0), (0, 0, 0, 0), (0, 0, 0, 0), (0, 0, 0, 0), (0, 0, 0, 0), (0, 0, 0, 0), (0, 0, 0, 0), (54, 27, 53, 0), (438, 27, 436, 437), (458, 27, 456, 457), (0, 0, 0, 0), (467, 27, 465, 466), (486, 27, 484, 485), (493, 27, 491, 492), (884, 27, 882, 883), (497, 27, 495, 496), (540, 27, 538, 539), (544, 27, 542, 543), (0, 0, 0, 0), (642, 27, 640, 641), (0, 0, 0, 0), (0, 0, 0, 0), (0, 0, 0, 0), (0, 0, 0, 0), (0, 0, 0, 0), (0, 0, 0, 0), (0, 0, 0, 0), (0, 0, 0, 0), (0, 0, 0, 0), (0, 0, 0, 0), (0, 0, 0, 0), (0, 0, 0, 0), (0, 0, 0, 0), (0, 0, 0, 0), (0, 0, 0, 0), (664, 27, 662, 663), (679, 27, 677, 678), (687, 27, 685, 686), (0, 0, 0, 0), (701, 27, 699, 700), (705, 27, 703, 704), (718, 27, 716, 717), (748, 27, 746, 747), (752, 27, 750, 751), (756, 27, 754, 755), (764, 27, 762, 763), (775, 27, 773, 774), (0, 0, 0, 0), (783, 27, 781, 782), (798, 27, 796, 797), (802, 27, 800, 801), (806, 27, 804, 805), (820, 27, 818, 819), (0, 0, 0, 0), (0, 0, 0, 0), (462, 27, 461, 6), (471, 27, 470, 7), (0, 0, 0, 0), (722, 27, 721, 23), (489, 27, 488, 0), (474, 27, 473, 0), (645, 27, 644, 0), (809, 27, 808, 0), (767, 27, 766, 0), (596, 27, 595, 0), (691, 27, 690, 22), (657, 27, 656, 0), (0, 0, 0, 0), (0, 0, 0, 0), (0, 0, 0, 0), (0, 0, 0, 0), (0, 0, 0, 0), (0, 0, 0, 0), (0, 0, 0, 0), (0, 0, 0, 0), (0, 0, 0, 0), (0, 0, 0, 0), (0, 0, 0, 0), (0, 0, 0, 0), (0, 0, 0, 0), (0, 0, 0, 0), (0, 0, 0, 0), (0, 0, 0, 0), (0, 0, 0, 0), (0, 0, 0, 0), (0, 0, 0, 0), (0, 0, 0, 0), (0, 0, 0, 0), (0, 0, 0, 0), (0, 0, 0, 0), (0, 0, 0, 0), (0, 0, 0, 0), (0, 0, 0, 0), (0, 0, 0, 0), (0, 0, 0, 0), (0, 0, 0, 0), (0, 0, 0, 0), (0, 0, 0, 0), (0, 0, 0, 0), (0, 0, 0, 0), (0, 0, 0, 0), (0, 0, 0, 0), (0, 0, 0, 0), (0, 0, 0, 0), (0, 0, 0, 0), (0, 0, 0, 0), (0, 0, 0, 0), (0, 0, 0, 0), (0, 0, 0, 0), (0, 0, 0, 0), (0, 0, 0, 0), (0, 0, 0, 0), (0, 0, 0, 0), (0, 0, 0, 0), (0, 0, 0, 0), (0, 0, 0, 0), (0, 0, 0, 0), (0, 0, 0, 0), (0, 0, 0, 0), (0, 0, 0, 0), (0, 0, 0, 0), (0, 0, 0, 0), (0, 0, 0, 0), (0, 0, 0, 0), (0, 0, 0, 0), (0, 0, 0, 0), (0, 0, 0, 0), (0, 0, 0, 0), (0, 0, 0, 0), (0, 0, 0, 0), (0, 0, 0, 0), (0, 0, 0, 0), (0, 0, 0, 0), (0, 0, 0, 0), (0, 0, 0, 0), (0, 0, 0, 0), (0, 0, 0, 0), (0, 0, 0, 0), (0, 0, 0, 0), (0, 0, 0, 0), (0, 0, 0, 0), (0, 0, 0, 0), (0, 0, 0, 0), (0, 0, 0, 0), (0, 0, 0, 0), (0, 0, 0, 0), (0, 0, 0, 0), (0, 0, 0, 0), (0, 0, 0, 0), (0, 0, 0, 0), (0, 0, 0, 0), (0, 0, 0, 0), (0, 0, 0, 0), (0, 0, 0, 0), (0, 0, 0, 0), (0, 0, 0, 0), (0, 0, 0, 0), (0, 0, 0, 0), (0, 0, 0, 0), (0, 0, 0, 0), (0, 0, 0, 0), (0, 0, 0, 0), (0, 0, 0, 0), (0, 0, 0, 0), (0, 0, 0, 0), (0, 0, 0, 0), (0, 0, 0, 0), (0, 0, 0, 0), (0, 0, 0, 0), (0, 0, 0, 0), (0, 0, 0, 0), (0, 0, 0, 0), (0, 0, 0, 0), (0, 0, 0, 0), (0, 0, 0, 0), (0, 0, 0, 0), (0, 0, 0, 0), (0, 0, 0, 0), (0, 0, 0, 0), (0, 0, 0, 0), (0, 0, 0, 0), (0, 0, 0, 0), (0, 0, 0, 0), (0, 0, 0, 0), (0, 0, 0, 0), (627, 44, 626, 0), (612, 44, 611, 0), (660, 44, 659, 0), (957, 44, 956, 0), (816, 38, 815, 0), (449, 38, 448, 0), (0, 0, 0, 0), (846, 41, 844, 845), (856, 41, 855, 0), (840, 41, 838, 839), (1011, 41, 1009, 1010), (1060, 41, 1059, 0), (1063, 41, 1062, 0), (850, 41, 848, 849), (836, 41, 834, 835), (1023, 47, 1022, 0), (853, 47, 852, 0), (861, 46, 860, 0), (918, 40, 916, 917), (1030, 40, 1028, 1029), (1017, 40, 1015, 1016), (889, 40, 888, 0), (1075, 40, 1074, 0), (1055, 40, 1053, 1054), (1020, 39, 1019, 0), (1033, 39, 1032, 0), (921, 39, 920, 0), (929, 39, 928, 0), (1069, 39, 1066, 0), (987, 39, 986, 0), (892, 39, 891, 0), (963, 39, 960, 0), (1077, 39, 1071, 0), (933, 39, 932, 0), (983, 39, 982, 0), (1039, 49, 1038, 0), (1036, 49, 1035, 0), (1087, 38, 1086, 0), (1084, 38, 1083, 0), (1081, 38, 1080, 0), (947, 38, 946, 0), (936, 43, 935, 0), (939, 44, 938, 0), (827, 26, 826, 0), (832, 26, 831, 0)]
end
section
/-! THE ABSTRACT MACHINE: values are numbers, the heap is (kinds and sizes, references, numbers). -/
abbrev j_V : Type := Int ⊕ (Int ⊕ Nat)
abbrev jI (x : Int) : j_V := Sum.inl x
abbrev jL (x : Int) : j_V := Sum.inr (Sum.inl x)
abbrev jR (a : Nat) : j_V := Sum.inr (Sum.inr a)
abbrev j_M0 : Type := Nat → Nat → Int
/-- kinds: below 32 an object of that class; 32 ints, 33 longs, 34 bytes, 35 booleans, 36 references -/
abbrev j_H : Type := List (Nat × Nat) × List (List (Option Nat)) × j_M0
abbrev j_L : Type := List (Option j_V)
abbrev j_Z : Type := Option j_V × j_H
def w32 (x : Int) : Int := Int.bmod x 4294967296
def w64 (x : Int) : Int := Int.bmod x 18446744073709551616
def w16 (x : Int) : Int := Int.bmod x 65536
def w8 (x : Int) : Int := Int.bmod x 256
def j_ushr (x y : Int) : Int := ((Int32.ofInt x).toUInt32 >>> ((Int32.ofInt y).toUInt32 &&& Int32.toUInt32 31)).toInt32.toInt
def j_and (x y : Int) : Int := (Int32.ofInt x &&& Int32.ofInt y).toInt
def j_shl (x y : Int) : Int := (Int32.ofInt x <<< (Int32.ofInt y &&& 31)).toInt
def j_shr (x y : Int) : Int := (Int32.ofInt x >>> (Int32.ofInt y &&& 31)).toInt
def j_chr (x : Int) : Int := ((Int32.ofInt x).toUInt32 % 65536).toInt32.toInt
/-- of what class an object is whose method of class o is called -/
def j_rcv (o : Nat) : Nat := if o = 16 then 1 else o
def j_xor (x y : Int) : Int := (Int32.ofInt x ^^^ Int32.ofInt y).toInt
def j_land (x y : Int) : Int := (Int64.ofInt x &&& Int64.ofInt y).toInt
def j_lor (x y : Int) : Int := (Int64.ofInt x ||| Int64.ofInt y).toInt
def j_lxor (x y : Int) : Int := (Int64.ofInt x ^^^ Int64.ofInt y).toInt
def j_lshl (x y : Int) : Int := (Int64.ofInt x <<< ((Int32.ofInt y).toInt64 &&& 63)).toInt
def j_cmp (x y : Int) : Int := if x < y then -1 else if x = y then 0 else 1
def j_up (m : j_M0) (a k : Nat) (v : Int) : j_M0 := fun b j => if b = a then (if j = k then v else m b j) else m b j
def j_zero (m : j_M0) (a : Nat) : j_M0 := fun b j => if b = a then 0 else m b j
/-- the row of n from dp on of b becomes what was the row from sp on of a -/
def j_cpy (m : j_M0) (a sp b dp n : Nat) : j_M0 := fun c j => if c = b then (if dp ≤ j ∧ j < dp + n then m a (sp + (j - dp)) else m c j) else m c j
def j_lk {α : Type} : List (Nat × α) → Nat → Option α
  | [], _ => none
  | (k, v) :: r, n => if k = n then some v else j_lk r n
noncomputable def j_at (y pc : Nat) : Option j_I := match j_code[y]? with
  | some c => j_lk c pc
  | none => none
def j_rf (h : j_H) (a k : Nat) : Option Nat := (h.2.1.getD a []).getD k none
/-- what stands ahead of the start and stays: from 1000000 on each text (even: its object, odd: its bytes), then DigitOnes, DigitTens -/
def j_kc (a : Nat) : Option (Nat × Nat) := if a < 1000000 then none else if a < 1000020 then (if a % 2 = 0 then some (0, 4) else (j_tx[(a - 1000000) / 2]?).map (fun t => (34, t.2.2.length))) else if a < 1000022 then some (34, 100) else none
/-- kind and size of a cell, of those too -/
def j_kd (h : j_H) (a : Nat) : Option (Nat × Nat) := match h.1[a]? with
  | some q => some q
  | none => j_kc a
def j_rk1 (h : j_H) (a k : Nat) : Option Nat := match h.1[a]? with
  | some _ => j_rf h a k
  | none => if 1000000 ≤ a ∧ k = 0 then some (a + 1) else none
def j_srf (h : j_H) (a k q : Nat) : List (List (Option Nat)) := h.2.1.set a ((h.2.1.getD a []).set k (some q))
/-- a field's type: 0 int, 1 long, 2 boolean or byte, 3 a reference -/
def j_tc : FieldType → Nat
  | .int => 0
  | .long => 1
  | .boolean => 2
  | .byte => 2
  | _ => 3
def j_ty (c k : Nat) : Nat := match c with
  | 0 => j_tc (tyJ0 k) | 1 => j_tc (tyJ4 k) | 2 => j_tc (tyX0 k) | 3 => j_tc (tyX1 k) | 4 => j_tc (tyX2 k) | 5 => j_tc (tyX3 k) | 6 => j_tc (tyX4 k)
  | 7 => j_tc (tyX5 k) | 8 => j_tc (tyX6 k) | 9 => j_tc (tyX7 k) | 10 => j_tc (tyX8 k) | 11 => j_tc (tyX9 k) | _ => j_tc (tyX10 k)
def j_cz (c : Nat) : Nat := match vwCl[c]? with
  | some q => q.2.2
  | none => 0
def j_isL : j_V → Bool
  | .inr (.inl _) => true
  | _ => false
def j_pre (ls : j_L) (k : Nat) : Bool := match k with
  | 0 => true
  | j + 1 => match ls[j]? with
    | some (some v) => !(j_isL v)
    | _ => true
def j_cat : j_V → Nat
  | .inr (.inl _) => 2
  | _ => 1
def j_ld (ls : j_L) (k : Nat) : Option j_V := match ls[k]? with
  | some o => o
  | none => none
/-- what goes on behind a store of one or two places -/
def j_s1 (ls : j_L) (k : Nat) (v : j_V) : Option j_L := if j_pre ls k = true then (if k < ls.length then some (ls.set k (some v)) else none) else none
def j_s2 (ls : j_L) (k : Nat) (v : j_V) : Option j_L := if j_pre ls k = true then (if k + 1 < ls.length then some ((ls.set k (some v)).set (k + 1) none) else none) else none
def j_ret (y : Nat) : Nat := j_rk.getD y 4
section J1
variable {α : Type}
def j_bI (st : List j_V) (bad : α) (k : Int → Int → List j_V → α) : α := match st with
  | .inl y :: .inl x :: r => k x y r
  | _ => bad
def j_bL (st : List j_V) (bad : α) (k : Int → Int → List j_V → α) : α := match st with
  | .inr (.inl y) :: .inr (.inl x) :: r => k x y r
  | _ => bad
def j_uI (st : List j_V) (bad : α) (k : Int → List j_V → α) : α := match st with
  | .inl x :: r => k x r
  | _ => bad
def j_uL (st : List j_V) (bad : α) (k : Int → List j_V → α) : α := match st with
  | .inr (.inl x) :: r => k x r
  | _ => bad
/-- an element's array and place -/
def j_el (st : List j_V) (bad : α) (k : Nat → Int → List j_V → α) : α := match st with
  | .inl i :: .inr (.inr q) :: r => k q i r
  | _ => bad
def j_sI (st : List j_V) (bad : α) (k : Nat → Int → Int → List j_V → α) : α := match st with
  | .inl x :: .inl i :: .inr (.inr q) :: r => k q i x r
  | _ => bad
def j_sL (st : List j_V) (bad : α) (k : Nat → Int → Int → List j_V → α) : α := match st with
  | .inr (.inl x) :: .inl i :: .inr (.inr q) :: r => k q i x r
  | _ => bad
def j_rg (h : j_H) (q kd : Nat) (i : Int) (bad : α) (k : α) : α := match h.1[q]? with
  | some (c, n) => if c = kd then (if 0 ≤ i ∧ i < n then k else bad) else bad
  | none => bad
def j_ob (h : j_H) (q c : Nat) (bad : α) (k : α) : α := match h.1[q]? with
  | some (d, _) => if d = c then k else bad
  | none => bad
/-- loads: of what stands ahead of the start, too -/
def j_rgk (h : j_H) (q kd : Nat) (i : Int) (bad : α) (k : α) : α := match j_kd h q with
  | some (c, n) => if c = kd then (if 0 ≤ i ∧ i < n then k else bad) else bad
  | none => bad
def j_obk (h : j_H) (q c : Nat) (bad : α) (k : α) : α := match j_kd h q with
  | some (d, _) => if d = c then k else bad
  | none => bad
def j_op {β : Type} (o : Option β) (bad : α) (k : β → α) : α := match o with
  | some b => k b
  | none => bad
def j_new (h : j_H) (c n : Nat) : j_H := (h.1 ++ [(c, n)], h.2.1 ++ [List.replicate (if c < 32 then n else if c = 36 then n else 0) none], j_zero h.2.2 h.1.length)
def j_mul (h : j_H) (n : Nat) : Nat → j_H
  | 0 => h
  | k + 1 => j_new (j_mul h n k) 33 n
/-- new long[k][n] -/
def j_mna (h : j_H) (k n : Nat) : j_H := j_mul (h.1 ++ [(36, k)], h.2.1 ++ [(List.range k).map (fun i => some (h.1.length + 1 + i))], j_zero h.2.2 h.1.length) n k
/-- bytes are bytes -/
def j_byt (m : j_M0) (a sp n : Nat) : Bool := (List.range n).all (fun i => decide (-128 ≤ m a (sp + i) ∧ m a (sp + i) ≤ 127))
/-- fields of what stands ahead of the start: its bytes and their kind alone -/
def j_fk (h : j_H) (a k : Nat) (bad : α) (g : α) : α := match h.1[a]? with
  | some _ => g
  | none => if k ≤ 1 then g else bad
/-- a copy of a row of bytes -/
def j_cln (h : j_H) (a n : Nat) : j_H := (h.1 ++ [(34, n)], h.2.1 ++ [[]], j_cpy (j_zero h.2.2 h.1.length) a 0 h.1.length 0 n)
/-- a special call: of a method that isn't an init the object must be of the class that it is called of -/
noncomputable def j_obs (h : j_H) (a y : Nat) (bad : α) (k : α) : α := match j_meth[y]? with
  | some m => if m.2.2.2.2.2.1 = 2 then k else j_obk h a (j_rcv m.2.2.2.2.1) bad k
  | none => bad
def j_get (h : j_H) (q c k : Nat) (bad : α) (g : j_V → α) : α := match j_ty c k with
  | 0 => g (jI (h.2.2 q k))
  | 1 => g (jL (h.2.2 q k))
  | 2 => g (jI (h.2.2 q k))
  | _ => j_op (j_rk1 h q k) bad (fun a => g (jR a))
def j_put (h : j_H) (q c k : Nat) (v : j_V) (bad : α) (g : j_H → α) : α := match j_ty c k with
  | 0 => (match v with
    | .inl x => g (h.1, h.2.1, j_up h.2.2 q k x)
    | _ => bad)
  | 1 => (match v with
    | .inr (.inl x) => g (h.1, h.2.1, j_up h.2.2 q k x)
    | _ => bad)
  | 2 => (match v with
    | .inl x => if x = 0 ∨ x = 1 then g (h.1, h.2.1, j_up h.2.2 q k x) else bad
    | _ => bad)
  | _ => (match v with
    | .inr (.inr a) => g (h.1, j_srf h q k a, h.2.2)
    | _ => bad)
def j_atc (t : ArrayType) : Nat := match t with
  | .int => 32
  | .long => 33
  | .byte => 34
  | .boolean => 35
  | _ => 99
def j_if (st : List j_V) (bad : α) (c : Int → Prop) [DecidablePred c] (t f : List j_V → α) : α := match st with
  | .inl x :: r => if c x then t r else f r
  | _ => bad
def j_if2 (st : List j_V) (bad : α) (c : Int → Int → Prop) [∀ x y, Decidable (c x y)] (t f : List j_V → α) : α := match st with
  | .inl y :: .inl x :: r => if c x y then t r else f r
  | _ => bad
noncomputable def j_step (y pc : Nat) (ls : j_L) (st : List j_V) (h : j_H) (bad : α) (nx : Nat → j_L → List j_V → j_H → α) (rt : Option j_V → j_H → α) (cl : Nat → List j_V → List j_V → α) : α :=
  j_op (j_at y pc) bad (fun q => match q.1 with
  | .aload_n k => (match j_ld ls k.val with
    | some (.inr (.inr a)) => nx (pc + 1) ls (jR a :: st) h
    | _ => bad)
  | .aload k => (match j_ld ls k with
    | some (.inr (.inr a)) => nx (pc + 2) ls (jR a :: st) h
    | _ => bad)
  | .iload_n k => (match j_ld ls k.val with
    | some (.inl x) => nx (pc + 1) ls (jI x :: st) h
    | _ => bad)
  | .iload k => (match j_ld ls k with
    | some (.inl x) => nx (pc + 2) ls (jI x :: st) h
    | _ => bad)
  | .lload_n k => (match j_ld ls k.val with
    | some (.inr (.inl x)) => nx (pc + 1) ls (jL x :: st) h
    | _ => bad)
  | .lload k => (match j_ld ls k with
    | some (.inr (.inl x)) => nx (pc + 2) ls (jL x :: st) h
    | _ => bad)
  | .istore_n k => j_uI st bad (fun x r => j_op (j_s1 ls k.val (jI x)) bad (fun l => nx (pc + 1) l r h))
  | .istore k => j_uI st bad (fun x r => j_op (j_s1 ls k (jI x)) bad (fun l => nx (pc + 2) l r h))
  | .lstore_n k => j_uL st bad (fun x r => j_op (j_s2 ls k.val (jL x)) bad (fun l => nx (pc + 1) l r h))
  | .lstore k => j_uL st bad (fun x r => j_op (j_s2 ls k (jL x)) bad (fun l => nx (pc + 2) l r h))
  | .astore_n k => (match st with
    | .inr (.inr a) :: r => j_op (j_s1 ls k.val (jR a)) bad (fun l => nx (pc + 1) l r h)
    | _ => bad)
  | .astore k => (match st with
    | .inr (.inr a) :: r => j_op (j_s1 ls k (jR a)) bad (fun l => nx (pc + 2) l r h)
    | _ => bad)
  | .iinc k n => (match j_ld ls k with
    | some (.inl x) => j_op (j_s1 ls k (jI (w32 (x + n)))) bad (fun l => nx (pc + 3) l st h)
    | _ => bad)
  | .iconst _ => nx (pc + 1) ls (jI q.2.2.2 :: st) h
  | .bipush _ => nx (pc + 2) ls (jI q.2.2.2 :: st) h
  | .sipush _ => nx (pc + 3) ls (jI q.2.2.2 :: st) h
  | .lconst _ => nx (pc + 1) ls (jL q.2.2.2 :: st) h
  | .ldc _ => if q.2.1 = 0 then nx (pc + 2) ls (jI q.2.2.2 :: st) h else if q.2.1 = 1 then nx (pc + 2) ls (jR (1000000 + 2 * q.2.2.1) :: st) h else bad
  | .ldc_w _ => if q.2.1 = 0 then nx (pc + 3) ls (jI q.2.2.2 :: st) h else bad
  | .ldc2_w _ => nx (pc + 3) ls (jL q.2.2.2 :: st) h
  | .iadd => j_bI st bad (fun x y r => nx (pc + 1) ls (jI (w32 (x + y)) :: r) h)
  | .isub => j_bI st bad (fun x y r => nx (pc + 1) ls (jI (w32 (x - y)) :: r) h)
  | .imul => j_bI st bad (fun x y r => nx (pc + 1) ls (jI (w32 (x * y)) :: r) h)
  | .idiv => j_bI st bad (fun x y r => if y = 0 then bad else nx (pc + 1) ls (jI (w32 (x.tdiv y)) :: r) h)
  | .irem => j_bI st bad (fun x y r => if y = 0 then bad else nx (pc + 1) ls (jI (x.tmod y) :: r) h)
  | .iand => j_bI st bad (fun x y r => nx (pc + 1) ls (jI (j_and x y) :: r) h)
  | .ishl => j_bI st bad (fun x y r => nx (pc + 1) ls (jI (j_shl x y) :: r) h)
  | .ishr => j_bI st bad (fun x y r => nx (pc + 1) ls (jI (j_shr x y) :: r) h)
  | .ixor => j_bI st bad (fun x y r => nx (pc + 1) ls (jI (j_xor x y) :: r) h)
  | .iushr => j_bI st bad (fun x y r => nx (pc + 1) ls (jI (j_ushr x y) :: r) h)
  | .ineg => j_uI st bad (fun x r => nx (pc + 1) ls (jI (w32 (-x)) :: r) h)
  | .ladd => j_bL st bad (fun x y r => nx (pc + 1) ls (jL (w64 (x + y)) :: r) h)
  | .lsub => j_bL st bad (fun x y r => nx (pc + 1) ls (jL (w64 (x - y)) :: r) h)
  | .lmul => j_bL st bad (fun x y r => nx (pc + 1) ls (jL (w64 (x * y)) :: r) h)
  | .ldiv => j_bL st bad (fun x y r => if y = 0 then bad else nx (pc + 1) ls (jL (w64 (x.tdiv y)) :: r) h)
  | .lrem => j_bL st bad (fun x y r => if y = 0 then bad else nx (pc + 1) ls (jL (x.tmod y) :: r) h)
  | .land => j_bL st bad (fun x y r => nx (pc + 1) ls (jL (j_land x y) :: r) h)
  | .lor => j_bL st bad (fun x y r => nx (pc + 1) ls (jL (j_lor x y) :: r) h)
  | .lxor => j_bL st bad (fun x y r => nx (pc + 1) ls (jL (j_lxor x y) :: r) h)
  | .lneg => j_uL st bad (fun x r => nx (pc + 1) ls (jL (w64 (-x)) :: r) h)
  | .lshl => (match st with
    | .inl y :: .inr (.inl x) :: r => nx (pc + 1) ls (jL (j_lshl x y) :: r) h
    | _ => bad)
  | .lcmp => j_bL st bad (fun x y r => nx (pc + 1) ls (jI (j_cmp x y) :: r) h)
  | .i2l => j_uI st bad (fun x r => nx (pc + 1) ls (jL x :: r) h)
  | .l2i => j_uL st bad (fun x r => nx (pc + 1) ls (jI (w32 x) :: r) h)
  | .i2b => j_uI st bad (fun x r => nx (pc + 1) ls (jI (w8 x) :: r) h)
  | .i2s => j_uI st bad (fun x r => nx (pc + 1) ls (jI (w16 x) :: r) h)
  | .i2c => j_uI st bad (fun x r => nx (pc + 1) ls (jI (j_chr x) :: r) h)
  | .pop => (match st with
    | v :: r => if j_cat v = 1 then nx (pc + 1) ls r h else bad
    | _ => bad)
  | .dup_x1 => (match st with
    | v :: w :: r => if j_cat v = 1 ∧ j_cat w = 1 then nx (pc + 1) ls (v :: w :: v :: r) h else bad
    | _ => bad)
  | .ifnonnull _ => (match st with
    | .inr (.inr _) :: r => nx q.2.1 ls r h
    | _ => bad)
  | .checkcast _ => (match st with
    | .inr (.inr a) :: r => j_ob h a 34 bad (nx (pc + 3) ls (jR a :: r) h)
    | _ => bad)
  | .dup => (match st with
    | v :: r => if j_cat v = 1 then nx (pc + 1) ls (v :: v :: r) h else bad
    | _ => bad)
  | .dup2 => (match st with
    | .inr (.inl x) :: r => nx (pc + 1) ls (jL x :: jL x :: r) h
    | v :: w :: r => if j_cat v = 1 ∧ j_cat w = 1 then nx (pc + 1) ls (v :: w :: v :: w :: r) h else bad
    | _ => bad)
  | .goto _ => nx q.2.1 ls st h
  | .ifCond .eq _ => j_if st bad (fun x => x = 0) (fun r => nx q.2.1 ls r h) (fun r => nx (pc + 3) ls r h)
  | .ifCond .ne _ => j_if st bad (fun x => x = 0) (fun r => nx (pc + 3) ls r h) (fun r => nx q.2.1 ls r h)
  | .ifCond .lt _ => j_if st bad (fun x => x < 0) (fun r => nx q.2.1 ls r h) (fun r => nx (pc + 3) ls r h)
  | .ifCond .ge _ => j_if st bad (fun x => x < 0) (fun r => nx (pc + 3) ls r h) (fun r => nx q.2.1 ls r h)
  | .ifCond .gt _ => j_if st bad (fun x => 0 < x) (fun r => nx q.2.1 ls r h) (fun r => nx (pc + 3) ls r h)
  | .ifCond .le _ => j_if st bad (fun x => 0 < x) (fun r => nx (pc + 3) ls r h) (fun r => nx q.2.1 ls r h)
  | .if_icmp .eq _ => j_if2 st bad (fun x y => x = y) (fun r => nx q.2.1 ls r h) (fun r => nx (pc + 3) ls r h)
  | .if_icmp .ne _ => j_if2 st bad (fun x y => x = y) (fun r => nx (pc + 3) ls r h) (fun r => nx q.2.1 ls r h)
  | .if_icmp .lt _ => j_if2 st bad (fun x y => x < y) (fun r => nx q.2.1 ls r h) (fun r => nx (pc + 3) ls r h)
  | .if_icmp .ge _ => j_if2 st bad (fun x y => x < y) (fun r => nx (pc + 3) ls r h) (fun r => nx q.2.1 ls r h)
  | .if_icmp .gt _ => j_if2 st bad (fun x y => y < x) (fun r => nx q.2.1 ls r h) (fun r => nx (pc + 3) ls r h)
  | .if_icmp .le _ => j_if2 st bad (fun x y => y < x) (fun r => nx (pc + 3) ls r h) (fun r => nx q.2.1 ls r h)
  | .tableswitch d lo hi offs => j_uI st bad (fun x r => if lo ≤ x ∧ x ≤ hi then j_op (offs[(x - lo).toNat]?) bad (fun o => if 0 ≤ (pc : Int) + o then nx ((pc : Int) + o).toNat ls r h else bad) else if 0 ≤ (pc : Int) + d then nx ((pc : Int) + d).toNat ls r h else bad)
  | .iaload => j_el st bad (fun a i r => j_rg h a 32 i bad (nx (pc + 1) ls (jI (h.2.2 a i.toNat) :: r) h))
  | .laload => j_el st bad (fun a i r => j_rg h a 33 i bad (nx (pc + 1) ls (jL (h.2.2 a i.toNat) :: r) h))
  | .baload => j_el st bad (fun a i r => match j_kd h a with
    | some (c, n) => if (c = 34 ∨ c = 35) ∧ 0 ≤ i ∧ i < n then nx (pc + 1) ls (jI (h.2.2 a i.toNat) :: r) h else bad
    | none => bad)
  | .aaload => j_el st bad (fun a i r => j_rg h a 36 i bad (j_op (j_rf h a i.toNat) bad (fun b => nx (pc + 1) ls (jR b :: r) h)))
  | .iastore => j_sI st bad (fun a i x r => if a < 2 then bad else j_rg h a 32 i bad (nx (pc + 1) ls r (h.1, h.2.1, j_up h.2.2 a i.toNat x)))
  | .lastore => j_sL st bad (fun a i x r => if a < 2 then bad else j_rg h a 33 i bad (nx (pc + 1) ls r (h.1, h.2.1, j_up h.2.2 a i.toNat x)))
  | .bastore => j_sI st bad (fun a i x r => if a < 2 then bad else match h.1[a]? with
    | some (c, n) => if 0 ≤ i ∧ i < n then (if c = 34 then nx (pc + 1) ls r (h.1, h.2.1, j_up h.2.2 a i.toNat (w8 x)) else if c = 35 ∧ (x = 0 ∨ x = 1) then nx (pc + 1) ls r (h.1, h.2.1, j_up h.2.2 a i.toNat x) else bad) else bad
    | none => bad)
  | .arraylength => (match st with
    | .inr (.inr a) :: r => (match j_kd h a with
      | some (c, n) => if 32 ≤ c then nx (pc + 1) ls (jI n :: r) h else bad
      | none => bad)
    | _ => bad)
  | .getfield _ => (match st with
    | .inr (.inr a) :: r => j_obk h a q.2.1 bad (j_fk h a q.2.2.1 bad <| j_get h a q.2.1 q.2.2.1 bad (fun v => nx (pc + 3) ls (v :: r) h))
    | _ => bad)
  | .putfield _ => (match st with
    | v :: .inr (.inr a) :: r => j_ob h a q.2.1 bad (j_put h a q.2.1 q.2.2.1 v bad (fun h1 => nx (pc + 3) ls r h1))
    | _ => bad)
  | .getstatic _ => if q.2.1 = 99 then nx (pc + 3) ls (jR 1 :: st) h else if q.2.1 = 98 then nx (pc + 3) ls (jI 1 :: st) h else if q.2.1 = 96 ∨ q.2.1 = 97 then nx (pc + 3) ls (jR (999924 + q.2.1) :: st) h else bad
  | .new _ => if q.2.1 < 13 ∧ h.1.length < 900000 then nx (pc + 3) ls (jR h.1.length :: st) (j_new h q.2.1 (j_cz q.2.1)) else bad
  | .newarray t => j_uI st bad (fun n r => if j_atc t < 36 ∧ 0 ≤ n ∧ n ≤ 100000 ∧ h.1.length < 900000 then nx (pc + 2) ls (jR h.1.length :: r) (j_new h (j_atc t) n.toNat) else bad)
  | .multianewarray _ _ => (match st with
    | .inl n :: .inl k :: r => if (0 ≤ n ∧ n ≤ 1000 ∧ 0 ≤ k ∧ k ≤ 1000 ∧ h.1.length < 900000) ∧ h.1.any (fun q => q.1 == 33) = true then nx (pc + 4) ls (jR h.1.length :: r) (j_mna h k.toNat n.toNat) else bad
    | _ => bad)
  | .invokevirtual _ => (match (st.drop q.2.2.1) with
    | .inr (.inr a) :: r => if q.2.1 = 9996 then (match h.1[a]? with
      | some (c, n) => if (c = 34 ∧ j_byt h.2.2 a 0 n = true) ∧ h.1.length < 900000 ∧ (r.map j_cat).sum ≤ 8 then nx (pc + 3) ls (jR h.1.length :: r) (j_cln h a n) else bad
      | none => bad) else (match j_meth[q.2.1]? with
      | some m => j_obk h a (j_rcv m.2.2.2.2.1) bad (if (r.map j_cat).sum ≤ 8 then cl q.2.1 (jR a :: (st.take q.2.2.1).reverse) r else bad)
      | none => bad)
    | _ => bad)
  | .invokespecial _ => if q.2.1 = 9997 then bad else (match (st.drop q.2.2.1) with
    | .inr (.inr a) :: r => if (r.map j_cat).sum ≤ 8 then (if q.2.1 = 9998 then nx (pc + 3) ls r h else j_obs h a q.2.1 bad (cl q.2.1 (jR a :: (st.take q.2.2.1).reverse) r)) else bad
    | _ => bad)
  | .invokestatic _ => if q.2.1 = 9997 then bad else if q.2.1 = 9999 then (match st with
    | .inl n :: .inl dp :: .inr (.inr b) :: .inl sp :: .inr (.inr a) :: r => (match j_kd h a, h.1[b]? with
      | some (c, n0), some (d, n1) => if (c = 32 ∨ c = 33 ∨ (c = 34 ∧ j_byt h.2.2 a sp.toNat n.toNat = true)) ∧ c = d ∧ 2 ≤ a ∧ 2 ≤ b ∧ (r.map j_cat).sum ≤ 8 then (if 0 ≤ n ∧ 0 ≤ sp ∧ 0 ≤ dp ∧ sp + n ≤ n0 ∧ dp + n ≤ n1 then nx (pc + 3) ls r (h.1, h.2.1, j_cpy h.2.2 a sp.toNat b dp.toNat n.toNat) else bad) else bad
      | _, _ => bad)
    | _ => bad) else if q.2.2.1 ≤ st.length ∧ ((st.drop q.2.2.1).map j_cat).sum ≤ 8 then cl q.2.1 (st.take q.2.2.1).reverse (st.drop q.2.2.1) else bad
  | .ireturn => (match st with
    | [.inl x] => if j_ret y = 1 then rt (some (jI x)) h else if j_ret y = 3 then (if x = 0 ∨ x = 1 then rt (some (jI x)) h else bad) else if j_ret y = 4 then (if -128 ≤ x ∧ x ≤ 127 then rt (some (jI x)) h else bad) else if j_ret y = 5 then (if 0 ≤ x ∧ x ≤ 65535 then rt (some (jI x)) h else bad) else bad
    | _ => bad)
  | .areturn => (match st with
    | [.inr (.inr a)] => if j_ret y = 6 then rt (some (jR a)) h else bad
    | _ => bad)
  | .lreturn => (match st with
    | [.inr (.inl x)] => if j_ret y = 2 then rt (some (jL x)) h else bad
    | _ => bad)
  | .return_ => (match st with
    | [] => if j_ret y = 0 then rt none h else bad
    | _ => bad)
  | _ => bad)
end J1
/-- what a step is: nothing (stuck), or on, or an answer, or a call -/
abbrev j_R : Type := Option ((Nat × j_L × List j_V × j_H) ⊕ ((Option j_V × j_H) ⊕ (Nat × List j_V × List j_V)))
noncomputable def j_res (y pc : Nat) (ls : j_L) (st : List j_V) (h : j_H) : j_R := j_step y pc ls st h none (fun a b c d => some (.inl (a, b, c, d))) (fun v g => some (.inr (.inl (v, g)))) (fun a b c => some (.inr (.inr (a, b, c))))
def j_by {α : Type} (q : j_R) (bad : α) (nx : Nat → j_L → List j_V → j_H → α) (rt : Option j_V → j_H → α) (cl : Nat → List j_V → List j_V → α) : α := match q with
  | none => bad
  | some (.inl (a, b, c, d)) => nx a b c d
  | some (.inr (.inl (v, g))) => rt v g
  | some (.inr (.inr (a, b, c))) => cl a b c
end
section
/-! A step, told once; the meaning of a method as the limit of its runs. -/
set_option maxHeartbeats 4000000 in
theorem j_step_by {α : Type} (y pc : Nat) (ls : j_L) (st : List j_V) (h : j_H) (bad : α) (nx : Nat → j_L → List j_V → j_H → α) (rt : Option j_V → j_H → α) (cl : Nat → List j_V → List j_V → α) : j_step y pc ls st h bad nx rt cl = j_by (j_res y pc ls st h) bad nx rt cl := by
  unfold j_res j_step
  cases j_at y pc with
  | none => rfl
  | some q =>
    obtain ⟨i, a, b, z⟩ := q
    simp only [j_op]
    cases i
    case ifCond c off => cases c <;> (simp only [j_if]; split <;> first | rfl | (split <;> rfl))
    case if_icmp c off => cases c <;> (simp only [j_if2]; split <;> first | rfl | (split <;> rfl))
    case getfield => 
      dsimp only
      split
      · have G : ∀ (α : Type) (bad : α) (a0 : Nat) (nx : j_V → α), j_get h a0 a b bad nx = match j_get h a0 a b (none : Option j_V) some with
          | some v => nx v
          | none => bad := by
          intro α bad a0 nx
          unfold j_get
          split
          · rfl
          · rfl
          · rfl
          · simp only [j_op]
            split <;> rfl
        unfold j_obk j_fk
        rw [G, G (j_R)]
        split
        · split
          · split
            · split <;> rfl
            · split
              · split <;> rfl
              · rfl
          · rfl
        · rfl
      · rfl
    case putfield =>
      dsimp only
      split
      · unfold j_ob
        split
        · split
          · unfold j_put
            split <;> split <;> first | rfl | (split <;> rfl)
          · rfl
        · rfl
      · rfl
    case invokevirtual =>
      dsimp only
      split
      · split
        · split
          · split <;> rfl
          · rfl
        · split
          · unfold j_obk
            split
            · split
              · split <;> rfl
              · rfl
            · rfl
          · rfl
      · rfl
    case invokespecial =>
      dsimp only
      split
      · rfl
      · split
        · split
          · split
            · rfl
            · unfold j_obs
              split
              · split
                · rfl
                · unfold j_obk
                  split
                  · split <;> rfl
                  · rfl
              · rfl
          · rfl
        · rfl
    case invokestatic =>
      dsimp only
      split
      · rfl
      · split
        · split
          · split
            · split
              · split <;> rfl
              · rfl
            · rfl
          · rfl
        · split <;> rfl
    case checkcast =>
      dsimp only
      split
      · unfold j_ob
        split
        · split <;> rfl
        · rfl
      · rfl
    all_goals dsimp only
    all_goals first | rfl | ((try simp only [j_bI, j_bL, j_uI, j_uL, j_el, j_sI, j_sL, j_rg, j_op]); repeat' (first | rfl | split | dsimp only))
section J2
variable (C : Nat → List j_V → j_H → Option j_Z)
noncomputable def j_run : Nat → Nat → Nat → j_L → List j_V → j_H → Option j_Z
  | 0, _, _, _, _, _ => none
  | n + 1, y, pc, ls, st, h => j_step y pc ls st h none (fun pc ls st h => j_run n y pc ls st h) (fun v h => some (v, h)) (fun k as r => (C k as h).bind fun z => j_run n y (pc + 3) ls (z.1.toList ++ r) z.2)
theorem j_run_mono {n y pc : Nat} {ls : j_L} {st : List j_V} {h : j_H} {z : j_Z} (e : j_run C n y pc ls st h = some z) : j_run C (n + 1) y pc ls st h = some z := by
  induction n generalizing pc ls st h with
  | zero => cases e
  | succ n ih =>
    unfold j_run at e ⊢
    rw [j_step_by] at e ⊢
    generalize j_res y pc ls st h = q at e ⊢
    match q with
    | none => exact e
    | some (.inl (a, b, c, d)) => exact ih e
    | some (.inr (.inl (v, g))) => exact e
    | some (.inr (.inr (a, b, c))) =>
      simp only [j_by] at e ⊢
      cases hc : C a b h with
      | none => rw [hc] at e; cases e
      | some w => rw [hc] at e; exact ih e
theorem j_run_le {n k y pc : Nat} {ls : j_L} {st : List j_V} {h : j_H} {z : j_Z} (e : j_run C n y pc ls st h = some z) (hk : n ≤ k) : j_run C k y pc ls st h = some z := by
  induction hk with
  | refl => exact e
  | step _ ih => exact j_run_mono C ih
noncomputable def j_fin (y pc : Nat) (ls : j_L) (st : List j_V) (h : j_H) : Option j_Z := @dite (Option j_Z) (∃ z n, j_run C n y pc ls st h = some z) (Classical.propDecidable _) (fun e => some e.choose) (fun _ => none)
theorem j_fin_some {y pc : Nat} {ls : j_L} {st : List j_V} {h : j_H} {z : j_Z} : j_fin C y pc ls st h = some z ↔ ∃ n, j_run C n y pc ls st h = some z := by
  unfold j_fin
  constructor
  · intro e
    split at e
    · rename_i hz
      cases e
      exact hz.choose_spec
    · cases e
  · rintro ⟨n, e⟩
    have hz : ∃ z n, j_run C n y pc ls st h = some z := ⟨z, n, e⟩
    rw [dif_pos hz]
    obtain ⟨k, hk⟩ := hz.choose_spec
    have h1 := j_run_le C e (Nat.le_max_left n k)
    have h2 := j_run_le C hk (Nat.le_max_right n k)
    exact h2.symm.trans h1
theorem j_ext {a b : Option j_Z} (h1 : ∀ z, a = some z → b = some z) (h2 : ∀ z, b = some z → a = some z) : a = b := by
  cases a with
  | none => cases b with
    | none => rfl
    | some z => exact h2 z rfl
  | some z => exact (h1 z rfl).symm
theorem j_fin_step (y pc : Nat) (ls : j_L) (st : List j_V) (h : j_H) : j_fin C y pc ls st h = j_step y pc ls st h none (j_fin C y) (fun v h => some (v, h)) (fun k as r => (C k as h).bind fun z => j_fin C y (pc + 3) ls (z.1.toList ++ r) z.2) := by
  rw [j_step_by]
  apply j_ext
  · intro z e
    obtain ⟨n, e⟩ := (j_fin_some C).mp e
    cases n with
    | zero => cases e
    | succ n =>
      unfold j_run at e
      rw [j_step_by] at e
      generalize j_res y pc ls st h = q at e ⊢
      match q with
      | none => exact e
      | some (.inl (a, b, c, d)) => exact (j_fin_some C).mpr ⟨n, e⟩
      | some (.inr (.inl (v, g))) => exact e
      | some (.inr (.inr (a, b, c))) =>
        simp only [j_by] at e ⊢
        cases hc : C a b h with
        | none => rw [hc] at e; cases e
        | some w => rw [hc] at e; exact (j_fin_some C).mpr ⟨n, e⟩
  · intro z e
    have key : ∃ n, j_run C (n + 1) y pc ls st h = some z := by
      unfold j_run
      simp only [j_step_by]
      generalize j_res y pc ls st h = q at e ⊢
      match q with
      | none => cases e
      | some (.inl (a, b, c, d)) => exact (j_fin_some C).mp e
      | some (.inr (.inl (v, g))) => exact ⟨0, e⟩
      | some (.inr (.inr (a, b, c))) =>
        simp only [j_by] at e ⊢
        cases hc : C a b h with
        | none => rw [hc] at e; cases e
        | some w => rw [hc] at e; exact (j_fin_some C).mp e
    obtain ⟨n, hn⟩ := key
    exact (j_fin_some C).mpr ⟨n + 1, hn⟩
end J2
/-- a method's first locals -/
def j_ent : List j_V → j_L
  | [] => []
  | v :: r => if j_isL v = true then some v :: none :: j_ent r else some v :: j_ent r
noncomputable def j_ml (y : Nat) : Nat := match j_meth[y]? with
  | some q => q.2.2.1
  | none => 0
noncomputable def j_loc (y : Nat) (as : List j_V) : j_L := j_ent as ++ List.replicate (j_ml y - (j_ent as).length) none
/-- the meaning of method y, calls d deep -/
noncomputable def j_call : Nat → Nat → List j_V → j_H → Option j_Z
  | 0, _, _, _ => none
  | d + 1, y, as, h => j_fin (j_call d) y 0 (j_loc y as) [] h
/-- the same by the kernel: n steps a method -/
noncomputable def j_do (n : Nat) : Nat → Nat → List j_V → j_H → Option j_Z
  | 0, _, _, _ => none
  | d + 1, y, as, h => j_run (j_do n d) n y 0 (j_loc y as) [] h
theorem j_run_sub {C D : Nat → List j_V → j_H → Option j_Z} (hCD : ∀ k as h z, C k as h = some z → D k as h = some z) {n y pc : Nat} {ls : j_L} {st : List j_V} {h : j_H} {z : j_Z} (e : j_run C n y pc ls st h = some z) : j_run D n y pc ls st h = some z := by
  induction n generalizing pc ls st h with
  | zero => cases e
  | succ n ih =>
    unfold j_run at e ⊢
    rw [j_step_by] at e ⊢
    generalize j_res y pc ls st h = q at e ⊢
    match q with
    | none => exact e
    | some (.inl (a, b, c, d)) => exact ih e
    | some (.inr (.inl (v, g))) => exact e
    | some (.inr (.inr (a, b, c))) =>
      simp only [j_by] at e ⊢
      cases hc : C a b h with
      | none => rw [hc] at e; cases e
      | some w => rw [hc] at e; rw [hCD _ _ _ _ hc]; exact ih e
theorem j_do_call {n d y : Nat} {as : List j_V} {h : j_H} {z : j_Z} (e : j_do n d y as h = some z) : j_call d y as h = some z := by
  induction d generalizing y as h z with
  | zero => cases e
  | succ d ih =>
    unfold j_do at e
    unfold j_call
    exact (j_fin_some _).mpr ⟨n, j_run_sub (fun k as h z hz => ih hz) e⟩
theorem j_call_mono {d y : Nat} {as : List j_V} {h : j_H} {z : j_Z} (e : j_call d y as h = some z) : j_call (d + 1) y as h = some z := by
  induction d generalizing y as h z with
  | zero => cases e
  | succ d ih =>
    unfold j_call at e ⊢
    obtain ⟨n, e⟩ := (j_fin_some _).mp e
    exact (j_fin_some _).mpr ⟨n, j_run_sub (fun k as h z hz => ih hz) e⟩
end
section
/-! Every instruction of every method, decoded and looked up: decided by the kernel, a method at a time (by program). -/
def j_cnm (o : Nat) : String := j_cn.getD o ""
def j_ln (i : Instr) (n : Nat) : Bool := match i with
  | .aload _ => n == 2 | .iload _ => n == 2 | .lload _ => n == 2 | .istore _ => n == 2 | .astore _ => n == 2 | .lstore _ => n == 2 | .bipush _ => n == 2 | .ldc _ => n == 2 | .newarray _ => n == 2
  | .multianewarray _ d => n == 4 && d == 2
  | .tableswitch _ _ _ _ => true
  | .ifnonnull _ => n == 3 | .checkcast _ => n == 3 | .iinc _ _ => n == 3 | .sipush _ => n == 3 | .ldc_w _ => n == 3 | .ldc2_w _ => n == 3 | .goto _ => n == 3 | .ifCond _ _ => n == 3 | .if_icmp _ _ => n == 3
  | .getfield _ => n == 3 | .putfield _ => n == 3 | .getstatic _ => n == 3 | .new _ => n == 3 | .invokevirtual _ => n == 3 | .invokespecial _ => n == 3 | .invokestatic _ => n == 3
  | _ => n == 1
def j_dk (cc : ByteArray) (r : Nat × j_I) : Bool := match decode cc r.1 with
  | .ok (i, n) => decide (i = r.2.1) && j_ln i n
  | _ => false
def j_fin? (ci k : Nat) : Bool := match vwCl[ci]? with
  | some q => (q.2.1 k).2.2.2
  | none => false
/-- of each method: its class, kind, how many it takes -/
def j_kn : List (Nat × Nat × Nat) := [(2, 2, 0), (2, 0, 0), (2, 0, 2), (13, 3, 0), (2, 0, 3), (2, 0, 4), (13, 3, 0), (3, 2, 0), (3, 0, 1), (3, 0, 1), (3, 0, 2), (3, 0, 2), (3, 0, 3), (3, 0, 2), (3, 0, 1), (13, 3, 0), (3, 0, 2), (3, 0, 3), (3, 0, 2), (3, 1, 1), (4, 2, 0), (4, 0, 1), (4, 0, 0), (4, 0, 1), (4, 0, 1), (4, 0, 3), (13, 3, 0), (4, 0, 3), (5, 2, 0), (5, 0, 2), (5, 0, 1), (6, 2, 0), (6, 0, 1), (6, 0, 1), (6, 0, 2), (6, 0, 3), (13, 3, 0), (7, 2, 0), (7, 0, 1), (7, 0, 2), (13, 3, 0), (13, 3, 0), (7, 0, 2), (7, 0, 1), (7, 0, 1), (7, 0, 0), (7, 0, 0), (7, 0, 1), (7, 0, 3), (7, 0, 2), (7, 0, 3), (7, 0, 5), (7, 0, 1), (7, 0, 1), (7, 0, 1), (13, 3, 0), (7, 0, 0), (13, 3, 0), (13, 3, 0), (13, 3, 0), (8, 2, 0), (8, 0, 3), (8, 0, 2), (13, 3, 0), (9, 2, 0), (9, 0, 1), (9, 0, 1), (9, 0, 0), (9, 0, 1), (9, 0, 0), (9, 0, 0), (9, 0, 1), (9, 0, 1), (10, 2, 0), (13, 3, 0), (13, 3, 0), (13, 3, 0), (13, 3, 0), (13, 3, 0), (13, 3, 0), (11, 2, 0), (13, 3, 0), (13, 3, 0), (13, 3, 0), (13, 3, 0), (13, 3, 0), (13, 3, 0), (12, 2, 0), (12, 0, 1), (12, 0, 2), (13, 3, 0), (12, 0, 3), (12, 0, 2), (12, 0, 0), (12, 0, 1), (12, 0, 0), (12, 0, 2), (12, 0, 1), (13, 3, 0), (12, 0, 2), (13, 3, 0), (13, 3, 0), (13, 3, 0), (13, 3, 0), (13, 3, 0), (13, 3, 0), (13, 3, 0), (13, 3, 0), (13, 3, 0), (13, 3, 0), (13, 3, 0), (13, 3, 0), (13, 3, 0), (13, 3, 0), (13, 3, 0), (12, 0, 2), (12, 0, 2), (12, 0, 2), (13, 3, 0), (12, 0, 1), (12, 0, 2), (12, 0, 2), (12, 0, 2), (12, 0, 1), (12, 0, 0), (12, 0, 3), (12, 0, 0), (13, 3, 0), (12, 0, 0), (12, 0, 0), (12, 0, 1), (12, 0, 3), (12, 0, 3), (13, 3, 0), (13, 3, 0), (12, 0, 1), (12, 0, 1), (13, 3, 0), (12, 0, 1), (12, 1, 1), (12, 1, 1), (12, 1, 1), (12, 1, 1), (12, 1, 2), (12, 1, 1), (12, 0, 0), (12, 1, 3), (13, 3, 0), (13, 3, 0), (13, 3, 0), (13, 3, 0), (13, 3, 0), (13, 3, 0), (13, 3, 0), (13, 3, 0), (13, 3, 0), (13, 3, 0), (13, 3, 0), (13, 3, 0), (13, 3, 0), (13, 3, 0), (13, 3, 0), (13, 3, 0), (13, 3, 0), (13, 3, 0), (13, 3, 0), (13, 3, 0), (13, 3, 0), (13, 3, 0), (13, 3, 0), (13, 3, 0), (13, 3, 0), (13, 3, 0), (13, 3, 0), (13, 3, 0), (13, 3, 0), (13, 3, 0), (13, 3, 0), (13, 3, 0), (13, 3, 0), (13, 3, 0), (13, 3, 0), (13, 3, 0), (13, 3, 0), (13, 3, 0), (13, 3, 0), (13, 3, 0), (13, 3, 0), (13, 3, 0), (13, 3, 0), (13, 3, 0), (13, 3, 0), (13, 3, 0), (13, 3, 0), (13, 3, 0), (13, 3, 0), (13, 3, 0), (13, 3, 0), (13, 3, 0), (13, 3, 0), (13, 3, 0), (13, 3, 0), (13, 3, 0), (13, 3, 0), (13, 3, 0), (13, 3, 0), (13, 3, 0), (13, 3, 0), (13, 3, 0), (13, 3, 0), (13, 3, 0), (13, 3, 0), (13, 3, 0), (13, 3, 0), (13, 3, 0), (13, 3, 0), (13, 3, 0), (13, 3, 0), (13, 3, 0), (13, 3, 0), (13, 3, 0), (13, 3, 0), (13, 3, 0), (13, 3, 0), (13, 3, 0), (13, 3, 0), (13, 3, 0), (13, 3, 0), (13, 3, 0), (13, 3, 0), (13, 3, 0), (13, 3, 0), (13, 3, 0), (13, 3, 0), (13, 3, 0), (13, 3, 0), (13, 3, 0), (13, 3, 0), (13, 3, 0), (13, 3, 0), (13, 3, 0), (13, 3, 0), (13, 3, 0), (13, 3, 0), (13, 3, 0), (13, 3, 0), (13, 3, 0), (13, 3, 0), (13, 3, 0), (13, 3, 0), (13, 3, 0), (13, 3, 0), (13, 3, 0), (13, 3, 0), (13, 3, 0), (13, 3, 0), (13, 3, 0), (13, 3, 0), (13, 3, 0), (13, 3, 0), (13, 3, 0), (13, 3, 0), (13, 3, 0), (13, 3, 0), (13, 3, 0), (14, 1, 2), (14, 1, 2), (14, 1, 1), (14, 1, 2), (15, 1, 2), (15, 1, 2), (13, 1, 1), (0, 0, 1), (0, 1, 2), (0, 0, 0), (0, 0, 3), (0, 2, 1), (0, 2, 1), (0, 0, 0), (0, 0, 0), (18, 1, 1), (18, 1, 2), (20, 1, 2), (1, 0, 1), (1, 0, 1), (1, 0, 1), (1, 2, 0), (1, 0, 0), (1, 0, 0), (16, 0, 1), (16, 0, 1), (16, 0, 1), (16, 0, 1), (16, 0, 0), (16, 0, 1), (16, 2, 1), (16, 0, 0), (16, 0, 0), (16, 0, 1), (16, 0, 2), (17, 1, 3), (17, 1, 1), (15, 1, 2), (15, 1, 3), (15, 1, 3), (15, 1, 2), (19, 1, 3), (14, 1, 2), (13, 1, 2), (13, 1, 2)]
theorem j_kn_ok : j_meth.map (fun q => (q.2.2.2.2.1, q.2.2.2.2.2.1, q.2.2.2.2.2.2)) = j_kn := by decide +kernel
theorem j_rk_ok : j_meth.map (fun q => match q.2.2.2.1 with | none => 0 | some .int => 1 | some .long => 2 | some .boolean => 3 | some .byte => 4 | some .char => 5 | _ => 6) = j_rk := by decide +kernel
/-- calls: of that kind, with so many; not the law, nor those two that want one more that is nothing -/
def j_cal (a kd np : Nat) : Bool := match j_kn[a]? with
  | some m => m.2.1 == kd && m.2.2 == np && (a != 271 && (a != 277 && a != 282))
  | none => false
/-- a virtual method that is selected as it is named -/
def j_pl (a : Nat) : Bool := match j_kn[a]? with
  | some m => decide (m.1 < 13) && a != 287
  | none => false
/-- a method of the superclass of StringBuilder -/
def j_sup (a : Nat) : Bool := match j_kn[a]? with
  | some m => m.1 == 16
  | none => false
def j_ax (o kd : Nat) (r : Nat × j_I) : Bool :=
  let a := r.2.2.1
  let b := r.2.2.2.1
  let z := r.2.2.2.2
  match r.2.1 with
  | .getfield ix => j_ft.any (fun t => t.1 == o && t.2.1 == ix && t.2.2.1 == a && t.2.2.2.1 == b) || j_fn.any (fun t => t.1 == o && t.2.1 == ix && t.2.2.1 == a && t.2.2.2.1 == b)
  | .putfield ix => (j_ft.any (fun t => t.1 == o && t.2.1 == ix && t.2.2.1 == a && t.2.2.2.1 == b) && (!(j_fin? a b) || (kd == 2 && a == o))) || (j_fn.any (fun t => t.1 == o && t.2.1 == ix && t.2.2.1 == a && t.2.2.2.1 == b) && !(j_fin? a b))
  | .getstatic ix => (a == 99 && (j_fs.any (fun t => t.1 == o && t.2.1 == ix) || j_fsn.any (fun t => t.1 == o && t.2.1 == ix))) || (a != 99 && j_gs.any (fun t => t.1 == o && t.2.1 == ix && t.2.2.1 == a))
  | .invokevirtual ix => a == 9997 || (a == 9996 && (o == 15 && (ix == 310 && b == 0))) || (a != 9996 && (j_cal a 0 b && ((j_mt.any (fun t => t.1 == o && t.2.1 == ix && t.2.2.1 == a) && j_pl a) || j_vu.any (fun t => t.1 == o && t.2.1 == ix && t.2.2.1 == a))))
  | .invokespecial ix => a == 9997 || (if a == 9998 then j_mt.any (fun t => t.1 == o && t.2.1 == ix && t.2.2.1 == 9998) && b == 0 else ((j_mt.any (fun t => t.1 == o && t.2.1 == ix && t.2.2.1 == a) || j_mn.any (fun t => t.1 == o && t.2.1 == ix && t.2.2.1 == a)) && j_cal a 2 b) || (j_mt.any (fun t => t.1 == o && t.2.1 == ix && t.2.2.1 == a) && (j_cal a 0 b && (o == 1 && j_sup a))))
  | .invokestatic ix => a == 9997 || (if a == 9999 then j_mt.any (fun t => t.1 == o && t.2.1 == ix && t.2.2.1 == 9999) else (j_mt.any (fun t => t.1 == o && t.2.1 == ix && t.2.2.1 == a) || j_mn.any (fun t => t.1 == o && t.2.1 == ix && t.2.2.1 == a)) && j_cal a 1 b)
  | .new ix => a == 9997 || j_ct.any (fun t => t.1 == o && t.2.1 == ix && t.2.2.1 == a)
  | .ldc ix => a == 9997 || (a == 0 && j_kt.any (fun t => t.1 == o && t.2.1 == ix && t.2.2.1 == 0 && t.2.2.2.1 == z)) || (a == 1 && j_st.any (fun t => t.1 == o && t.2.1 == ix && t.2.2.1 == b))
  | .ldc_w ix => a == 9997 || (a == 0 && j_kt.any (fun t => t.1 == o && t.2.1 == ix && t.2.2.1 == 0 && t.2.2.2.1 == z))
  | .ldc2_w ix => j_kt.any (fun t => t.1 == o && t.2.1 == ix && t.2.2.1 == 1 && t.2.2.2.1 == z)
  | .iconst n => z == n && (Int32.ofInt n).toInt == z
  | .bipush n => z == n && (Int8.ofInt n).toInt32.toInt == z
  | .sipush n => z == n && (Int16.ofInt n).toInt32.toInt == z
  | .lconst n => z == ((n : Nat) : Int)
  | .goto off => (r.1 : Int) + off == (a : Int)
  | .ifnonnull off => (r.1 : Int) + off == (a : Int)
  | .ifCond _ off => (r.1 : Int) + off == (a : Int)
  | .if_icmp _ off => (r.1 : Int) + off == (a : Int)
  | .checkcast ix => o == 15 && ix == 311
  | .multianewarray ix _ => o == 8 && ix == 18
  | .iinc _ n => (Int32.ofInt n).toInt == n
  | _ => true
theorem j_all2 {α : Type} {l : List α} {f : α → Bool} (n : Nat) (h1 : (l.take n).all f = true) (h2 : (l.drop n).all f = true) : l.all f = true := by
  rw [← List.take_append_drop n l, List.all_append, h1, h2]
  rfl
theorem j_dk_0 : k_0.all (fun r => j_dk cX0_init r && j_ax 2 2 r) = true := by decide +kernel
theorem j_dk_1 : k_1.all (fun r => j_dk cX0_clear r && j_ax 2 0 r) = true := by decide +kernel
theorem j_dk_2 : k_2.all (fun r => j_dk cX0_formOf r && j_ax 2 0 r) = true := by decide +kernel
theorem j_dk_4_0 : ((k_4).take 30).all (fun r => j_dk cX0_make r && j_ax 2 0 r) = true := by decide +kernel
theorem j_dk_4_1 : (((k_4).drop 30).take 30).all (fun r => j_dk cX0_make r && j_ax 2 0 r) = true := by decide +kernel
theorem j_dk_4_2 : ((((k_4).drop 30).drop 30).take 30).all (fun r => j_dk cX0_make r && j_ax 2 0 r) = true := by decide +kernel
theorem j_dk_4_3 : ((((k_4).drop 30).drop 30).drop 30).all (fun r => j_dk cX0_make r && j_ax 2 0 r) = true := by decide +kernel
theorem j_dk_4 : k_4.all (fun r => j_dk cX0_make r && j_ax 2 0 r) = true := j_all2 30 j_dk_4_0 (j_all2 30 j_dk_4_1 (j_all2 30 j_dk_4_2 (j_dk_4_3)))
theorem j_dk_5_0 : ((k_5).take 30).all (fun r => j_dk cX0_tellIn r && j_ax 2 0 r) = true := by decide +kernel
theorem j_dk_5_1 : (((k_5).drop 30).take 30).all (fun r => j_dk cX0_tellIn r && j_ax 2 0 r) = true := by decide +kernel
theorem j_dk_5_2 : (((k_5).drop 30).drop 30).all (fun r => j_dk cX0_tellIn r && j_ax 2 0 r) = true := by decide +kernel
theorem j_dk_5 : k_5.all (fun r => j_dk cX0_tellIn r && j_ax 2 0 r) = true := j_all2 30 j_dk_5_0 (j_all2 30 j_dk_5_1 (j_dk_5_2))
theorem j_dk_7_0 : ((k_7).take 30).all (fun r => j_dk cX1_init r && j_ax 3 2 r) = true := by decide +kernel
theorem j_dk_7_1 : ((k_7).drop 30).all (fun r => j_dk cX1_init r && j_ax 3 2 r) = true := by decide +kernel
theorem j_dk_7 : k_7.all (fun r => j_dk cX1_init r && j_ax 3 2 r) = true := j_all2 30 j_dk_7_0 (j_dk_7_1)
theorem j_dk_8_0 : ((k_8).take 30).all (fun r => j_dk cX1_become r && j_ax 3 0 r) = true := by decide +kernel
theorem j_dk_8_1 : ((k_8).drop 30).all (fun r => j_dk cX1_become r && j_ax 3 0 r) = true := by decide +kernel
theorem j_dk_8 : k_8.all (fun r => j_dk cX1_become r && j_ax 3 0 r) = true := j_all2 30 j_dk_8_0 (j_dk_8_1)
theorem j_dk_9 : k_9.all (fun r => j_dk cX1_startAgain r && j_ax 3 0 r) = true := by decide +kernel
theorem j_dk_10_0 : ((k_10).take 30).all (fun r => j_dk cX1_addRule r && j_ax 3 0 r) = true := by decide +kernel
theorem j_dk_10_1 : ((k_10).drop 30).all (fun r => j_dk cX1_addRule r && j_ax 3 0 r) = true := by decide +kernel
theorem j_dk_10 : k_10.all (fun r => j_dk cX1_addRule r && j_ax 3 0 r) = true := j_all2 30 j_dk_10_0 (j_dk_10_1)
theorem j_dk_11 : k_11.all (fun r => j_dk cX1_factorOf r && j_ax 3 0 r) = true := by decide +kernel
theorem j_dk_12 : k_12.all (fun r => j_dk cX1_setFactor r && j_ax 3 0 r) = true := by decide +kernel
theorem j_dk_13 : k_13.all (fun r => j_dk cX1_formOf r && j_ax 3 0 r) = true := by decide +kernel
theorem j_dk_14 : k_14.all (fun r => j_dk cX1_costOf r && j_ax 3 0 r) = true := by decide +kernel
theorem j_dk_16 : k_16.all (fun r => j_dk cX1_digitOf r && j_ax 3 0 r) = true := by decide +kernel
theorem j_dk_17_0 : ((k_17).take 30).all (fun r => j_dk cX1_change r && j_ax 3 0 r) = true := by decide +kernel
theorem j_dk_17_1 : ((k_17).drop 30).all (fun r => j_dk cX1_change r && j_ax 3 0 r) = true := by decide +kernel
theorem j_dk_17 : k_17.all (fun r => j_dk cX1_change r && j_ax 3 0 r) = true := j_all2 30 j_dk_17_0 (j_dk_17_1)
theorem j_dk_18_0 : ((k_18).take 30).all (fun r => j_dk cX1_drawRules r && j_ax 3 0 r) = true := by decide +kernel
theorem j_dk_18_1 : ((k_18).drop 30).all (fun r => j_dk cX1_drawRules r && j_ax 3 0 r) = true := by decide +kernel
theorem j_dk_18 : k_18.all (fun r => j_dk cX1_drawRules r && j_ax 3 0 r) = true := j_all2 30 j_dk_18_0 (j_dk_18_1)
theorem j_dk_19 : k_19.all (fun r => j_dk cX1_stirred r && j_ax 3 1 r) = true := by decide +kernel
theorem j_dk_20 : k_20.all (fun r => j_dk cX2_init r && j_ax 4 2 r) = true := by decide +kernel
theorem j_dk_21 : k_21.all (fun r => j_dk cX2_become r && j_ax 4 0 r) = true := by decide +kernel
theorem j_dk_22 : k_22.all (fun r => j_dk cX2_clear r && j_ax 4 0 r) = true := by decide +kernel
theorem j_dk_23 : k_23.all (fun r => j_dk cX2_placeOf r && j_ax 4 0 r) = true := by decide +kernel
theorem j_dk_24 : k_24.all (fun r => j_dk cX2_gainOf r && j_ax 4 0 r) = true := by decide +kernel
theorem j_dk_25_0 : ((k_25).take 30).all (fun r => j_dk cX2_insert r && j_ax 4 0 r) = true := by decide +kernel
theorem j_dk_25_1 : (((k_25).drop 30).take 30).all (fun r => j_dk cX2_insert r && j_ax 4 0 r) = true := by decide +kernel
theorem j_dk_25_2 : (((k_25).drop 30).drop 30).all (fun r => j_dk cX2_insert r && j_ax 4 0 r) = true := by decide +kernel
theorem j_dk_25 : k_25.all (fun r => j_dk cX2_insert r && j_ax 4 0 r) = true := j_all2 30 j_dk_25_0 (j_all2 30 j_dk_25_1 (j_dk_25_2))
theorem j_dk_27 : k_27.all (fun r => j_dk cX2_isAhead r && j_ax 4 0 r) = true := by decide +kernel
theorem j_dk_28 : k_28.all (fun r => j_dk cX3_init r && j_ax 5 2 r) = true := by decide +kernel
theorem j_dk_29_0 : ((k_29).take 30).all (fun r => j_dk cX3_work r && j_ax 5 0 r) = true := by decide +kernel
theorem j_dk_29_1 : (((k_29).drop 30).take 30).all (fun r => j_dk cX3_work r && j_ax 5 0 r) = true := by decide +kernel
theorem j_dk_29_2 : (((k_29).drop 30).drop 30).all (fun r => j_dk cX3_work r && j_ax 5 0 r) = true := by decide +kernel
theorem j_dk_29 : k_29.all (fun r => j_dk cX3_work r && j_ax 5 0 r) = true := j_all2 30 j_dk_29_0 (j_all2 30 j_dk_29_1 (j_dk_29_2))
theorem j_dk_30 : k_30.all (fun r => j_dk cX3_worthOf r && j_ax 5 0 r) = true := by decide +kernel
theorem j_dk_31_0 : ((k_31).take 30).all (fun r => j_dk cX4_init r && j_ax 6 2 r) = true := by decide +kernel
theorem j_dk_31_1 : ((k_31).drop 30).all (fun r => j_dk cX4_init r && j_ax 6 2 r) = true := by decide +kernel
theorem j_dk_31 : k_31.all (fun r => j_dk cX4_init r && j_ax 6 2 r) = true := j_all2 30 j_dk_31_0 (j_dk_31_1)
theorem j_dk_32_0 : ((k_32).take 30).all (fun r => j_dk cX4_become r && j_ax 6 0 r) = true := by decide +kernel
theorem j_dk_32_1 : (((k_32).drop 30).take 30).all (fun r => j_dk cX4_become r && j_ax 6 0 r) = true := by decide +kernel
theorem j_dk_32_2 : (((k_32).drop 30).drop 30).all (fun r => j_dk cX4_become r && j_ax 6 0 r) = true := by decide +kernel
theorem j_dk_32 : k_32.all (fun r => j_dk cX4_become r && j_ax 6 0 r) = true := j_all2 30 j_dk_32_0 (j_all2 30 j_dk_32_1 (j_dk_32_2))
theorem j_dk_33 : k_33.all (fun r => j_dk cX4_startAgain r && j_ax 6 0 r) = true := by decide +kernel
theorem j_dk_34 : k_34.all (fun r => j_dk cX4_addSeen r && j_ax 6 0 r) = true := by decide +kernel
theorem j_dk_35 : k_35.all (fun r => j_dk cX4_addPlan r && j_ax 6 0 r) = true := by decide +kernel
theorem j_dk_37_0 : ((k_37).take 30).all (fun r => j_dk cX5_init r && j_ax 7 2 r) = true := by decide +kernel
theorem j_dk_37_1 : ((k_37).drop 30).all (fun r => j_dk cX5_init r && j_ax 7 2 r) = true := by decide +kernel
theorem j_dk_37 : k_37.all (fun r => j_dk cX5_init r && j_ax 7 2 r) = true := j_all2 30 j_dk_37_0 (j_dk_37_1)
theorem j_dk_38_0 : ((k_38).take 30).all (fun r => j_dk cX5_start r && j_ax 7 0 r) = true := by decide +kernel
theorem j_dk_38_1 : (((k_38).drop 30).take 30).all (fun r => j_dk cX5_start r && j_ax 7 0 r) = true := by decide +kernel
theorem j_dk_38_2 : (((k_38).drop 30).drop 30).all (fun r => j_dk cX5_start r && j_ax 7 0 r) = true := by decide +kernel
theorem j_dk_38 : k_38.all (fun r => j_dk cX5_start r && j_ax 7 0 r) = true := j_all2 30 j_dk_38_0 (j_all2 30 j_dk_38_1 (j_dk_38_2))
theorem j_dk_39_0 : ((k_39).take 30).all (fun r => j_dk cX5_addRow r && j_ax 7 0 r) = true := by decide +kernel
theorem j_dk_39_1 : ((k_39).drop 30).all (fun r => j_dk cX5_addRow r && j_ax 7 0 r) = true := by decide +kernel
theorem j_dk_39 : k_39.all (fun r => j_dk cX5_addRow r && j_ax 7 0 r) = true := j_all2 30 j_dk_39_0 (j_dk_39_1)
theorem j_dk_42_0 : ((k_42).take 30).all (fun r => j_dk cX5_addCut r && j_ax 7 0 r) = true := by decide +kernel
theorem j_dk_42_1 : ((k_42).drop 30).all (fun r => j_dk cX5_addCut r && j_ax 7 0 r) = true := by decide +kernel
theorem j_dk_42 : k_42.all (fun r => j_dk cX5_addCut r && j_ax 7 0 r) = true := j_all2 30 j_dk_42_0 (j_dk_42_1)
theorem j_dk_43 : k_43.all (fun r => j_dk cX5_restOf r && j_ax 7 0 r) = true := by decide +kernel
theorem j_dk_44 : k_44.all (fun r => j_dk cX5_wholeOf r && j_ax 7 0 r) = true := by decide +kernel
theorem j_dk_45_0 : ((k_45).take 30).all (fun r => j_dk cX5_repair r && j_ax 7 0 r) = true := by decide +kernel
theorem j_dk_45_1 : ((k_45).drop 30).all (fun r => j_dk cX5_repair r && j_ax 7 0 r) = true := by decide +kernel
theorem j_dk_45 : k_45.all (fun r => j_dk cX5_repair r && j_ax 7 0 r) = true := j_all2 30 j_dk_45_0 (j_dk_45_1)
theorem j_dk_46_0 : ((k_46).take 30).all (fun r => j_dk cX5_lowestRow r && j_ax 7 0 r) = true := by decide +kernel
theorem j_dk_46_1 : ((k_46).drop 30).all (fun r => j_dk cX5_lowestRow r && j_ax 7 0 r) = true := by decide +kernel
theorem j_dk_46 : k_46.all (fun r => j_dk cX5_lowestRow r && j_ax 7 0 r) = true := j_all2 30 j_dk_46_0 (j_dk_46_1)
theorem j_dk_47_0 : ((k_47).take 30).all (fun r => j_dk cX5_nearestColumn r && j_ax 7 0 r) = true := by decide +kernel
theorem j_dk_47_1 : ((k_47).drop 30).all (fun r => j_dk cX5_nearestColumn r && j_ax 7 0 r) = true := by decide +kernel
theorem j_dk_47 : k_47.all (fun r => j_dk cX5_nearestColumn r && j_ax 7 0 r) = true := j_all2 30 j_dk_47_0 (j_dk_47_1)
theorem j_dk_48_0 : ((k_48).take 30).all (fun r => j_dk cX5_isNearer r && j_ax 7 0 r) = true := by decide +kernel
theorem j_dk_48_1 : ((k_48).drop 30).all (fun r => j_dk cX5_isNearer r && j_ax 7 0 r) = true := by decide +kernel
theorem j_dk_48 : k_48.all (fun r => j_dk cX5_isNearer r && j_ax 7 0 r) = true := j_all2 30 j_dk_48_0 (j_dk_48_1)
theorem j_dk_49_0 : ((k_49).take 30).all (fun r => j_dk cX5_pivot r && j_ax 7 0 r) = true := by decide +kernel
theorem j_dk_49_1 : (((k_49).drop 30).take 30).all (fun r => j_dk cX5_pivot r && j_ax 7 0 r) = true := by decide +kernel
theorem j_dk_49_2 : ((((k_49).drop 30).drop 30).take 30).all (fun r => j_dk cX5_pivot r && j_ax 7 0 r) = true := by decide +kernel
theorem j_dk_49_3 : (((((k_49).drop 30).drop 30).drop 30).take 30).all (fun r => j_dk cX5_pivot r && j_ax 7 0 r) = true := by decide +kernel
theorem j_dk_49_4 : ((((((k_49).drop 30).drop 30).drop 30).drop 30).take 30).all (fun r => j_dk cX5_pivot r && j_ax 7 0 r) = true := by decide +kernel
theorem j_dk_49_5 : ((((((k_49).drop 30).drop 30).drop 30).drop 30).drop 30).all (fun r => j_dk cX5_pivot r && j_ax 7 0 r) = true := by decide +kernel
theorem j_dk_49 : k_49.all (fun r => j_dk cX5_pivot r && j_ax 7 0 r) = true := j_all2 30 j_dk_49_0 (j_all2 30 j_dk_49_1 (j_all2 30 j_dk_49_2 (j_all2 30 j_dk_49_3 (j_all2 30 j_dk_49_4 (j_dk_49_5)))))
theorem j_dk_50_0 : ((k_50).take 30).all (fun r => j_dk cX5_freshenRow r && j_ax 7 0 r) = true := by decide +kernel
theorem j_dk_50_1 : (((k_50).drop 30).take 30).all (fun r => j_dk cX5_freshenRow r && j_ax 7 0 r) = true := by decide +kernel
theorem j_dk_50_2 : ((((k_50).drop 30).drop 30).take 30).all (fun r => j_dk cX5_freshenRow r && j_ax 7 0 r) = true := by decide +kernel
theorem j_dk_50_3 : ((((k_50).drop 30).drop 30).drop 30).all (fun r => j_dk cX5_freshenRow r && j_ax 7 0 r) = true := by decide +kernel
theorem j_dk_50 : k_50.all (fun r => j_dk cX5_freshenRow r && j_ax 7 0 r) = true := j_all2 30 j_dk_50_0 (j_all2 30 j_dk_50_1 (j_all2 30 j_dk_50_2 (j_dk_50_3)))
theorem j_dk_51 : k_51.all (fun r => j_dk cX5_mixed r && j_ax 7 0 r) = true := by decide +kernel
theorem j_dk_52 : k_52.all (fun r => j_dk cX5_rowOf r && j_ax 7 0 r) = true := by decide +kernel
theorem j_dk_53 : k_53.all (fun r => j_dk cX5_rightOf r && j_ax 7 0 r) = true := by decide +kernel
theorem j_dk_54 : k_54.all (fun r => j_dk cX5_floorOf r && j_ax 7 0 r) = true := by decide +kernel
theorem j_dk_56 : k_56.all (fun r => j_dk cX5_partedRow r && j_ax 7 0 r) = true := by decide +kernel
theorem j_dk_60_0 : ((k_60).take 30).all (fun r => j_dk cX6_init r && j_ax 8 2 r) = true := by decide +kernel
theorem j_dk_60_1 : ((k_60).drop 30).all (fun r => j_dk cX6_init r && j_ax 8 2 r) = true := by decide +kernel
theorem j_dk_60 : k_60.all (fun r => j_dk cX6_init r && j_ax 8 2 r) = true := j_all2 30 j_dk_60_0 (j_dk_60_1)
theorem j_dk_61 : k_61.all (fun r => j_dk cX6_lay r && j_ax 8 0 r) = true := by decide +kernel
theorem j_dk_62 : k_62.all (fun r => j_dk cX6_trimmed r && j_ax 8 0 r) = true := by decide +kernel
theorem j_dk_64 : k_64.all (fun r => j_dk cX7_init r && j_ax 9 2 r) = true := by decide +kernel
theorem j_dk_65_0 : ((k_65).take 30).all (fun r => j_dk cX7_findFault r && j_ax 9 0 r) = true := by decide +kernel
theorem j_dk_65_1 : ((k_65).drop 30).all (fun r => j_dk cX7_findFault r && j_ax 9 0 r) = true := by decide +kernel
theorem j_dk_65 : k_65.all (fun r => j_dk cX7_findFault r && j_ax 9 0 r) = true := j_all2 30 j_dk_65_0 (j_dk_65_1)
theorem j_dk_66_0 : ((k_66).take 30).all (fun r => j_dk cX7_addRulesTo r && j_ax 9 0 r) = true := by decide +kernel
theorem j_dk_66_1 : ((k_66).drop 30).all (fun r => j_dk cX7_addRulesTo r && j_ax 9 0 r) = true := by decide +kernel
theorem j_dk_66 : k_66.all (fun r => j_dk cX7_addRulesTo r && j_ax 9 0 r) = true := j_all2 30 j_dk_66_0 (j_dk_66_1)
theorem j_dk_67 : k_67.all (fun r => j_dk cX7_here r && j_ax 9 0 r) = true := by decide +kernel
theorem j_dk_68 : k_68.all (fun r => j_dk cX7_skip r && j_ax 9 0 r) = true := by decide +kernel
theorem j_dk_69 : k_69.all (fun r => j_dk cX7_atDigit r && j_ax 9 0 r) = true := by decide +kernel
theorem j_dk_70_0 : ((k_70).take 30).all (fun r => j_dk cX7_readClause r && j_ax 9 0 r) = true := by decide +kernel
theorem j_dk_70_1 : (((k_70).drop 30).take 30).all (fun r => j_dk cX7_readClause r && j_ax 9 0 r) = true := by decide +kernel
theorem j_dk_70_2 : ((((k_70).drop 30).drop 30).take 30).all (fun r => j_dk cX7_readClause r && j_ax 9 0 r) = true := by decide +kernel
theorem j_dk_70_3 : ((((k_70).drop 30).drop 30).drop 30).all (fun r => j_dk cX7_readClause r && j_ax 9 0 r) = true := by decide +kernel
theorem j_dk_70 : k_70.all (fun r => j_dk cX7_readClause r && j_ax 9 0 r) = true := j_all2 30 j_dk_70_0 (j_all2 30 j_dk_70_1 (j_all2 30 j_dk_70_2 (j_dk_70_3)))
theorem j_dk_71_0 : ((k_71).take 30).all (fun r => j_dk cX7_readTerm r && j_ax 9 0 r) = true := by decide +kernel
theorem j_dk_71_1 : (((k_71).drop 30).take 30).all (fun r => j_dk cX7_readTerm r && j_ax 9 0 r) = true := by decide +kernel
theorem j_dk_71_2 : (((k_71).drop 30).drop 30).all (fun r => j_dk cX7_readTerm r && j_ax 9 0 r) = true := by decide +kernel
theorem j_dk_71 : k_71.all (fun r => j_dk cX7_readTerm r && j_ax 9 0 r) = true := j_all2 30 j_dk_71_0 (j_all2 30 j_dk_71_1 (j_dk_71_2))
theorem j_dk_72_0 : ((k_72).take 30).all (fun r => j_dk cX7_readBound r && j_ax 9 0 r) = true := by decide +kernel
theorem j_dk_72_1 : ((k_72).drop 30).all (fun r => j_dk cX7_readBound r && j_ax 9 0 r) = true := by decide +kernel
theorem j_dk_72 : k_72.all (fun r => j_dk cX7_readBound r && j_ax 9 0 r) = true := j_all2 30 j_dk_72_0 (j_dk_72_1)
theorem j_dk_73_0 : ((k_73).take 30).all (fun r => j_dk cX8_init r && j_ax 10 2 r) = true := by decide +kernel
theorem j_dk_73_1 : ((k_73).drop 30).all (fun r => j_dk cX8_init r && j_ax 10 2 r) = true := by decide +kernel
theorem j_dk_73 : k_73.all (fun r => j_dk cX8_init r && j_ax 10 2 r) = true := j_all2 30 j_dk_73_0 (j_dk_73_1)
theorem j_dk_80 : k_80.all (fun r => j_dk cX9_init r && j_ax 11 2 r) = true := by decide +kernel
theorem j_dk_87_0 : ((k_87).take 30).all (fun r => j_dk cX10_init r && j_ax 12 2 r) = true := by decide +kernel
theorem j_dk_87_1 : ((k_87).drop 30).all (fun r => j_dk cX10_init r && j_ax 12 2 r) = true := by decide +kernel
theorem j_dk_87 : k_87.all (fun r => j_dk cX10_init r && j_ax 12 2 r) = true := j_all2 30 j_dk_87_0 (j_dk_87_1)
theorem j_dk_88 : k_88.all (fun r => j_dk cX10_size r && j_ax 12 0 r) = true := by decide +kernel
theorem j_dk_89_0 : ((k_89).take 30).all (fun r => j_dk cX10_cost r && j_ax 12 0 r) = true := by decide +kernel
theorem j_dk_89_1 : ((k_89).drop 30).all (fun r => j_dk cX10_cost r && j_ax 12 0 r) = true := by decide +kernel
theorem j_dk_89 : k_89.all (fun r => j_dk cX10_cost r && j_ax 12 0 r) = true := j_all2 30 j_dk_89_0 (j_dk_89_1)
theorem j_dk_91_0 : ((k_91).take 30).all (fun r => j_dk cX10_factor r && j_ax 12 0 r) = true := by decide +kernel
theorem j_dk_91_1 : ((k_91).drop 30).all (fun r => j_dk cX10_factor r && j_ax 12 0 r) = true := by decide +kernel
theorem j_dk_91 : k_91.all (fun r => j_dk cX10_factor r && j_ax 12 0 r) = true := j_all2 30 j_dk_91_0 (j_dk_91_1)
theorem j_dk_92_0 : ((k_92).take 30).all (fun r => j_dk cX10_bound r && j_ax 12 0 r) = true := by decide +kernel
theorem j_dk_92_1 : ((k_92).drop 30).all (fun r => j_dk cX10_bound r && j_ax 12 0 r) = true := by decide +kernel
theorem j_dk_92 : k_92.all (fun r => j_dk cX10_bound r && j_ax 12 0 r) = true := j_all2 30 j_dk_92_0 (j_dk_92_1)
theorem j_dk_93_0 : ((k_93).take 30).all (fun r => j_dk cX10_less r && j_ax 12 0 r) = true := by decide +kernel
theorem j_dk_93_1 : ((k_93).drop 30).all (fun r => j_dk cX10_less r && j_ax 12 0 r) = true := by decide +kernel
theorem j_dk_93 : k_93.all (fun r => j_dk cX10_less r && j_ax 12 0 r) = true := j_all2 30 j_dk_93_0 (j_dk_93_1)
theorem j_dk_94_0 : ((k_94).take 30).all (fun r => j_dk cX10_feed r && j_ax 12 0 r) = true := by decide +kernel
theorem j_dk_94_1 : ((k_94).drop 30).all (fun r => j_dk cX10_feed r && j_ax 12 0 r) = true := by decide +kernel
theorem j_dk_94 : k_94.all (fun r => j_dk cX10_feed r && j_ax 12 0 r) = true := j_all2 30 j_dk_94_0 (j_dk_94_1)
theorem j_dk_95_0 : ((k_95).take 30).all (fun r => j_dk cX10_read r && j_ax 12 0 r) = true := by decide +kernel
theorem j_dk_95_1 : ((k_95).drop 30).all (fun r => j_dk cX10_read r && j_ax 12 0 r) = true := by decide +kernel
theorem j_dk_95 : k_95.all (fun r => j_dk cX10_read r && j_ax 12 0 r) = true := j_all2 30 j_dk_95_0 (j_dk_95_1)
theorem j_dk_96_0 : ((k_96).take 30).all (fun r => j_dk cX10_ruleOf r && j_ax 12 0 r) = true := by decide +kernel
theorem j_dk_96_1 : ((k_96).drop 30).all (fun r => j_dk cX10_ruleOf r && j_ax 12 0 r) = true := by decide +kernel
theorem j_dk_96 : k_96.all (fun r => j_dk cX10_ruleOf r && j_ax 12 0 r) = true := j_all2 30 j_dk_96_0 (j_dk_96_1)
theorem j_dk_97 : k_97.all (fun r => j_dk cX10_solve r && j_ax 12 0 r) = true := by decide +kernel
theorem j_dk_99 : k_99.all (fun r => j_dk cX10_amount r && j_ax 12 0 r) = true := by decide +kernel
theorem j_dk_115 : k_115.all (fun r => j_dk cX10_would r && j_ax 12 0 r) = true := by decide +kernel
theorem j_dk_116_0 : ((k_116).take 30).all (fun r => j_dk cX10_see r && j_ax 12 0 r) = true := by decide +kernel
theorem j_dk_116_1 : ((k_116).drop 30).all (fun r => j_dk cX10_see r && j_ax 12 0 r) = true := by decide +kernel
theorem j_dk_116 : k_116.all (fun r => j_dk cX10_see r && j_ax 12 0 r) = true := j_all2 30 j_dk_116_0 (j_dk_116_1)
theorem j_dk_117_0 : ((k_117).take 30).all (fun r => j_dk cX10_fits r && j_ax 12 0 r) = true := by decide +kernel
theorem j_dk_117_1 : ((k_117).drop 30).all (fun r => j_dk cX10_fits r && j_ax 12 0 r) = true := by decide +kernel
theorem j_dk_117 : k_117.all (fun r => j_dk cX10_fits r && j_ax 12 0 r) = true := j_all2 30 j_dk_117_0 (j_dk_117_1)
theorem j_dk_119_0 : ((k_119).take 30).all (fun r => j_dk cX10_mean r && j_ax 12 0 r) = true := by decide +kernel
theorem j_dk_119_1 : ((k_119).drop 30).all (fun r => j_dk cX10_mean r && j_ax 12 0 r) = true := by decide +kernel
theorem j_dk_119 : k_119.all (fun r => j_dk cX10_mean r && j_ax 12 0 r) = true := j_all2 30 j_dk_119_0 (j_dk_119_1)
theorem j_dk_120 : k_120.all (fun r => j_dk cX10_drawn r && j_ax 12 0 r) = true := by decide +kernel
theorem j_dk_121_0 : ((k_121).take 30).all (fun r => j_dk cX10_offer r && j_ax 12 0 r) = true := by decide +kernel
theorem j_dk_121_1 : ((k_121).drop 30).all (fun r => j_dk cX10_offer r && j_ax 12 0 r) = true := by decide +kernel
theorem j_dk_121 : k_121.all (fun r => j_dk cX10_offer r && j_ax 12 0 r) = true := j_all2 30 j_dk_121_0 (j_dk_121_1)
theorem j_dk_122_0 : ((k_122).take 30).all (fun r => j_dk cX10_offered r && j_ax 12 0 r) = true := by decide +kernel
theorem j_dk_122_1 : ((k_122).drop 30).all (fun r => j_dk cX10_offered r && j_ax 12 0 r) = true := by decide +kernel
theorem j_dk_122 : k_122.all (fun r => j_dk cX10_offered r && j_ax 12 0 r) = true := j_all2 30 j_dk_122_0 (j_dk_122_1)
theorem j_dk_123 : k_123.all (fun r => j_dk cX10_upTo r && j_ax 12 0 r) = true := by decide +kernel
theorem j_dk_124_0 : ((k_124).take 30).all (fun r => j_dk cX10_dearest r && j_ax 12 0 r) = true := by decide +kernel
theorem j_dk_124_1 : ((k_124).drop 30).all (fun r => j_dk cX10_dearest r && j_ax 12 0 r) = true := by decide +kernel
theorem j_dk_124 : k_124.all (fun r => j_dk cX10_dearest r && j_ax 12 0 r) = true := j_all2 30 j_dk_124_0 (j_dk_124_1)
theorem j_dk_125_0 : ((k_125).take 30).all (fun r => j_dk cX10_plan r && j_ax 12 0 r) = true := by decide +kernel
theorem j_dk_125_1 : ((k_125).drop 30).all (fun r => j_dk cX10_plan r && j_ax 12 0 r) = true := by decide +kernel
theorem j_dk_125 : k_125.all (fun r => j_dk cX10_plan r && j_ax 12 0 r) = true := j_all2 30 j_dk_125_0 (j_dk_125_1)
theorem j_dk_126_0 : ((k_126).take 30).all (fun r => j_dk cX10_ends r && j_ax 12 0 r) = true := by decide +kernel
theorem j_dk_126_1 : ((k_126).drop 30).all (fun r => j_dk cX10_ends r && j_ax 12 0 r) = true := by decide +kernel
theorem j_dk_126 : k_126.all (fun r => j_dk cX10_ends r && j_ax 12 0 r) = true := j_all2 30 j_dk_126_0 (j_dk_126_1)
theorem j_dk_128 : k_128.all (fun r => j_dk cX10_image r && j_ax 12 0 r) = true := by decide +kernel
theorem j_dk_129 : k_129.all (fun r => j_dk cX10_undo r && j_ax 12 0 r) = true := by decide +kernel
theorem j_dk_130_0 : ((k_130).take 30).all (fun r => j_dk cX10_count r && j_ax 12 0 r) = true := by decide +kernel
theorem j_dk_130_1 : (((k_130).drop 30).take 30).all (fun r => j_dk cX10_count r && j_ax 12 0 r) = true := by decide +kernel
theorem j_dk_130_2 : (((k_130).drop 30).drop 30).all (fun r => j_dk cX10_count r && j_ax 12 0 r) = true := by decide +kernel
theorem j_dk_130 : k_130.all (fun r => j_dk cX10_count r && j_ax 12 0 r) = true := j_all2 30 j_dk_130_0 (j_all2 30 j_dk_130_1 (j_dk_130_2))
theorem j_dk_131_0 : ((k_131).take 30).all (fun r => j_dk cX10_tape r && j_ax 12 0 r) = true := by decide +kernel
theorem j_dk_131_1 : ((k_131).drop 30).all (fun r => j_dk cX10_tape r && j_ax 12 0 r) = true := by decide +kernel
theorem j_dk_131 : k_131.all (fun r => j_dk cX10_tape r && j_ax 12 0 r) = true := j_all2 30 j_dk_131_0 (j_dk_131_1)
theorem j_dk_132_0 : ((k_132).take 30).all (fun r => j_dk cX10_item r && j_ax 12 0 r) = true := by decide +kernel
theorem j_dk_132_1 : ((k_132).drop 30).all (fun r => j_dk cX10_item r && j_ax 12 0 r) = true := by decide +kernel
theorem j_dk_132 : k_132.all (fun r => j_dk cX10_item r && j_ax 12 0 r) = true := j_all2 30 j_dk_132_0 (j_dk_132_1)
theorem j_dk_135 : k_135.all (fun r => j_dk cX10_isPack r && j_ax 12 0 r) = true := by decide +kernel
theorem j_dk_136 : k_136.all (fun r => j_dk cX10_isRule r && j_ax 12 0 r) = true := by decide +kernel
theorem j_dk_138 : k_138.all (fun r => j_dk cX10_isCode r && j_ax 12 0 r) = true := by decide +kernel
theorem j_dk_139 : k_139.all (fun r => j_dk cX10_isBound r && j_ax 12 1 r) = true := by decide +kernel
theorem j_dk_140 : k_140.all (fun r => j_dk cX10_isFactor r && j_ax 12 1 r) = true := by decide +kernel
theorem j_dk_141 : k_141.all (fun r => j_dk cX10_isPart r && j_ax 12 1 r) = true := by decide +kernel
theorem j_dk_142 : k_142.all (fun r => j_dk cX10_isTape r && j_ax 12 1 r) = true := by decide +kernel
theorem j_dk_143 : k_143.all (fun r => j_dk cX10_isPlanned r && j_ax 12 1 r) = true := by decide +kernel
theorem j_dk_144 : k_144.all (fun r => j_dk cX10_isNear r && j_ax 12 1 r) = true := by decide +kernel
theorem j_dk_145_0 : ((k_145).take 30).all (fun r => j_dk cX10_isSeenSo r && j_ax 12 0 r) = true := by decide +kernel
theorem j_dk_145_1 : ((k_145).drop 30).all (fun r => j_dk cX10_isSeenSo r && j_ax 12 0 r) = true := by decide +kernel
theorem j_dk_145 : k_145.all (fun r => j_dk cX10_isSeenSo r && j_ax 12 0 r) = true := j_all2 30 j_dk_145_0 (j_dk_145_1)
theorem j_dk_146_0 : ((k_146).take 30).all (fun r => j_dk cX10_lowest r && j_ax 12 1 r) = true := by decide +kernel
theorem j_dk_146_1 : ((k_146).drop 30).all (fun r => j_dk cX10_lowest r && j_ax 12 1 r) = true := by decide +kernel
theorem j_dk_146 : k_146.all (fun r => j_dk cX10_lowest r && j_ax 12 1 r) = true := j_all2 30 j_dk_146_0 (j_dk_146_1)
theorem j_dk_265 : k_265.all (fun r => j_dk cJ9_floorDiv_f86c9 r && j_ax 14 1 r) = true := by decide +kernel
theorem j_dk_266 : k_266.all (fun r => j_dk cJ9_floorMod_f86c9 r && j_ax 14 1 r) = true := by decide +kernel
theorem j_dk_267 : k_267.all (fun r => j_dk cJ9_abs_067f4 r && j_ax 14 1 r) = true := by decide +kernel
theorem j_dk_268 : k_268.all (fun r => j_dk cJ9_min_7cf53 r && j_ax 14 1 r) = true := by decide +kernel
theorem j_dk_269 : k_269.all (fun r => j_dk cJ7_fill_d0a16 r && j_ax 15 1 r) = true := by decide +kernel
theorem j_dk_270 : k_270.all (fun r => j_dk cJ7_fill_53178 r && j_ax 15 1 r) = true := by decide +kernel
theorem j_dk_271_0 : ((k_271).take 30).all (fun r => j_dk cL_law r && j_ax 13 1 r) = true := by decide +kernel
theorem j_dk_271_1 : (((k_271).drop 30).take 30).all (fun r => j_dk cL_law r && j_ax 13 1 r) = true := by decide +kernel
theorem j_dk_271_2 : ((((k_271).drop 30).drop 30).take 30).all (fun r => j_dk cL_law r && j_ax 13 1 r) = true := by decide +kernel
theorem j_dk_271_3 : (((((k_271).drop 30).drop 30).drop 30).take 30).all (fun r => j_dk cL_law r && j_ax 13 1 r) = true := by decide +kernel
theorem j_dk_271_4 : ((((((k_271).drop 30).drop 30).drop 30).drop 30).take 30).all (fun r => j_dk cL_law r && j_ax 13 1 r) = true := by decide +kernel
theorem j_dk_271_5 : (((((((k_271).drop 30).drop 30).drop 30).drop 30).drop 30).take 30).all (fun r => j_dk cL_law r && j_ax 13 1 r) = true := by decide +kernel
theorem j_dk_271_6 : ((((((((k_271).drop 30).drop 30).drop 30).drop 30).drop 30).drop 30).take 30).all (fun r => j_dk cL_law r && j_ax 13 1 r) = true := by decide +kernel
theorem j_dk_271_7 : (((((((((k_271).drop 30).drop 30).drop 30).drop 30).drop 30).drop 30).drop 30).take 30).all (fun r => j_dk cL_law r && j_ax 13 1 r) = true := by decide +kernel
theorem j_dk_271_8 : ((((((((((k_271).drop 30).drop 30).drop 30).drop 30).drop 30).drop 30).drop 30).drop 30).take 30).all (fun r => j_dk cL_law r && j_ax 13 1 r) = true := by decide +kernel
theorem j_dk_271_9 : (((((((((((k_271).drop 30).drop 30).drop 30).drop 30).drop 30).drop 30).drop 30).drop 30).drop 30).take 30).all (fun r => j_dk cL_law r && j_ax 13 1 r) = true := by decide +kernel
theorem j_dk_271_10 : ((((((((((((k_271).drop 30).drop 30).drop 30).drop 30).drop 30).drop 30).drop 30).drop 30).drop 30).drop 30).take 30).all (fun r => j_dk cL_law r && j_ax 13 1 r) = true := by decide +kernel
theorem j_dk_271_11 : (((((((((((((k_271).drop 30).drop 30).drop 30).drop 30).drop 30).drop 30).drop 30).drop 30).drop 30).drop 30).drop 30).take 30).all (fun r => j_dk cL_law r && j_ax 13 1 r) = true := by decide +kernel
theorem j_dk_271_12 : ((((((((((((((k_271).drop 30).drop 30).drop 30).drop 30).drop 30).drop 30).drop 30).drop 30).drop 30).drop 30).drop 30).drop 30).take 30).all (fun r => j_dk cL_law r && j_ax 13 1 r) = true := by decide +kernel
theorem j_dk_271_13 : (((((((((((((((k_271).drop 30).drop 30).drop 30).drop 30).drop 30).drop 30).drop 30).drop 30).drop 30).drop 30).drop 30).drop 30).drop 30).take 30).all (fun r => j_dk cL_law r && j_ax 13 1 r) = true := by decide +kernel
theorem j_dk_271_14 : ((((((((((((((((k_271).drop 30).drop 30).drop 30).drop 30).drop 30).drop 30).drop 30).drop 30).drop 30).drop 30).drop 30).drop 30).drop 30).drop 30).take 30).all (fun r => j_dk cL_law r && j_ax 13 1 r) = true := by decide +kernel
theorem j_dk_271_15 : (((((((((((((((((k_271).drop 30).drop 30).drop 30).drop 30).drop 30).drop 30).drop 30).drop 30).drop 30).drop 30).drop 30).drop 30).drop 30).drop 30).drop 30).take 30).all (fun r => j_dk cL_law r && j_ax 13 1 r) = true := by decide +kernel
theorem j_dk_271_16 : ((((((((((((((((((k_271).drop 30).drop 30).drop 30).drop 30).drop 30).drop 30).drop 30).drop 30).drop 30).drop 30).drop 30).drop 30).drop 30).drop 30).drop 30).drop 30).take 30).all (fun r => j_dk cL_law r && j_ax 13 1 r) = true := by decide +kernel
theorem j_dk_271_17 : (((((((((((((((((((k_271).drop 30).drop 30).drop 30).drop 30).drop 30).drop 30).drop 30).drop 30).drop 30).drop 30).drop 30).drop 30).drop 30).drop 30).drop 30).drop 30).drop 30).take 30).all (fun r => j_dk cL_law r && j_ax 13 1 r) = true := by decide +kernel
theorem j_dk_271_18 : ((((((((((((((((((((k_271).drop 30).drop 30).drop 30).drop 30).drop 30).drop 30).drop 30).drop 30).drop 30).drop 30).drop 30).drop 30).drop 30).drop 30).drop 30).drop 30).drop 30).drop 30).take 30).all (fun r => j_dk cL_law r && j_ax 13 1 r) = true := by decide +kernel
theorem j_dk_271_19 : (((((((((((((((((((((k_271).drop 30).drop 30).drop 30).drop 30).drop 30).drop 30).drop 30).drop 30).drop 30).drop 30).drop 30).drop 30).drop 30).drop 30).drop 30).drop 30).drop 30).drop 30).drop 30).take 30).all (fun r => j_dk cL_law r && j_ax 13 1 r) = true := by decide +kernel
theorem j_dk_271_20 : ((((((((((((((((((((((k_271).drop 30).drop 30).drop 30).drop 30).drop 30).drop 30).drop 30).drop 30).drop 30).drop 30).drop 30).drop 30).drop 30).drop 30).drop 30).drop 30).drop 30).drop 30).drop 30).drop 30).take 30).all (fun r => j_dk cL_law r && j_ax 13 1 r) = true := by decide +kernel
theorem j_dk_271_21 : (((((((((((((((((((((((k_271).drop 30).drop 30).drop 30).drop 30).drop 30).drop 30).drop 30).drop 30).drop 30).drop 30).drop 30).drop 30).drop 30).drop 30).drop 30).drop 30).drop 30).drop 30).drop 30).drop 30).drop 30).take 30).all (fun r => j_dk cL_law r && j_ax 13 1 r) = true := by decide +kernel
theorem j_dk_271_22 : ((((((((((((((((((((((((k_271).drop 30).drop 30).drop 30).drop 30).drop 30).drop 30).drop 30).drop 30).drop 30).drop 30).drop 30).drop 30).drop 30).drop 30).drop 30).drop 30).drop 30).drop 30).drop 30).drop 30).drop 30).drop 30).take 30).all (fun r => j_dk cL_law r && j_ax 13 1 r) = true := by decide +kernel
theorem j_dk_271_23 : (((((((((((((((((((((((((k_271).drop 30).drop 30).drop 30).drop 30).drop 30).drop 30).drop 30).drop 30).drop 30).drop 30).drop 30).drop 30).drop 30).drop 30).drop 30).drop 30).drop 30).drop 30).drop 30).drop 30).drop 30).drop 30).drop 30).take 30).all (fun r => j_dk cL_law r && j_ax 13 1 r) = true := by decide +kernel
theorem j_dk_271_24 : ((((((((((((((((((((((((((k_271).drop 30).drop 30).drop 30).drop 30).drop 30).drop 30).drop 30).drop 30).drop 30).drop 30).drop 30).drop 30).drop 30).drop 30).drop 30).drop 30).drop 30).drop 30).drop 30).drop 30).drop 30).drop 30).drop 30).drop 30).take 30).all (fun r => j_dk cL_law r && j_ax 13 1 r) = true := by decide +kernel
theorem j_dk_271_25 : (((((((((((((((((((((((((((k_271).drop 30).drop 30).drop 30).drop 30).drop 30).drop 30).drop 30).drop 30).drop 30).drop 30).drop 30).drop 30).drop 30).drop 30).drop 30).drop 30).drop 30).drop 30).drop 30).drop 30).drop 30).drop 30).drop 30).drop 30).drop 30).take 30).all (fun r => j_dk cL_law r && j_ax 13 1 r) = true := by decide +kernel
theorem j_dk_271_26 : ((((((((((((((((((((((((((((k_271).drop 30).drop 30).drop 30).drop 30).drop 30).drop 30).drop 30).drop 30).drop 30).drop 30).drop 30).drop 30).drop 30).drop 30).drop 30).drop 30).drop 30).drop 30).drop 30).drop 30).drop 30).drop 30).drop 30).drop 30).drop 30).drop 30).take 30).all (fun r => j_dk cL_law r && j_ax 13 1 r) = true := by decide +kernel
theorem j_dk_271_27 : (((((((((((((((((((((((((((((k_271).drop 30).drop 30).drop 30).drop 30).drop 30).drop 30).drop 30).drop 30).drop 30).drop 30).drop 30).drop 30).drop 30).drop 30).drop 30).drop 30).drop 30).drop 30).drop 30).drop 30).drop 30).drop 30).drop 30).drop 30).drop 30).drop 30).drop 30).take 30).all (fun r => j_dk cL_law r && j_ax 13 1 r) = true := by decide +kernel
theorem j_dk_271_28 : ((((((((((((((((((((((((((((((k_271).drop 30).drop 30).drop 30).drop 30).drop 30).drop 30).drop 30).drop 30).drop 30).drop 30).drop 30).drop 30).drop 30).drop 30).drop 30).drop 30).drop 30).drop 30).drop 30).drop 30).drop 30).drop 30).drop 30).drop 30).drop 30).drop 30).drop 30).drop 30).take 30).all (fun r => j_dk cL_law r && j_ax 13 1 r) = true := by decide +kernel
theorem j_dk_271_29 : (((((((((((((((((((((((((((((((k_271).drop 30).drop 30).drop 30).drop 30).drop 30).drop 30).drop 30).drop 30).drop 30).drop 30).drop 30).drop 30).drop 30).drop 30).drop 30).drop 30).drop 30).drop 30).drop 30).drop 30).drop 30).drop 30).drop 30).drop 30).drop 30).drop 30).drop 30).drop 30).drop 30).take 30).all (fun r => j_dk cL_law r && j_ax 13 1 r) = true := by decide +kernel
theorem j_dk_271_30 : ((((((((((((((((((((((((((((((((k_271).drop 30).drop 30).drop 30).drop 30).drop 30).drop 30).drop 30).drop 30).drop 30).drop 30).drop 30).drop 30).drop 30).drop 30).drop 30).drop 30).drop 30).drop 30).drop 30).drop 30).drop 30).drop 30).drop 30).drop 30).drop 30).drop 30).drop 30).drop 30).drop 30).drop 30).take 30).all (fun r => j_dk cL_law r && j_ax 13 1 r) = true := by decide +kernel
theorem j_dk_271_31 : (((((((((((((((((((((((((((((((((k_271).drop 30).drop 30).drop 30).drop 30).drop 30).drop 30).drop 30).drop 30).drop 30).drop 30).drop 30).drop 30).drop 30).drop 30).drop 30).drop 30).drop 30).drop 30).drop 30).drop 30).drop 30).drop 30).drop 30).drop 30).drop 30).drop 30).drop 30).drop 30).drop 30).drop 30).drop 30).take 30).all (fun r => j_dk cL_law r && j_ax 13 1 r) = true := by decide +kernel
theorem j_dk_271_32 : ((((((((((((((((((((((((((((((((((k_271).drop 30).drop 30).drop 30).drop 30).drop 30).drop 30).drop 30).drop 30).drop 30).drop 30).drop 30).drop 30).drop 30).drop 30).drop 30).drop 30).drop 30).drop 30).drop 30).drop 30).drop 30).drop 30).drop 30).drop 30).drop 30).drop 30).drop 30).drop 30).drop 30).drop 30).drop 30).drop 30).take 30).all (fun r => j_dk cL_law r && j_ax 13 1 r) = true := by decide +kernel
theorem j_dk_271_33 : (((((((((((((((((((((((((((((((((((k_271).drop 30).drop 30).drop 30).drop 30).drop 30).drop 30).drop 30).drop 30).drop 30).drop 30).drop 30).drop 30).drop 30).drop 30).drop 30).drop 30).drop 30).drop 30).drop 30).drop 30).drop 30).drop 30).drop 30).drop 30).drop 30).drop 30).drop 30).drop 30).drop 30).drop 30).drop 30).drop 30).drop 30).take 30).all (fun r => j_dk cL_law r && j_ax 13 1 r) = true := by decide +kernel
theorem j_dk_271_34 : (((((((((((((((((((((((((((((((((((k_271).drop 30).drop 30).drop 30).drop 30).drop 30).drop 30).drop 30).drop 30).drop 30).drop 30).drop 30).drop 30).drop 30).drop 30).drop 30).drop 30).drop 30).drop 30).drop 30).drop 30).drop 30).drop 30).drop 30).drop 30).drop 30).drop 30).drop 30).drop 30).drop 30).drop 30).drop 30).drop 30).drop 30).drop 30).all (fun r => j_dk cL_law r && j_ax 13 1 r) = true := by decide +kernel
theorem j_dk_271 : k_271.all (fun r => j_dk cL_law r && j_ax 13 1 r) = true := j_all2 30 j_dk_271_0 (j_all2 30 j_dk_271_1 (j_all2 30 j_dk_271_2 (j_all2 30 j_dk_271_3 (j_all2 30 j_dk_271_4 (j_all2 30 j_dk_271_5 (j_all2 30 j_dk_271_6 (j_all2 30 j_dk_271_7 (j_all2 30 j_dk_271_8 (j_all2 30 j_dk_271_9 (j_all2 30 j_dk_271_10 (j_all2 30 j_dk_271_11 (j_all2 30 j_dk_271_12 (j_all2 30 j_dk_271_13 (j_all2 30 j_dk_271_14 (j_all2 30 j_dk_271_15 (j_all2 30 j_dk_271_16 (j_all2 30 j_dk_271_17 (j_all2 30 j_dk_271_18 (j_all2 30 j_dk_271_19 (j_all2 30 j_dk_271_20 (j_all2 30 j_dk_271_21 (j_all2 30 j_dk_271_22 (j_all2 30 j_dk_271_23 (j_all2 30 j_dk_271_24 (j_all2 30 j_dk_271_25 (j_all2 30 j_dk_271_26 (j_all2 30 j_dk_271_27 (j_all2 30 j_dk_271_28 (j_all2 30 j_dk_271_29 (j_all2 30 j_dk_271_30 (j_all2 30 j_dk_271_31 (j_all2 30 j_dk_271_32 (j_all2 30 j_dk_271_33 (j_dk_271_34))))))))))))))))))))))))))))))))))
theorem j_dk_272 : k_272.all (fun r => j_dk cJ0_charAt_5068e r && j_ax 0 0 r) = true := by decide +kernel
theorem j_dk_274 : k_274.all (fun r => j_dk cJ0_coder_7d493 r && j_ax 0 0 r) = true := by decide +kernel
theorem j_dk_275 : k_275.all (fun r => j_dk cJ0_getBytes_840e7 r && j_ax 0 0 r) = true := by decide +kernel
theorem j_dk_277_0 : ((k_277).take 30).all (fun r => j_dk cJ0_init_db425 r && j_ax 0 2 r) = true := by decide +kernel
theorem j_dk_277_1 : ((k_277).drop 30).all (fun r => j_dk cJ0_init_db425 r && j_ax 0 2 r) = true := by decide +kernel
theorem j_dk_277 : k_277.all (fun r => j_dk cJ0_init_db425 r && j_ax 0 2 r) = true := j_all2 30 j_dk_277_0 (j_dk_277_1)
theorem j_dk_278 : k_278.all (fun r => j_dk cJ0_isLatin1_aae02 r && j_ax 0 0 r) = true := by decide +kernel
theorem j_dk_279 : k_279.all (fun r => j_dk cJ0_length_8abf5 r && j_ax 0 0 r) = true := by decide +kernel
theorem j_dk_280 : k_280.all (fun r => j_dk cJ1_canEncode_fc78d r && j_ax 18 1 r) = true := by decide +kernel
theorem j_dk_281 : k_281.all (fun r => j_dk cJ1_charAt_3b067 r && j_ax 18 1 r) = true := by decide +kernel
theorem j_dk_282 : k_282.all (fun r => j_dk cJ3_checkIndex_8e157 r && j_ax 20 1 r) = true := by decide +kernel
theorem j_dk_283 : k_283.all (fun r => j_dk cJ4_append_15ec4 r && j_ax 1 0 r) = true := by decide +kernel
theorem j_dk_284 : k_284.all (fun r => j_dk cJ4_append_bf812 r && j_ax 1 0 r) = true := by decide +kernel
theorem j_dk_285 : k_285.all (fun r => j_dk cJ4_append_cf468 r && j_ax 1 0 r) = true := by decide +kernel
theorem j_dk_286 : k_286.all (fun r => j_dk cJ4_init_da8c8 r && j_ax 1 2 r) = true := by decide +kernel
theorem j_dk_287 : k_287.all (fun r => j_dk cJ4_length_8abf5 r && j_ax 1 0 r) = true := by decide +kernel
theorem j_dk_288 : k_288.all (fun r => j_dk cJ4_toString_0e30d r && j_ax 1 0 r) = true := by decide +kernel
theorem j_dk_289_0 : ((k_289).take 30).all (fun r => j_dk cJ5_append_3fe6f r && j_ax 16 0 r) = true := by decide +kernel
theorem j_dk_289_1 : ((k_289).drop 30).all (fun r => j_dk cJ5_append_3fe6f r && j_ax 16 0 r) = true := by decide +kernel
theorem j_dk_289 : k_289.all (fun r => j_dk cJ5_append_3fe6f r && j_ax 16 0 r) = true := j_all2 30 j_dk_289_0 (j_dk_289_1)
theorem j_dk_290_0 : ((k_290).take 30).all (fun r => j_dk cJ5_append_c97b9 r && j_ax 16 0 r) = true := by decide +kernel
theorem j_dk_290_1 : ((k_290).drop 30).all (fun r => j_dk cJ5_append_c97b9 r && j_ax 16 0 r) = true := by decide +kernel
theorem j_dk_290 : k_290.all (fun r => j_dk cJ5_append_c97b9 r && j_ax 16 0 r) = true := j_all2 30 j_dk_290_0 (j_dk_290_1)
theorem j_dk_291 : k_291.all (fun r => j_dk cJ5_append_cf1ce r && j_ax 16 0 r) = true := by decide +kernel
theorem j_dk_292 : k_292.all (fun r => j_dk cJ5_ensureCapacityInternal_d00df r && j_ax 16 0 r) = true := by decide +kernel
theorem j_dk_293 : k_293.all (fun r => j_dk cJ5_getValue_6d5f1 r && j_ax 16 0 r) = true := by decide +kernel
theorem j_dk_294 : k_294.all (fun r => j_dk cJ5_inflateIfNeededFor_a7421 r && j_ax 16 0 r) = true := by decide +kernel
theorem j_dk_295 : k_295.all (fun r => j_dk cJ5_init_d00df r && j_ax 16 2 r) = true := by decide +kernel
theorem j_dk_296 : k_296.all (fun r => j_dk cJ5_isLatin1_aae02 r && j_ax 16 0 r) = true := by decide +kernel
theorem j_dk_297 : k_297.all (fun r => j_dk cJ5_length_8abf5 r && j_ax 16 0 r) = true := by decide +kernel
theorem j_dk_298_0 : ((k_298).take 30).all (fun r => j_dk cJ5_newCapacity_0f7a4 r && j_ax 16 0 r) = true := by decide +kernel
theorem j_dk_298_1 : ((k_298).drop 30).all (fun r => j_dk cJ5_newCapacity_0f7a4 r && j_ax 16 0 r) = true := by decide +kernel
theorem j_dk_298 : k_298.all (fun r => j_dk cJ5_newCapacity_0f7a4 r && j_ax 16 0 r) = true := j_all2 30 j_dk_298_0 (j_dk_298_1)
theorem j_dk_299 : k_299.all (fun r => j_dk cJ5_putStringAt_47b60 r && j_ax 16 0 r) = true := by decide +kernel
theorem j_dk_300_0 : ((k_300).take 30).all (fun r => j_dk cJ6_getChars_ba4f3 r && j_ax 17 1 r) = true := by decide +kernel
theorem j_dk_300_1 : (((k_300).drop 30).take 30).all (fun r => j_dk cJ6_getChars_ba4f3 r && j_ax 17 1 r) = true := by decide +kernel
theorem j_dk_300_2 : (((k_300).drop 30).drop 30).all (fun r => j_dk cJ6_getChars_ba4f3 r && j_ax 17 1 r) = true := by decide +kernel
theorem j_dk_300 : k_300.all (fun r => j_dk cJ6_getChars_ba4f3 r && j_ax 17 1 r) = true := j_all2 30 j_dk_300_0 (j_all2 30 j_dk_300_1 (j_dk_300_2))
theorem j_dk_301_0 : ((k_301).take 30).all (fun r => j_dk cJ6_stringSize_0f7a4 r && j_ax 17 1 r) = true := by decide +kernel
theorem j_dk_301_1 : ((k_301).drop 30).all (fun r => j_dk cJ6_stringSize_0f7a4 r && j_ax 17 1 r) = true := by decide +kernel
theorem j_dk_301 : k_301.all (fun r => j_dk cJ6_stringSize_0f7a4 r && j_ax 17 1 r) = true := j_all2 30 j_dk_301_0 (j_dk_301_1)
theorem j_dk_302 : k_302.all (fun r => j_dk cJ7_checkLength_df160 r && j_ax 15 1 r) = true := by decide +kernel
theorem j_dk_303 : k_303.all (fun r => j_dk cJ7_copyOfRangeByte_39247 r && j_ax 15 1 r) = true := by decide +kernel
theorem j_dk_304 : k_304.all (fun r => j_dk cJ7_copyOfRange_39247 r && j_ax 15 1 r) = true := by decide +kernel
theorem j_dk_305 : k_305.all (fun r => j_dk cJ7_copyOf_9075b r && j_ax 15 1 r) = true := by decide +kernel
theorem j_dk_306 : k_306.all (fun r => j_dk cJ8_newLength_cabcc r && j_ax 19 1 r) = true := by decide +kernel
theorem j_dk_307 : k_307.all (fun r => j_dk cJ9_max_7cf53 r && j_ax 14 1 r) = true := by decide +kernel
theorem j_dk_308_0 : ((k_308).take 30).all (fun r => j_dk cL_cell r && j_ax 13 1 r) = true := by decide +kernel
theorem j_dk_308_1 : ((k_308).drop 30).all (fun r => j_dk cL_cell r && j_ax 13 1 r) = true := by decide +kernel
theorem j_dk_308 : k_308.all (fun r => j_dk cL_cell r && j_ax 13 1 r) = true := j_all2 30 j_dk_308_0 (j_dk_308_1)
theorem j_dk_309 : k_309.all (fun r => j_dk cL_feeds r && j_ax 13 1 r) = true := by decide +kernel
/-- the two methods that are told otherwise (each hands on one thing more, that is nothing) -/
def j_spc (y : Nat) : Prop := y = 276 ∨ y = 273
/-- every instruction is decoded so, and its entries are what stands beside it -/
def j_good (y : Nat) : Prop := ∀ (q : j_M) (c : List (Nat × j_I)), j_meth[y]? = some q → j_code[y]? = some c → c.all (fun r => j_dk q.2.1 r && j_ax q.2.2.2.2.1 q.2.2.2.2.2.1 r) = true
theorem j_good_0 : j_good 0 := fun q c h1 h2 => by cases Option.some.inj ((rfl : j_meth[0]? = some _).symm.trans h1); cases Option.some.inj ((rfl : j_code[0]? = some _).symm.trans h2); exact j_dk_0
theorem j_good_1 : j_good 1 := fun q c h1 h2 => by cases Option.some.inj ((rfl : j_meth[1]? = some _).symm.trans h1); cases Option.some.inj ((rfl : j_code[1]? = some _).symm.trans h2); exact j_dk_1
theorem j_good_2 : j_good 2 := fun q c h1 h2 => by cases Option.some.inj ((rfl : j_meth[2]? = some _).symm.trans h1); cases Option.some.inj ((rfl : j_code[2]? = some _).symm.trans h2); exact j_dk_2
theorem j_good_3 : j_good 3 := fun q c h1 h2 => by cases Option.some.inj ((rfl : j_meth[3]? = some _).symm.trans h1); cases Option.some.inj ((rfl : j_code[3]? = some _).symm.trans h2); exact rfl
theorem j_good_4 : j_good 4 := fun q c h1 h2 => by cases Option.some.inj ((rfl : j_meth[4]? = some _).symm.trans h1); cases Option.some.inj ((rfl : j_code[4]? = some _).symm.trans h2); exact j_dk_4
theorem j_good_5 : j_good 5 := fun q c h1 h2 => by cases Option.some.inj ((rfl : j_meth[5]? = some _).symm.trans h1); cases Option.some.inj ((rfl : j_code[5]? = some _).symm.trans h2); exact j_dk_5
theorem j_good_6 : j_good 6 := fun q c h1 h2 => by cases Option.some.inj ((rfl : j_meth[6]? = some _).symm.trans h1); cases Option.some.inj ((rfl : j_code[6]? = some _).symm.trans h2); exact rfl
theorem j_good_7 : j_good 7 := fun q c h1 h2 => by cases Option.some.inj ((rfl : j_meth[7]? = some _).symm.trans h1); cases Option.some.inj ((rfl : j_code[7]? = some _).symm.trans h2); exact j_dk_7
theorem j_good_8 : j_good 8 := fun q c h1 h2 => by cases Option.some.inj ((rfl : j_meth[8]? = some _).symm.trans h1); cases Option.some.inj ((rfl : j_code[8]? = some _).symm.trans h2); exact j_dk_8
theorem j_good_9 : j_good 9 := fun q c h1 h2 => by cases Option.some.inj ((rfl : j_meth[9]? = some _).symm.trans h1); cases Option.some.inj ((rfl : j_code[9]? = some _).symm.trans h2); exact j_dk_9
theorem j_good_10 : j_good 10 := fun q c h1 h2 => by cases Option.some.inj ((rfl : j_meth[10]? = some _).symm.trans h1); cases Option.some.inj ((rfl : j_code[10]? = some _).symm.trans h2); exact j_dk_10
theorem j_good_11 : j_good 11 := fun q c h1 h2 => by cases Option.some.inj ((rfl : j_meth[11]? = some _).symm.trans h1); cases Option.some.inj ((rfl : j_code[11]? = some _).symm.trans h2); exact j_dk_11
theorem j_good_12 : j_good 12 := fun q c h1 h2 => by cases Option.some.inj ((rfl : j_meth[12]? = some _).symm.trans h1); cases Option.some.inj ((rfl : j_code[12]? = some _).symm.trans h2); exact j_dk_12
theorem j_good_13 : j_good 13 := fun q c h1 h2 => by cases Option.some.inj ((rfl : j_meth[13]? = some _).symm.trans h1); cases Option.some.inj ((rfl : j_code[13]? = some _).symm.trans h2); exact j_dk_13
theorem j_good_14 : j_good 14 := fun q c h1 h2 => by cases Option.some.inj ((rfl : j_meth[14]? = some _).symm.trans h1); cases Option.some.inj ((rfl : j_code[14]? = some _).symm.trans h2); exact j_dk_14
theorem j_good_15 : j_good 15 := fun q c h1 h2 => by cases Option.some.inj ((rfl : j_meth[15]? = some _).symm.trans h1); cases Option.some.inj ((rfl : j_code[15]? = some _).symm.trans h2); exact rfl
theorem j_good_16 : j_good 16 := fun q c h1 h2 => by cases Option.some.inj ((rfl : j_meth[16]? = some _).symm.trans h1); cases Option.some.inj ((rfl : j_code[16]? = some _).symm.trans h2); exact j_dk_16
theorem j_good_17 : j_good 17 := fun q c h1 h2 => by cases Option.some.inj ((rfl : j_meth[17]? = some _).symm.trans h1); cases Option.some.inj ((rfl : j_code[17]? = some _).symm.trans h2); exact j_dk_17
theorem j_good_18 : j_good 18 := fun q c h1 h2 => by cases Option.some.inj ((rfl : j_meth[18]? = some _).symm.trans h1); cases Option.some.inj ((rfl : j_code[18]? = some _).symm.trans h2); exact j_dk_18
theorem j_good_19 : j_good 19 := fun q c h1 h2 => by cases Option.some.inj ((rfl : j_meth[19]? = some _).symm.trans h1); cases Option.some.inj ((rfl : j_code[19]? = some _).symm.trans h2); exact j_dk_19
theorem j_good_20 : j_good 20 := fun q c h1 h2 => by cases Option.some.inj ((rfl : j_meth[20]? = some _).symm.trans h1); cases Option.some.inj ((rfl : j_code[20]? = some _).symm.trans h2); exact j_dk_20
theorem j_good_21 : j_good 21 := fun q c h1 h2 => by cases Option.some.inj ((rfl : j_meth[21]? = some _).symm.trans h1); cases Option.some.inj ((rfl : j_code[21]? = some _).symm.trans h2); exact j_dk_21
theorem j_good_22 : j_good 22 := fun q c h1 h2 => by cases Option.some.inj ((rfl : j_meth[22]? = some _).symm.trans h1); cases Option.some.inj ((rfl : j_code[22]? = some _).symm.trans h2); exact j_dk_22
theorem j_good_23 : j_good 23 := fun q c h1 h2 => by cases Option.some.inj ((rfl : j_meth[23]? = some _).symm.trans h1); cases Option.some.inj ((rfl : j_code[23]? = some _).symm.trans h2); exact j_dk_23
theorem j_good_24 : j_good 24 := fun q c h1 h2 => by cases Option.some.inj ((rfl : j_meth[24]? = some _).symm.trans h1); cases Option.some.inj ((rfl : j_code[24]? = some _).symm.trans h2); exact j_dk_24
theorem j_good_25 : j_good 25 := fun q c h1 h2 => by cases Option.some.inj ((rfl : j_meth[25]? = some _).symm.trans h1); cases Option.some.inj ((rfl : j_code[25]? = some _).symm.trans h2); exact j_dk_25
theorem j_good_26 : j_good 26 := fun q c h1 h2 => by cases Option.some.inj ((rfl : j_meth[26]? = some _).symm.trans h1); cases Option.some.inj ((rfl : j_code[26]? = some _).symm.trans h2); exact rfl
theorem j_good_27 : j_good 27 := fun q c h1 h2 => by cases Option.some.inj ((rfl : j_meth[27]? = some _).symm.trans h1); cases Option.some.inj ((rfl : j_code[27]? = some _).symm.trans h2); exact j_dk_27
theorem j_good_28 : j_good 28 := fun q c h1 h2 => by cases Option.some.inj ((rfl : j_meth[28]? = some _).symm.trans h1); cases Option.some.inj ((rfl : j_code[28]? = some _).symm.trans h2); exact j_dk_28
theorem j_good_29 : j_good 29 := fun q c h1 h2 => by cases Option.some.inj ((rfl : j_meth[29]? = some _).symm.trans h1); cases Option.some.inj ((rfl : j_code[29]? = some _).symm.trans h2); exact j_dk_29
theorem j_good_30 : j_good 30 := fun q c h1 h2 => by cases Option.some.inj ((rfl : j_meth[30]? = some _).symm.trans h1); cases Option.some.inj ((rfl : j_code[30]? = some _).symm.trans h2); exact j_dk_30
theorem j_good_31 : j_good 31 := fun q c h1 h2 => by cases Option.some.inj ((rfl : j_meth[31]? = some _).symm.trans h1); cases Option.some.inj ((rfl : j_code[31]? = some _).symm.trans h2); exact j_dk_31
theorem j_good_32 : j_good 32 := fun q c h1 h2 => by cases Option.some.inj ((rfl : j_meth[32]? = some _).symm.trans h1); cases Option.some.inj ((rfl : j_code[32]? = some _).symm.trans h2); exact j_dk_32
theorem j_good_33 : j_good 33 := fun q c h1 h2 => by cases Option.some.inj ((rfl : j_meth[33]? = some _).symm.trans h1); cases Option.some.inj ((rfl : j_code[33]? = some _).symm.trans h2); exact j_dk_33
theorem j_good_34 : j_good 34 := fun q c h1 h2 => by cases Option.some.inj ((rfl : j_meth[34]? = some _).symm.trans h1); cases Option.some.inj ((rfl : j_code[34]? = some _).symm.trans h2); exact j_dk_34
theorem j_good_35 : j_good 35 := fun q c h1 h2 => by cases Option.some.inj ((rfl : j_meth[35]? = some _).symm.trans h1); cases Option.some.inj ((rfl : j_code[35]? = some _).symm.trans h2); exact j_dk_35
theorem j_good_36 : j_good 36 := fun q c h1 h2 => by cases Option.some.inj ((rfl : j_meth[36]? = some _).symm.trans h1); cases Option.some.inj ((rfl : j_code[36]? = some _).symm.trans h2); exact rfl
theorem j_good_37 : j_good 37 := fun q c h1 h2 => by cases Option.some.inj ((rfl : j_meth[37]? = some _).symm.trans h1); cases Option.some.inj ((rfl : j_code[37]? = some _).symm.trans h2); exact j_dk_37
theorem j_good_38 : j_good 38 := fun q c h1 h2 => by cases Option.some.inj ((rfl : j_meth[38]? = some _).symm.trans h1); cases Option.some.inj ((rfl : j_code[38]? = some _).symm.trans h2); exact j_dk_38
theorem j_good_39 : j_good 39 := fun q c h1 h2 => by cases Option.some.inj ((rfl : j_meth[39]? = some _).symm.trans h1); cases Option.some.inj ((rfl : j_code[39]? = some _).symm.trans h2); exact j_dk_39
theorem j_good_40 : j_good 40 := fun q c h1 h2 => by cases Option.some.inj ((rfl : j_meth[40]? = some _).symm.trans h1); cases Option.some.inj ((rfl : j_code[40]? = some _).symm.trans h2); exact rfl
theorem j_good_41 : j_good 41 := fun q c h1 h2 => by cases Option.some.inj ((rfl : j_meth[41]? = some _).symm.trans h1); cases Option.some.inj ((rfl : j_code[41]? = some _).symm.trans h2); exact rfl
theorem j_good_42 : j_good 42 := fun q c h1 h2 => by cases Option.some.inj ((rfl : j_meth[42]? = some _).symm.trans h1); cases Option.some.inj ((rfl : j_code[42]? = some _).symm.trans h2); exact j_dk_42
theorem j_good_43 : j_good 43 := fun q c h1 h2 => by cases Option.some.inj ((rfl : j_meth[43]? = some _).symm.trans h1); cases Option.some.inj ((rfl : j_code[43]? = some _).symm.trans h2); exact j_dk_43
theorem j_good_44 : j_good 44 := fun q c h1 h2 => by cases Option.some.inj ((rfl : j_meth[44]? = some _).symm.trans h1); cases Option.some.inj ((rfl : j_code[44]? = some _).symm.trans h2); exact j_dk_44
theorem j_good_45 : j_good 45 := fun q c h1 h2 => by cases Option.some.inj ((rfl : j_meth[45]? = some _).symm.trans h1); cases Option.some.inj ((rfl : j_code[45]? = some _).symm.trans h2); exact j_dk_45
theorem j_good_46 : j_good 46 := fun q c h1 h2 => by cases Option.some.inj ((rfl : j_meth[46]? = some _).symm.trans h1); cases Option.some.inj ((rfl : j_code[46]? = some _).symm.trans h2); exact j_dk_46
theorem j_good_47 : j_good 47 := fun q c h1 h2 => by cases Option.some.inj ((rfl : j_meth[47]? = some _).symm.trans h1); cases Option.some.inj ((rfl : j_code[47]? = some _).symm.trans h2); exact j_dk_47
theorem j_good_48 : j_good 48 := fun q c h1 h2 => by cases Option.some.inj ((rfl : j_meth[48]? = some _).symm.trans h1); cases Option.some.inj ((rfl : j_code[48]? = some _).symm.trans h2); exact j_dk_48
theorem j_good_49 : j_good 49 := fun q c h1 h2 => by cases Option.some.inj ((rfl : j_meth[49]? = some _).symm.trans h1); cases Option.some.inj ((rfl : j_code[49]? = some _).symm.trans h2); exact j_dk_49
theorem j_good_50 : j_good 50 := fun q c h1 h2 => by cases Option.some.inj ((rfl : j_meth[50]? = some _).symm.trans h1); cases Option.some.inj ((rfl : j_code[50]? = some _).symm.trans h2); exact j_dk_50
theorem j_good_51 : j_good 51 := fun q c h1 h2 => by cases Option.some.inj ((rfl : j_meth[51]? = some _).symm.trans h1); cases Option.some.inj ((rfl : j_code[51]? = some _).symm.trans h2); exact j_dk_51
theorem j_good_52 : j_good 52 := fun q c h1 h2 => by cases Option.some.inj ((rfl : j_meth[52]? = some _).symm.trans h1); cases Option.some.inj ((rfl : j_code[52]? = some _).symm.trans h2); exact j_dk_52
theorem j_good_53 : j_good 53 := fun q c h1 h2 => by cases Option.some.inj ((rfl : j_meth[53]? = some _).symm.trans h1); cases Option.some.inj ((rfl : j_code[53]? = some _).symm.trans h2); exact j_dk_53
theorem j_good_54 : j_good 54 := fun q c h1 h2 => by cases Option.some.inj ((rfl : j_meth[54]? = some _).symm.trans h1); cases Option.some.inj ((rfl : j_code[54]? = some _).symm.trans h2); exact j_dk_54
theorem j_good_55 : j_good 55 := fun q c h1 h2 => by cases Option.some.inj ((rfl : j_meth[55]? = some _).symm.trans h1); cases Option.some.inj ((rfl : j_code[55]? = some _).symm.trans h2); exact rfl
theorem j_good_56 : j_good 56 := fun q c h1 h2 => by cases Option.some.inj ((rfl : j_meth[56]? = some _).symm.trans h1); cases Option.some.inj ((rfl : j_code[56]? = some _).symm.trans h2); exact j_dk_56
theorem j_good_57 : j_good 57 := fun q c h1 h2 => by cases Option.some.inj ((rfl : j_meth[57]? = some _).symm.trans h1); cases Option.some.inj ((rfl : j_code[57]? = some _).symm.trans h2); exact rfl
theorem j_good_58 : j_good 58 := fun q c h1 h2 => by cases Option.some.inj ((rfl : j_meth[58]? = some _).symm.trans h1); cases Option.some.inj ((rfl : j_code[58]? = some _).symm.trans h2); exact rfl
theorem j_good_59 : j_good 59 := fun q c h1 h2 => by cases Option.some.inj ((rfl : j_meth[59]? = some _).symm.trans h1); cases Option.some.inj ((rfl : j_code[59]? = some _).symm.trans h2); exact rfl
theorem j_good_60 : j_good 60 := fun q c h1 h2 => by cases Option.some.inj ((rfl : j_meth[60]? = some _).symm.trans h1); cases Option.some.inj ((rfl : j_code[60]? = some _).symm.trans h2); exact j_dk_60
theorem j_good_61 : j_good 61 := fun q c h1 h2 => by cases Option.some.inj ((rfl : j_meth[61]? = some _).symm.trans h1); cases Option.some.inj ((rfl : j_code[61]? = some _).symm.trans h2); exact j_dk_61
theorem j_good_62 : j_good 62 := fun q c h1 h2 => by cases Option.some.inj ((rfl : j_meth[62]? = some _).symm.trans h1); cases Option.some.inj ((rfl : j_code[62]? = some _).symm.trans h2); exact j_dk_62
theorem j_good_63 : j_good 63 := fun q c h1 h2 => by cases Option.some.inj ((rfl : j_meth[63]? = some _).symm.trans h1); cases Option.some.inj ((rfl : j_code[63]? = some _).symm.trans h2); exact rfl
theorem j_good_64 : j_good 64 := fun q c h1 h2 => by cases Option.some.inj ((rfl : j_meth[64]? = some _).symm.trans h1); cases Option.some.inj ((rfl : j_code[64]? = some _).symm.trans h2); exact j_dk_64
theorem j_good_65 : j_good 65 := fun q c h1 h2 => by cases Option.some.inj ((rfl : j_meth[65]? = some _).symm.trans h1); cases Option.some.inj ((rfl : j_code[65]? = some _).symm.trans h2); exact j_dk_65
theorem j_good_66 : j_good 66 := fun q c h1 h2 => by cases Option.some.inj ((rfl : j_meth[66]? = some _).symm.trans h1); cases Option.some.inj ((rfl : j_code[66]? = some _).symm.trans h2); exact j_dk_66
theorem j_good_67 : j_good 67 := fun q c h1 h2 => by cases Option.some.inj ((rfl : j_meth[67]? = some _).symm.trans h1); cases Option.some.inj ((rfl : j_code[67]? = some _).symm.trans h2); exact j_dk_67
theorem j_good_68 : j_good 68 := fun q c h1 h2 => by cases Option.some.inj ((rfl : j_meth[68]? = some _).symm.trans h1); cases Option.some.inj ((rfl : j_code[68]? = some _).symm.trans h2); exact j_dk_68
theorem j_good_69 : j_good 69 := fun q c h1 h2 => by cases Option.some.inj ((rfl : j_meth[69]? = some _).symm.trans h1); cases Option.some.inj ((rfl : j_code[69]? = some _).symm.trans h2); exact j_dk_69
theorem j_good_70 : j_good 70 := fun q c h1 h2 => by cases Option.some.inj ((rfl : j_meth[70]? = some _).symm.trans h1); cases Option.some.inj ((rfl : j_code[70]? = some _).symm.trans h2); exact j_dk_70
theorem j_good_71 : j_good 71 := fun q c h1 h2 => by cases Option.some.inj ((rfl : j_meth[71]? = some _).symm.trans h1); cases Option.some.inj ((rfl : j_code[71]? = some _).symm.trans h2); exact j_dk_71
theorem j_good_72 : j_good 72 := fun q c h1 h2 => by cases Option.some.inj ((rfl : j_meth[72]? = some _).symm.trans h1); cases Option.some.inj ((rfl : j_code[72]? = some _).symm.trans h2); exact j_dk_72
theorem j_good_73 : j_good 73 := fun q c h1 h2 => by cases Option.some.inj ((rfl : j_meth[73]? = some _).symm.trans h1); cases Option.some.inj ((rfl : j_code[73]? = some _).symm.trans h2); exact j_dk_73
theorem j_good_74 : j_good 74 := fun q c h1 h2 => by cases Option.some.inj ((rfl : j_meth[74]? = some _).symm.trans h1); cases Option.some.inj ((rfl : j_code[74]? = some _).symm.trans h2); exact rfl
theorem j_good_75 : j_good 75 := fun q c h1 h2 => by cases Option.some.inj ((rfl : j_meth[75]? = some _).symm.trans h1); cases Option.some.inj ((rfl : j_code[75]? = some _).symm.trans h2); exact rfl
theorem j_good_76 : j_good 76 := fun q c h1 h2 => by cases Option.some.inj ((rfl : j_meth[76]? = some _).symm.trans h1); cases Option.some.inj ((rfl : j_code[76]? = some _).symm.trans h2); exact rfl
theorem j_good_77 : j_good 77 := fun q c h1 h2 => by cases Option.some.inj ((rfl : j_meth[77]? = some _).symm.trans h1); cases Option.some.inj ((rfl : j_code[77]? = some _).symm.trans h2); exact rfl
theorem j_good_78 : j_good 78 := fun q c h1 h2 => by cases Option.some.inj ((rfl : j_meth[78]? = some _).symm.trans h1); cases Option.some.inj ((rfl : j_code[78]? = some _).symm.trans h2); exact rfl
theorem j_good_79 : j_good 79 := fun q c h1 h2 => by cases Option.some.inj ((rfl : j_meth[79]? = some _).symm.trans h1); cases Option.some.inj ((rfl : j_code[79]? = some _).symm.trans h2); exact rfl
theorem j_good_80 : j_good 80 := fun q c h1 h2 => by cases Option.some.inj ((rfl : j_meth[80]? = some _).symm.trans h1); cases Option.some.inj ((rfl : j_code[80]? = some _).symm.trans h2); exact j_dk_80
theorem j_good_81 : j_good 81 := fun q c h1 h2 => by cases Option.some.inj ((rfl : j_meth[81]? = some _).symm.trans h1); cases Option.some.inj ((rfl : j_code[81]? = some _).symm.trans h2); exact rfl
theorem j_good_82 : j_good 82 := fun q c h1 h2 => by cases Option.some.inj ((rfl : j_meth[82]? = some _).symm.trans h1); cases Option.some.inj ((rfl : j_code[82]? = some _).symm.trans h2); exact rfl
theorem j_good_83 : j_good 83 := fun q c h1 h2 => by cases Option.some.inj ((rfl : j_meth[83]? = some _).symm.trans h1); cases Option.some.inj ((rfl : j_code[83]? = some _).symm.trans h2); exact rfl
theorem j_good_84 : j_good 84 := fun q c h1 h2 => by cases Option.some.inj ((rfl : j_meth[84]? = some _).symm.trans h1); cases Option.some.inj ((rfl : j_code[84]? = some _).symm.trans h2); exact rfl
theorem j_good_85 : j_good 85 := fun q c h1 h2 => by cases Option.some.inj ((rfl : j_meth[85]? = some _).symm.trans h1); cases Option.some.inj ((rfl : j_code[85]? = some _).symm.trans h2); exact rfl
theorem j_good_86 : j_good 86 := fun q c h1 h2 => by cases Option.some.inj ((rfl : j_meth[86]? = some _).symm.trans h1); cases Option.some.inj ((rfl : j_code[86]? = some _).symm.trans h2); exact rfl
theorem j_good_87 : j_good 87 := fun q c h1 h2 => by cases Option.some.inj ((rfl : j_meth[87]? = some _).symm.trans h1); cases Option.some.inj ((rfl : j_code[87]? = some _).symm.trans h2); exact j_dk_87
theorem j_good_88 : j_good 88 := fun q c h1 h2 => by cases Option.some.inj ((rfl : j_meth[88]? = some _).symm.trans h1); cases Option.some.inj ((rfl : j_code[88]? = some _).symm.trans h2); exact j_dk_88
theorem j_good_89 : j_good 89 := fun q c h1 h2 => by cases Option.some.inj ((rfl : j_meth[89]? = some _).symm.trans h1); cases Option.some.inj ((rfl : j_code[89]? = some _).symm.trans h2); exact j_dk_89
theorem j_good_90 : j_good 90 := fun q c h1 h2 => by cases Option.some.inj ((rfl : j_meth[90]? = some _).symm.trans h1); cases Option.some.inj ((rfl : j_code[90]? = some _).symm.trans h2); exact rfl
theorem j_good_91 : j_good 91 := fun q c h1 h2 => by cases Option.some.inj ((rfl : j_meth[91]? = some _).symm.trans h1); cases Option.some.inj ((rfl : j_code[91]? = some _).symm.trans h2); exact j_dk_91
theorem j_good_92 : j_good 92 := fun q c h1 h2 => by cases Option.some.inj ((rfl : j_meth[92]? = some _).symm.trans h1); cases Option.some.inj ((rfl : j_code[92]? = some _).symm.trans h2); exact j_dk_92
theorem j_good_93 : j_good 93 := fun q c h1 h2 => by cases Option.some.inj ((rfl : j_meth[93]? = some _).symm.trans h1); cases Option.some.inj ((rfl : j_code[93]? = some _).symm.trans h2); exact j_dk_93
theorem j_good_94 : j_good 94 := fun q c h1 h2 => by cases Option.some.inj ((rfl : j_meth[94]? = some _).symm.trans h1); cases Option.some.inj ((rfl : j_code[94]? = some _).symm.trans h2); exact j_dk_94
theorem j_good_95 : j_good 95 := fun q c h1 h2 => by cases Option.some.inj ((rfl : j_meth[95]? = some _).symm.trans h1); cases Option.some.inj ((rfl : j_code[95]? = some _).symm.trans h2); exact j_dk_95
theorem j_good_96 : j_good 96 := fun q c h1 h2 => by cases Option.some.inj ((rfl : j_meth[96]? = some _).symm.trans h1); cases Option.some.inj ((rfl : j_code[96]? = some _).symm.trans h2); exact j_dk_96
theorem j_good_97 : j_good 97 := fun q c h1 h2 => by cases Option.some.inj ((rfl : j_meth[97]? = some _).symm.trans h1); cases Option.some.inj ((rfl : j_code[97]? = some _).symm.trans h2); exact j_dk_97
theorem j_good_98 : j_good 98 := fun q c h1 h2 => by cases Option.some.inj ((rfl : j_meth[98]? = some _).symm.trans h1); cases Option.some.inj ((rfl : j_code[98]? = some _).symm.trans h2); exact rfl
theorem j_good_99 : j_good 99 := fun q c h1 h2 => by cases Option.some.inj ((rfl : j_meth[99]? = some _).symm.trans h1); cases Option.some.inj ((rfl : j_code[99]? = some _).symm.trans h2); exact j_dk_99
theorem j_good_100 : j_good 100 := fun q c h1 h2 => by cases Option.some.inj ((rfl : j_meth[100]? = some _).symm.trans h1); cases Option.some.inj ((rfl : j_code[100]? = some _).symm.trans h2); exact rfl
theorem j_good_101 : j_good 101 := fun q c h1 h2 => by cases Option.some.inj ((rfl : j_meth[101]? = some _).symm.trans h1); cases Option.some.inj ((rfl : j_code[101]? = some _).symm.trans h2); exact rfl
theorem j_good_102 : j_good 102 := fun q c h1 h2 => by cases Option.some.inj ((rfl : j_meth[102]? = some _).symm.trans h1); cases Option.some.inj ((rfl : j_code[102]? = some _).symm.trans h2); exact rfl
theorem j_good_103 : j_good 103 := fun q c h1 h2 => by cases Option.some.inj ((rfl : j_meth[103]? = some _).symm.trans h1); cases Option.some.inj ((rfl : j_code[103]? = some _).symm.trans h2); exact rfl
theorem j_good_104 : j_good 104 := fun q c h1 h2 => by cases Option.some.inj ((rfl : j_meth[104]? = some _).symm.trans h1); cases Option.some.inj ((rfl : j_code[104]? = some _).symm.trans h2); exact rfl
theorem j_good_105 : j_good 105 := fun q c h1 h2 => by cases Option.some.inj ((rfl : j_meth[105]? = some _).symm.trans h1); cases Option.some.inj ((rfl : j_code[105]? = some _).symm.trans h2); exact rfl
theorem j_good_106 : j_good 106 := fun q c h1 h2 => by cases Option.some.inj ((rfl : j_meth[106]? = some _).symm.trans h1); cases Option.some.inj ((rfl : j_code[106]? = some _).symm.trans h2); exact rfl
theorem j_good_107 : j_good 107 := fun q c h1 h2 => by cases Option.some.inj ((rfl : j_meth[107]? = some _).symm.trans h1); cases Option.some.inj ((rfl : j_code[107]? = some _).symm.trans h2); exact rfl
theorem j_good_108 : j_good 108 := fun q c h1 h2 => by cases Option.some.inj ((rfl : j_meth[108]? = some _).symm.trans h1); cases Option.some.inj ((rfl : j_code[108]? = some _).symm.trans h2); exact rfl
theorem j_good_109 : j_good 109 := fun q c h1 h2 => by cases Option.some.inj ((rfl : j_meth[109]? = some _).symm.trans h1); cases Option.some.inj ((rfl : j_code[109]? = some _).symm.trans h2); exact rfl
theorem j_good_110 : j_good 110 := fun q c h1 h2 => by cases Option.some.inj ((rfl : j_meth[110]? = some _).symm.trans h1); cases Option.some.inj ((rfl : j_code[110]? = some _).symm.trans h2); exact rfl
theorem j_good_111 : j_good 111 := fun q c h1 h2 => by cases Option.some.inj ((rfl : j_meth[111]? = some _).symm.trans h1); cases Option.some.inj ((rfl : j_code[111]? = some _).symm.trans h2); exact rfl
theorem j_good_112 : j_good 112 := fun q c h1 h2 => by cases Option.some.inj ((rfl : j_meth[112]? = some _).symm.trans h1); cases Option.some.inj ((rfl : j_code[112]? = some _).symm.trans h2); exact rfl
theorem j_good_113 : j_good 113 := fun q c h1 h2 => by cases Option.some.inj ((rfl : j_meth[113]? = some _).symm.trans h1); cases Option.some.inj ((rfl : j_code[113]? = some _).symm.trans h2); exact rfl
theorem j_good_114 : j_good 114 := fun q c h1 h2 => by cases Option.some.inj ((rfl : j_meth[114]? = some _).symm.trans h1); cases Option.some.inj ((rfl : j_code[114]? = some _).symm.trans h2); exact rfl
theorem j_good_115 : j_good 115 := fun q c h1 h2 => by cases Option.some.inj ((rfl : j_meth[115]? = some _).symm.trans h1); cases Option.some.inj ((rfl : j_code[115]? = some _).symm.trans h2); exact j_dk_115
theorem j_good_116 : j_good 116 := fun q c h1 h2 => by cases Option.some.inj ((rfl : j_meth[116]? = some _).symm.trans h1); cases Option.some.inj ((rfl : j_code[116]? = some _).symm.trans h2); exact j_dk_116
theorem j_good_117 : j_good 117 := fun q c h1 h2 => by cases Option.some.inj ((rfl : j_meth[117]? = some _).symm.trans h1); cases Option.some.inj ((rfl : j_code[117]? = some _).symm.trans h2); exact j_dk_117
theorem j_good_118 : j_good 118 := fun q c h1 h2 => by cases Option.some.inj ((rfl : j_meth[118]? = some _).symm.trans h1); cases Option.some.inj ((rfl : j_code[118]? = some _).symm.trans h2); exact rfl
theorem j_good_119 : j_good 119 := fun q c h1 h2 => by cases Option.some.inj ((rfl : j_meth[119]? = some _).symm.trans h1); cases Option.some.inj ((rfl : j_code[119]? = some _).symm.trans h2); exact j_dk_119
theorem j_good_120 : j_good 120 := fun q c h1 h2 => by cases Option.some.inj ((rfl : j_meth[120]? = some _).symm.trans h1); cases Option.some.inj ((rfl : j_code[120]? = some _).symm.trans h2); exact j_dk_120
theorem j_good_121 : j_good 121 := fun q c h1 h2 => by cases Option.some.inj ((rfl : j_meth[121]? = some _).symm.trans h1); cases Option.some.inj ((rfl : j_code[121]? = some _).symm.trans h2); exact j_dk_121
theorem j_good_122 : j_good 122 := fun q c h1 h2 => by cases Option.some.inj ((rfl : j_meth[122]? = some _).symm.trans h1); cases Option.some.inj ((rfl : j_code[122]? = some _).symm.trans h2); exact j_dk_122
theorem j_good_123 : j_good 123 := fun q c h1 h2 => by cases Option.some.inj ((rfl : j_meth[123]? = some _).symm.trans h1); cases Option.some.inj ((rfl : j_code[123]? = some _).symm.trans h2); exact j_dk_123
theorem j_good_124 : j_good 124 := fun q c h1 h2 => by cases Option.some.inj ((rfl : j_meth[124]? = some _).symm.trans h1); cases Option.some.inj ((rfl : j_code[124]? = some _).symm.trans h2); exact j_dk_124
theorem j_good_125 : j_good 125 := fun q c h1 h2 => by cases Option.some.inj ((rfl : j_meth[125]? = some _).symm.trans h1); cases Option.some.inj ((rfl : j_code[125]? = some _).symm.trans h2); exact j_dk_125
theorem j_good_126 : j_good 126 := fun q c h1 h2 => by cases Option.some.inj ((rfl : j_meth[126]? = some _).symm.trans h1); cases Option.some.inj ((rfl : j_code[126]? = some _).symm.trans h2); exact j_dk_126
theorem j_good_127 : j_good 127 := fun q c h1 h2 => by cases Option.some.inj ((rfl : j_meth[127]? = some _).symm.trans h1); cases Option.some.inj ((rfl : j_code[127]? = some _).symm.trans h2); exact rfl
theorem j_good_128 : j_good 128 := fun q c h1 h2 => by cases Option.some.inj ((rfl : j_meth[128]? = some _).symm.trans h1); cases Option.some.inj ((rfl : j_code[128]? = some _).symm.trans h2); exact j_dk_128
theorem j_good_129 : j_good 129 := fun q c h1 h2 => by cases Option.some.inj ((rfl : j_meth[129]? = some _).symm.trans h1); cases Option.some.inj ((rfl : j_code[129]? = some _).symm.trans h2); exact j_dk_129
theorem j_good_130 : j_good 130 := fun q c h1 h2 => by cases Option.some.inj ((rfl : j_meth[130]? = some _).symm.trans h1); cases Option.some.inj ((rfl : j_code[130]? = some _).symm.trans h2); exact j_dk_130
theorem j_good_131 : j_good 131 := fun q c h1 h2 => by cases Option.some.inj ((rfl : j_meth[131]? = some _).symm.trans h1); cases Option.some.inj ((rfl : j_code[131]? = some _).symm.trans h2); exact j_dk_131
theorem j_good_132 : j_good 132 := fun q c h1 h2 => by cases Option.some.inj ((rfl : j_meth[132]? = some _).symm.trans h1); cases Option.some.inj ((rfl : j_code[132]? = some _).symm.trans h2); exact j_dk_132
theorem j_good_133 : j_good 133 := fun q c h1 h2 => by cases Option.some.inj ((rfl : j_meth[133]? = some _).symm.trans h1); cases Option.some.inj ((rfl : j_code[133]? = some _).symm.trans h2); exact rfl
theorem j_good_134 : j_good 134 := fun q c h1 h2 => by cases Option.some.inj ((rfl : j_meth[134]? = some _).symm.trans h1); cases Option.some.inj ((rfl : j_code[134]? = some _).symm.trans h2); exact rfl
theorem j_good_135 : j_good 135 := fun q c h1 h2 => by cases Option.some.inj ((rfl : j_meth[135]? = some _).symm.trans h1); cases Option.some.inj ((rfl : j_code[135]? = some _).symm.trans h2); exact j_dk_135
theorem j_good_136 : j_good 136 := fun q c h1 h2 => by cases Option.some.inj ((rfl : j_meth[136]? = some _).symm.trans h1); cases Option.some.inj ((rfl : j_code[136]? = some _).symm.trans h2); exact j_dk_136
theorem j_good_137 : j_good 137 := fun q c h1 h2 => by cases Option.some.inj ((rfl : j_meth[137]? = some _).symm.trans h1); cases Option.some.inj ((rfl : j_code[137]? = some _).symm.trans h2); exact rfl
theorem j_good_138 : j_good 138 := fun q c h1 h2 => by cases Option.some.inj ((rfl : j_meth[138]? = some _).symm.trans h1); cases Option.some.inj ((rfl : j_code[138]? = some _).symm.trans h2); exact j_dk_138
theorem j_good_139 : j_good 139 := fun q c h1 h2 => by cases Option.some.inj ((rfl : j_meth[139]? = some _).symm.trans h1); cases Option.some.inj ((rfl : j_code[139]? = some _).symm.trans h2); exact j_dk_139
theorem j_good_140 : j_good 140 := fun q c h1 h2 => by cases Option.some.inj ((rfl : j_meth[140]? = some _).symm.trans h1); cases Option.some.inj ((rfl : j_code[140]? = some _).symm.trans h2); exact j_dk_140
theorem j_good_141 : j_good 141 := fun q c h1 h2 => by cases Option.some.inj ((rfl : j_meth[141]? = some _).symm.trans h1); cases Option.some.inj ((rfl : j_code[141]? = some _).symm.trans h2); exact j_dk_141
theorem j_good_142 : j_good 142 := fun q c h1 h2 => by cases Option.some.inj ((rfl : j_meth[142]? = some _).symm.trans h1); cases Option.some.inj ((rfl : j_code[142]? = some _).symm.trans h2); exact j_dk_142
theorem j_good_143 : j_good 143 := fun q c h1 h2 => by cases Option.some.inj ((rfl : j_meth[143]? = some _).symm.trans h1); cases Option.some.inj ((rfl : j_code[143]? = some _).symm.trans h2); exact j_dk_143
theorem j_good_144 : j_good 144 := fun q c h1 h2 => by cases Option.some.inj ((rfl : j_meth[144]? = some _).symm.trans h1); cases Option.some.inj ((rfl : j_code[144]? = some _).symm.trans h2); exact j_dk_144
theorem j_good_145 : j_good 145 := fun q c h1 h2 => by cases Option.some.inj ((rfl : j_meth[145]? = some _).symm.trans h1); cases Option.some.inj ((rfl : j_code[145]? = some _).symm.trans h2); exact j_dk_145
theorem j_good_146 : j_good 146 := fun q c h1 h2 => by cases Option.some.inj ((rfl : j_meth[146]? = some _).symm.trans h1); cases Option.some.inj ((rfl : j_code[146]? = some _).symm.trans h2); exact j_dk_146
theorem j_good_147 : j_good 147 := fun q c h1 h2 => by cases Option.some.inj ((rfl : j_meth[147]? = some _).symm.trans h1); cases Option.some.inj ((rfl : j_code[147]? = some _).symm.trans h2); exact rfl
theorem j_good_148 : j_good 148 := fun q c h1 h2 => by cases Option.some.inj ((rfl : j_meth[148]? = some _).symm.trans h1); cases Option.some.inj ((rfl : j_code[148]? = some _).symm.trans h2); exact rfl
theorem j_good_149 : j_good 149 := fun q c h1 h2 => by cases Option.some.inj ((rfl : j_meth[149]? = some _).symm.trans h1); cases Option.some.inj ((rfl : j_code[149]? = some _).symm.trans h2); exact rfl
theorem j_good_150 : j_good 150 := fun q c h1 h2 => by cases Option.some.inj ((rfl : j_meth[150]? = some _).symm.trans h1); cases Option.some.inj ((rfl : j_code[150]? = some _).symm.trans h2); exact rfl
theorem j_good_151 : j_good 151 := fun q c h1 h2 => by cases Option.some.inj ((rfl : j_meth[151]? = some _).symm.trans h1); cases Option.some.inj ((rfl : j_code[151]? = some _).symm.trans h2); exact rfl
theorem j_good_152 : j_good 152 := fun q c h1 h2 => by cases Option.some.inj ((rfl : j_meth[152]? = some _).symm.trans h1); cases Option.some.inj ((rfl : j_code[152]? = some _).symm.trans h2); exact rfl
theorem j_good_153 : j_good 153 := fun q c h1 h2 => by cases Option.some.inj ((rfl : j_meth[153]? = some _).symm.trans h1); cases Option.some.inj ((rfl : j_code[153]? = some _).symm.trans h2); exact rfl
theorem j_good_154 : j_good 154 := fun q c h1 h2 => by cases Option.some.inj ((rfl : j_meth[154]? = some _).symm.trans h1); cases Option.some.inj ((rfl : j_code[154]? = some _).symm.trans h2); exact rfl
theorem j_good_155 : j_good 155 := fun q c h1 h2 => by cases Option.some.inj ((rfl : j_meth[155]? = some _).symm.trans h1); cases Option.some.inj ((rfl : j_code[155]? = some _).symm.trans h2); exact rfl
theorem j_good_156 : j_good 156 := fun q c h1 h2 => by cases Option.some.inj ((rfl : j_meth[156]? = some _).symm.trans h1); cases Option.some.inj ((rfl : j_code[156]? = some _).symm.trans h2); exact rfl
theorem j_good_157 : j_good 157 := fun q c h1 h2 => by cases Option.some.inj ((rfl : j_meth[157]? = some _).symm.trans h1); cases Option.some.inj ((rfl : j_code[157]? = some _).symm.trans h2); exact rfl
theorem j_good_158 : j_good 158 := fun q c h1 h2 => by cases Option.some.inj ((rfl : j_meth[158]? = some _).symm.trans h1); cases Option.some.inj ((rfl : j_code[158]? = some _).symm.trans h2); exact rfl
theorem j_good_159 : j_good 159 := fun q c h1 h2 => by cases Option.some.inj ((rfl : j_meth[159]? = some _).symm.trans h1); cases Option.some.inj ((rfl : j_code[159]? = some _).symm.trans h2); exact rfl
theorem j_good_160 : j_good 160 := fun q c h1 h2 => by cases Option.some.inj ((rfl : j_meth[160]? = some _).symm.trans h1); cases Option.some.inj ((rfl : j_code[160]? = some _).symm.trans h2); exact rfl
theorem j_good_161 : j_good 161 := fun q c h1 h2 => by cases Option.some.inj ((rfl : j_meth[161]? = some _).symm.trans h1); cases Option.some.inj ((rfl : j_code[161]? = some _).symm.trans h2); exact rfl
theorem j_good_162 : j_good 162 := fun q c h1 h2 => by cases Option.some.inj ((rfl : j_meth[162]? = some _).symm.trans h1); cases Option.some.inj ((rfl : j_code[162]? = some _).symm.trans h2); exact rfl
theorem j_good_163 : j_good 163 := fun q c h1 h2 => by cases Option.some.inj ((rfl : j_meth[163]? = some _).symm.trans h1); cases Option.some.inj ((rfl : j_code[163]? = some _).symm.trans h2); exact rfl
theorem j_good_164 : j_good 164 := fun q c h1 h2 => by cases Option.some.inj ((rfl : j_meth[164]? = some _).symm.trans h1); cases Option.some.inj ((rfl : j_code[164]? = some _).symm.trans h2); exact rfl
theorem j_good_165 : j_good 165 := fun q c h1 h2 => by cases Option.some.inj ((rfl : j_meth[165]? = some _).symm.trans h1); cases Option.some.inj ((rfl : j_code[165]? = some _).symm.trans h2); exact rfl
theorem j_good_166 : j_good 166 := fun q c h1 h2 => by cases Option.some.inj ((rfl : j_meth[166]? = some _).symm.trans h1); cases Option.some.inj ((rfl : j_code[166]? = some _).symm.trans h2); exact rfl
theorem j_good_167 : j_good 167 := fun q c h1 h2 => by cases Option.some.inj ((rfl : j_meth[167]? = some _).symm.trans h1); cases Option.some.inj ((rfl : j_code[167]? = some _).symm.trans h2); exact rfl
theorem j_good_168 : j_good 168 := fun q c h1 h2 => by cases Option.some.inj ((rfl : j_meth[168]? = some _).symm.trans h1); cases Option.some.inj ((rfl : j_code[168]? = some _).symm.trans h2); exact rfl
theorem j_good_169 : j_good 169 := fun q c h1 h2 => by cases Option.some.inj ((rfl : j_meth[169]? = some _).symm.trans h1); cases Option.some.inj ((rfl : j_code[169]? = some _).symm.trans h2); exact rfl
theorem j_good_170 : j_good 170 := fun q c h1 h2 => by cases Option.some.inj ((rfl : j_meth[170]? = some _).symm.trans h1); cases Option.some.inj ((rfl : j_code[170]? = some _).symm.trans h2); exact rfl
theorem j_good_171 : j_good 171 := fun q c h1 h2 => by cases Option.some.inj ((rfl : j_meth[171]? = some _).symm.trans h1); cases Option.some.inj ((rfl : j_code[171]? = some _).symm.trans h2); exact rfl
theorem j_good_172 : j_good 172 := fun q c h1 h2 => by cases Option.some.inj ((rfl : j_meth[172]? = some _).symm.trans h1); cases Option.some.inj ((rfl : j_code[172]? = some _).symm.trans h2); exact rfl
theorem j_good_173 : j_good 173 := fun q c h1 h2 => by cases Option.some.inj ((rfl : j_meth[173]? = some _).symm.trans h1); cases Option.some.inj ((rfl : j_code[173]? = some _).symm.trans h2); exact rfl
theorem j_good_174 : j_good 174 := fun q c h1 h2 => by cases Option.some.inj ((rfl : j_meth[174]? = some _).symm.trans h1); cases Option.some.inj ((rfl : j_code[174]? = some _).symm.trans h2); exact rfl
theorem j_good_175 : j_good 175 := fun q c h1 h2 => by cases Option.some.inj ((rfl : j_meth[175]? = some _).symm.trans h1); cases Option.some.inj ((rfl : j_code[175]? = some _).symm.trans h2); exact rfl
theorem j_good_176 : j_good 176 := fun q c h1 h2 => by cases Option.some.inj ((rfl : j_meth[176]? = some _).symm.trans h1); cases Option.some.inj ((rfl : j_code[176]? = some _).symm.trans h2); exact rfl
theorem j_good_177 : j_good 177 := fun q c h1 h2 => by cases Option.some.inj ((rfl : j_meth[177]? = some _).symm.trans h1); cases Option.some.inj ((rfl : j_code[177]? = some _).symm.trans h2); exact rfl
theorem j_good_178 : j_good 178 := fun q c h1 h2 => by cases Option.some.inj ((rfl : j_meth[178]? = some _).symm.trans h1); cases Option.some.inj ((rfl : j_code[178]? = some _).symm.trans h2); exact rfl
theorem j_good_179 : j_good 179 := fun q c h1 h2 => by cases Option.some.inj ((rfl : j_meth[179]? = some _).symm.trans h1); cases Option.some.inj ((rfl : j_code[179]? = some _).symm.trans h2); exact rfl
theorem j_good_180 : j_good 180 := fun q c h1 h2 => by cases Option.some.inj ((rfl : j_meth[180]? = some _).symm.trans h1); cases Option.some.inj ((rfl : j_code[180]? = some _).symm.trans h2); exact rfl
theorem j_good_181 : j_good 181 := fun q c h1 h2 => by cases Option.some.inj ((rfl : j_meth[181]? = some _).symm.trans h1); cases Option.some.inj ((rfl : j_code[181]? = some _).symm.trans h2); exact rfl
theorem j_good_182 : j_good 182 := fun q c h1 h2 => by cases Option.some.inj ((rfl : j_meth[182]? = some _).symm.trans h1); cases Option.some.inj ((rfl : j_code[182]? = some _).symm.trans h2); exact rfl
theorem j_good_183 : j_good 183 := fun q c h1 h2 => by cases Option.some.inj ((rfl : j_meth[183]? = some _).symm.trans h1); cases Option.some.inj ((rfl : j_code[183]? = some _).symm.trans h2); exact rfl
theorem j_good_184 : j_good 184 := fun q c h1 h2 => by cases Option.some.inj ((rfl : j_meth[184]? = some _).symm.trans h1); cases Option.some.inj ((rfl : j_code[184]? = some _).symm.trans h2); exact rfl
theorem j_good_185 : j_good 185 := fun q c h1 h2 => by cases Option.some.inj ((rfl : j_meth[185]? = some _).symm.trans h1); cases Option.some.inj ((rfl : j_code[185]? = some _).symm.trans h2); exact rfl
theorem j_good_186 : j_good 186 := fun q c h1 h2 => by cases Option.some.inj ((rfl : j_meth[186]? = some _).symm.trans h1); cases Option.some.inj ((rfl : j_code[186]? = some _).symm.trans h2); exact rfl
theorem j_good_187 : j_good 187 := fun q c h1 h2 => by cases Option.some.inj ((rfl : j_meth[187]? = some _).symm.trans h1); cases Option.some.inj ((rfl : j_code[187]? = some _).symm.trans h2); exact rfl
theorem j_good_188 : j_good 188 := fun q c h1 h2 => by cases Option.some.inj ((rfl : j_meth[188]? = some _).symm.trans h1); cases Option.some.inj ((rfl : j_code[188]? = some _).symm.trans h2); exact rfl
theorem j_good_189 : j_good 189 := fun q c h1 h2 => by cases Option.some.inj ((rfl : j_meth[189]? = some _).symm.trans h1); cases Option.some.inj ((rfl : j_code[189]? = some _).symm.trans h2); exact rfl
theorem j_good_190 : j_good 190 := fun q c h1 h2 => by cases Option.some.inj ((rfl : j_meth[190]? = some _).symm.trans h1); cases Option.some.inj ((rfl : j_code[190]? = some _).symm.trans h2); exact rfl
theorem j_good_191 : j_good 191 := fun q c h1 h2 => by cases Option.some.inj ((rfl : j_meth[191]? = some _).symm.trans h1); cases Option.some.inj ((rfl : j_code[191]? = some _).symm.trans h2); exact rfl
theorem j_good_192 : j_good 192 := fun q c h1 h2 => by cases Option.some.inj ((rfl : j_meth[192]? = some _).symm.trans h1); cases Option.some.inj ((rfl : j_code[192]? = some _).symm.trans h2); exact rfl
theorem j_good_193 : j_good 193 := fun q c h1 h2 => by cases Option.some.inj ((rfl : j_meth[193]? = some _).symm.trans h1); cases Option.some.inj ((rfl : j_code[193]? = some _).symm.trans h2); exact rfl
theorem j_good_194 : j_good 194 := fun q c h1 h2 => by cases Option.some.inj ((rfl : j_meth[194]? = some _).symm.trans h1); cases Option.some.inj ((rfl : j_code[194]? = some _).symm.trans h2); exact rfl
theorem j_good_195 : j_good 195 := fun q c h1 h2 => by cases Option.some.inj ((rfl : j_meth[195]? = some _).symm.trans h1); cases Option.some.inj ((rfl : j_code[195]? = some _).symm.trans h2); exact rfl
theorem j_good_196 : j_good 196 := fun q c h1 h2 => by cases Option.some.inj ((rfl : j_meth[196]? = some _).symm.trans h1); cases Option.some.inj ((rfl : j_code[196]? = some _).symm.trans h2); exact rfl
theorem j_good_197 : j_good 197 := fun q c h1 h2 => by cases Option.some.inj ((rfl : j_meth[197]? = some _).symm.trans h1); cases Option.some.inj ((rfl : j_code[197]? = some _).symm.trans h2); exact rfl
theorem j_good_198 : j_good 198 := fun q c h1 h2 => by cases Option.some.inj ((rfl : j_meth[198]? = some _).symm.trans h1); cases Option.some.inj ((rfl : j_code[198]? = some _).symm.trans h2); exact rfl
theorem j_good_199 : j_good 199 := fun q c h1 h2 => by cases Option.some.inj ((rfl : j_meth[199]? = some _).symm.trans h1); cases Option.some.inj ((rfl : j_code[199]? = some _).symm.trans h2); exact rfl
theorem j_good_200 : j_good 200 := fun q c h1 h2 => by cases Option.some.inj ((rfl : j_meth[200]? = some _).symm.trans h1); cases Option.some.inj ((rfl : j_code[200]? = some _).symm.trans h2); exact rfl
theorem j_good_201 : j_good 201 := fun q c h1 h2 => by cases Option.some.inj ((rfl : j_meth[201]? = some _).symm.trans h1); cases Option.some.inj ((rfl : j_code[201]? = some _).symm.trans h2); exact rfl
theorem j_good_202 : j_good 202 := fun q c h1 h2 => by cases Option.some.inj ((rfl : j_meth[202]? = some _).symm.trans h1); cases Option.some.inj ((rfl : j_code[202]? = some _).symm.trans h2); exact rfl
theorem j_good_203 : j_good 203 := fun q c h1 h2 => by cases Option.some.inj ((rfl : j_meth[203]? = some _).symm.trans h1); cases Option.some.inj ((rfl : j_code[203]? = some _).symm.trans h2); exact rfl
theorem j_good_204 : j_good 204 := fun q c h1 h2 => by cases Option.some.inj ((rfl : j_meth[204]? = some _).symm.trans h1); cases Option.some.inj ((rfl : j_code[204]? = some _).symm.trans h2); exact rfl
theorem j_good_205 : j_good 205 := fun q c h1 h2 => by cases Option.some.inj ((rfl : j_meth[205]? = some _).symm.trans h1); cases Option.some.inj ((rfl : j_code[205]? = some _).symm.trans h2); exact rfl
theorem j_good_206 : j_good 206 := fun q c h1 h2 => by cases Option.some.inj ((rfl : j_meth[206]? = some _).symm.trans h1); cases Option.some.inj ((rfl : j_code[206]? = some _).symm.trans h2); exact rfl
theorem j_good_207 : j_good 207 := fun q c h1 h2 => by cases Option.some.inj ((rfl : j_meth[207]? = some _).symm.trans h1); cases Option.some.inj ((rfl : j_code[207]? = some _).symm.trans h2); exact rfl
theorem j_good_208 : j_good 208 := fun q c h1 h2 => by cases Option.some.inj ((rfl : j_meth[208]? = some _).symm.trans h1); cases Option.some.inj ((rfl : j_code[208]? = some _).symm.trans h2); exact rfl
theorem j_good_209 : j_good 209 := fun q c h1 h2 => by cases Option.some.inj ((rfl : j_meth[209]? = some _).symm.trans h1); cases Option.some.inj ((rfl : j_code[209]? = some _).symm.trans h2); exact rfl
theorem j_good_210 : j_good 210 := fun q c h1 h2 => by cases Option.some.inj ((rfl : j_meth[210]? = some _).symm.trans h1); cases Option.some.inj ((rfl : j_code[210]? = some _).symm.trans h2); exact rfl
theorem j_good_211 : j_good 211 := fun q c h1 h2 => by cases Option.some.inj ((rfl : j_meth[211]? = some _).symm.trans h1); cases Option.some.inj ((rfl : j_code[211]? = some _).symm.trans h2); exact rfl
theorem j_good_212 : j_good 212 := fun q c h1 h2 => by cases Option.some.inj ((rfl : j_meth[212]? = some _).symm.trans h1); cases Option.some.inj ((rfl : j_code[212]? = some _).symm.trans h2); exact rfl
theorem j_good_213 : j_good 213 := fun q c h1 h2 => by cases Option.some.inj ((rfl : j_meth[213]? = some _).symm.trans h1); cases Option.some.inj ((rfl : j_code[213]? = some _).symm.trans h2); exact rfl
theorem j_good_214 : j_good 214 := fun q c h1 h2 => by cases Option.some.inj ((rfl : j_meth[214]? = some _).symm.trans h1); cases Option.some.inj ((rfl : j_code[214]? = some _).symm.trans h2); exact rfl
theorem j_good_215 : j_good 215 := fun q c h1 h2 => by cases Option.some.inj ((rfl : j_meth[215]? = some _).symm.trans h1); cases Option.some.inj ((rfl : j_code[215]? = some _).symm.trans h2); exact rfl
theorem j_good_216 : j_good 216 := fun q c h1 h2 => by cases Option.some.inj ((rfl : j_meth[216]? = some _).symm.trans h1); cases Option.some.inj ((rfl : j_code[216]? = some _).symm.trans h2); exact rfl
theorem j_good_217 : j_good 217 := fun q c h1 h2 => by cases Option.some.inj ((rfl : j_meth[217]? = some _).symm.trans h1); cases Option.some.inj ((rfl : j_code[217]? = some _).symm.trans h2); exact rfl
theorem j_good_218 : j_good 218 := fun q c h1 h2 => by cases Option.some.inj ((rfl : j_meth[218]? = some _).symm.trans h1); cases Option.some.inj ((rfl : j_code[218]? = some _).symm.trans h2); exact rfl
theorem j_good_219 : j_good 219 := fun q c h1 h2 => by cases Option.some.inj ((rfl : j_meth[219]? = some _).symm.trans h1); cases Option.some.inj ((rfl : j_code[219]? = some _).symm.trans h2); exact rfl
theorem j_good_220 : j_good 220 := fun q c h1 h2 => by cases Option.some.inj ((rfl : j_meth[220]? = some _).symm.trans h1); cases Option.some.inj ((rfl : j_code[220]? = some _).symm.trans h2); exact rfl
theorem j_good_221 : j_good 221 := fun q c h1 h2 => by cases Option.some.inj ((rfl : j_meth[221]? = some _).symm.trans h1); cases Option.some.inj ((rfl : j_code[221]? = some _).symm.trans h2); exact rfl
theorem j_good_222 : j_good 222 := fun q c h1 h2 => by cases Option.some.inj ((rfl : j_meth[222]? = some _).symm.trans h1); cases Option.some.inj ((rfl : j_code[222]? = some _).symm.trans h2); exact rfl
theorem j_good_223 : j_good 223 := fun q c h1 h2 => by cases Option.some.inj ((rfl : j_meth[223]? = some _).symm.trans h1); cases Option.some.inj ((rfl : j_code[223]? = some _).symm.trans h2); exact rfl
theorem j_good_224 : j_good 224 := fun q c h1 h2 => by cases Option.some.inj ((rfl : j_meth[224]? = some _).symm.trans h1); cases Option.some.inj ((rfl : j_code[224]? = some _).symm.trans h2); exact rfl
theorem j_good_225 : j_good 225 := fun q c h1 h2 => by cases Option.some.inj ((rfl : j_meth[225]? = some _).symm.trans h1); cases Option.some.inj ((rfl : j_code[225]? = some _).symm.trans h2); exact rfl
theorem j_good_226 : j_good 226 := fun q c h1 h2 => by cases Option.some.inj ((rfl : j_meth[226]? = some _).symm.trans h1); cases Option.some.inj ((rfl : j_code[226]? = some _).symm.trans h2); exact rfl
theorem j_good_227 : j_good 227 := fun q c h1 h2 => by cases Option.some.inj ((rfl : j_meth[227]? = some _).symm.trans h1); cases Option.some.inj ((rfl : j_code[227]? = some _).symm.trans h2); exact rfl
theorem j_good_228 : j_good 228 := fun q c h1 h2 => by cases Option.some.inj ((rfl : j_meth[228]? = some _).symm.trans h1); cases Option.some.inj ((rfl : j_code[228]? = some _).symm.trans h2); exact rfl
theorem j_good_229 : j_good 229 := fun q c h1 h2 => by cases Option.some.inj ((rfl : j_meth[229]? = some _).symm.trans h1); cases Option.some.inj ((rfl : j_code[229]? = some _).symm.trans h2); exact rfl
theorem j_good_230 : j_good 230 := fun q c h1 h2 => by cases Option.some.inj ((rfl : j_meth[230]? = some _).symm.trans h1); cases Option.some.inj ((rfl : j_code[230]? = some _).symm.trans h2); exact rfl
theorem j_good_231 : j_good 231 := fun q c h1 h2 => by cases Option.some.inj ((rfl : j_meth[231]? = some _).symm.trans h1); cases Option.some.inj ((rfl : j_code[231]? = some _).symm.trans h2); exact rfl
theorem j_good_232 : j_good 232 := fun q c h1 h2 => by cases Option.some.inj ((rfl : j_meth[232]? = some _).symm.trans h1); cases Option.some.inj ((rfl : j_code[232]? = some _).symm.trans h2); exact rfl
theorem j_good_233 : j_good 233 := fun q c h1 h2 => by cases Option.some.inj ((rfl : j_meth[233]? = some _).symm.trans h1); cases Option.some.inj ((rfl : j_code[233]? = some _).symm.trans h2); exact rfl
theorem j_good_234 : j_good 234 := fun q c h1 h2 => by cases Option.some.inj ((rfl : j_meth[234]? = some _).symm.trans h1); cases Option.some.inj ((rfl : j_code[234]? = some _).symm.trans h2); exact rfl
theorem j_good_235 : j_good 235 := fun q c h1 h2 => by cases Option.some.inj ((rfl : j_meth[235]? = some _).symm.trans h1); cases Option.some.inj ((rfl : j_code[235]? = some _).symm.trans h2); exact rfl
theorem j_good_236 : j_good 236 := fun q c h1 h2 => by cases Option.some.inj ((rfl : j_meth[236]? = some _).symm.trans h1); cases Option.some.inj ((rfl : j_code[236]? = some _).symm.trans h2); exact rfl
theorem j_good_237 : j_good 237 := fun q c h1 h2 => by cases Option.some.inj ((rfl : j_meth[237]? = some _).symm.trans h1); cases Option.some.inj ((rfl : j_code[237]? = some _).symm.trans h2); exact rfl
theorem j_good_238 : j_good 238 := fun q c h1 h2 => by cases Option.some.inj ((rfl : j_meth[238]? = some _).symm.trans h1); cases Option.some.inj ((rfl : j_code[238]? = some _).symm.trans h2); exact rfl
theorem j_good_239 : j_good 239 := fun q c h1 h2 => by cases Option.some.inj ((rfl : j_meth[239]? = some _).symm.trans h1); cases Option.some.inj ((rfl : j_code[239]? = some _).symm.trans h2); exact rfl
theorem j_good_240 : j_good 240 := fun q c h1 h2 => by cases Option.some.inj ((rfl : j_meth[240]? = some _).symm.trans h1); cases Option.some.inj ((rfl : j_code[240]? = some _).symm.trans h2); exact rfl
theorem j_good_241 : j_good 241 := fun q c h1 h2 => by cases Option.some.inj ((rfl : j_meth[241]? = some _).symm.trans h1); cases Option.some.inj ((rfl : j_code[241]? = some _).symm.trans h2); exact rfl
theorem j_good_242 : j_good 242 := fun q c h1 h2 => by cases Option.some.inj ((rfl : j_meth[242]? = some _).symm.trans h1); cases Option.some.inj ((rfl : j_code[242]? = some _).symm.trans h2); exact rfl
theorem j_good_243 : j_good 243 := fun q c h1 h2 => by cases Option.some.inj ((rfl : j_meth[243]? = some _).symm.trans h1); cases Option.some.inj ((rfl : j_code[243]? = some _).symm.trans h2); exact rfl
theorem j_good_244 : j_good 244 := fun q c h1 h2 => by cases Option.some.inj ((rfl : j_meth[244]? = some _).symm.trans h1); cases Option.some.inj ((rfl : j_code[244]? = some _).symm.trans h2); exact rfl
theorem j_good_245 : j_good 245 := fun q c h1 h2 => by cases Option.some.inj ((rfl : j_meth[245]? = some _).symm.trans h1); cases Option.some.inj ((rfl : j_code[245]? = some _).symm.trans h2); exact rfl
theorem j_good_246 : j_good 246 := fun q c h1 h2 => by cases Option.some.inj ((rfl : j_meth[246]? = some _).symm.trans h1); cases Option.some.inj ((rfl : j_code[246]? = some _).symm.trans h2); exact rfl
theorem j_good_247 : j_good 247 := fun q c h1 h2 => by cases Option.some.inj ((rfl : j_meth[247]? = some _).symm.trans h1); cases Option.some.inj ((rfl : j_code[247]? = some _).symm.trans h2); exact rfl
theorem j_good_248 : j_good 248 := fun q c h1 h2 => by cases Option.some.inj ((rfl : j_meth[248]? = some _).symm.trans h1); cases Option.some.inj ((rfl : j_code[248]? = some _).symm.trans h2); exact rfl
theorem j_good_249 : j_good 249 := fun q c h1 h2 => by cases Option.some.inj ((rfl : j_meth[249]? = some _).symm.trans h1); cases Option.some.inj ((rfl : j_code[249]? = some _).symm.trans h2); exact rfl
theorem j_good_250 : j_good 250 := fun q c h1 h2 => by cases Option.some.inj ((rfl : j_meth[250]? = some _).symm.trans h1); cases Option.some.inj ((rfl : j_code[250]? = some _).symm.trans h2); exact rfl
theorem j_good_251 : j_good 251 := fun q c h1 h2 => by cases Option.some.inj ((rfl : j_meth[251]? = some _).symm.trans h1); cases Option.some.inj ((rfl : j_code[251]? = some _).symm.trans h2); exact rfl
theorem j_good_252 : j_good 252 := fun q c h1 h2 => by cases Option.some.inj ((rfl : j_meth[252]? = some _).symm.trans h1); cases Option.some.inj ((rfl : j_code[252]? = some _).symm.trans h2); exact rfl
theorem j_good_253 : j_good 253 := fun q c h1 h2 => by cases Option.some.inj ((rfl : j_meth[253]? = some _).symm.trans h1); cases Option.some.inj ((rfl : j_code[253]? = some _).symm.trans h2); exact rfl
theorem j_good_254 : j_good 254 := fun q c h1 h2 => by cases Option.some.inj ((rfl : j_meth[254]? = some _).symm.trans h1); cases Option.some.inj ((rfl : j_code[254]? = some _).symm.trans h2); exact rfl
theorem j_good_255 : j_good 255 := fun q c h1 h2 => by cases Option.some.inj ((rfl : j_meth[255]? = some _).symm.trans h1); cases Option.some.inj ((rfl : j_code[255]? = some _).symm.trans h2); exact rfl
theorem j_good_256 : j_good 256 := fun q c h1 h2 => by cases Option.some.inj ((rfl : j_meth[256]? = some _).symm.trans h1); cases Option.some.inj ((rfl : j_code[256]? = some _).symm.trans h2); exact rfl
theorem j_good_257 : j_good 257 := fun q c h1 h2 => by cases Option.some.inj ((rfl : j_meth[257]? = some _).symm.trans h1); cases Option.some.inj ((rfl : j_code[257]? = some _).symm.trans h2); exact rfl
theorem j_good_258 : j_good 258 := fun q c h1 h2 => by cases Option.some.inj ((rfl : j_meth[258]? = some _).symm.trans h1); cases Option.some.inj ((rfl : j_code[258]? = some _).symm.trans h2); exact rfl
theorem j_good_259 : j_good 259 := fun q c h1 h2 => by cases Option.some.inj ((rfl : j_meth[259]? = some _).symm.trans h1); cases Option.some.inj ((rfl : j_code[259]? = some _).symm.trans h2); exact rfl
theorem j_good_260 : j_good 260 := fun q c h1 h2 => by cases Option.some.inj ((rfl : j_meth[260]? = some _).symm.trans h1); cases Option.some.inj ((rfl : j_code[260]? = some _).symm.trans h2); exact rfl
theorem j_good_261 : j_good 261 := fun q c h1 h2 => by cases Option.some.inj ((rfl : j_meth[261]? = some _).symm.trans h1); cases Option.some.inj ((rfl : j_code[261]? = some _).symm.trans h2); exact rfl
theorem j_good_262 : j_good 262 := fun q c h1 h2 => by cases Option.some.inj ((rfl : j_meth[262]? = some _).symm.trans h1); cases Option.some.inj ((rfl : j_code[262]? = some _).symm.trans h2); exact rfl
theorem j_good_263 : j_good 263 := fun q c h1 h2 => by cases Option.some.inj ((rfl : j_meth[263]? = some _).symm.trans h1); cases Option.some.inj ((rfl : j_code[263]? = some _).symm.trans h2); exact rfl
theorem j_good_264 : j_good 264 := fun q c h1 h2 => by cases Option.some.inj ((rfl : j_meth[264]? = some _).symm.trans h1); cases Option.some.inj ((rfl : j_code[264]? = some _).symm.trans h2); exact rfl
theorem j_good_265 : j_good 265 := fun q c h1 h2 => by cases Option.some.inj ((rfl : j_meth[265]? = some _).symm.trans h1); cases Option.some.inj ((rfl : j_code[265]? = some _).symm.trans h2); exact j_dk_265
theorem j_good_266 : j_good 266 := fun q c h1 h2 => by cases Option.some.inj ((rfl : j_meth[266]? = some _).symm.trans h1); cases Option.some.inj ((rfl : j_code[266]? = some _).symm.trans h2); exact j_dk_266
theorem j_good_267 : j_good 267 := fun q c h1 h2 => by cases Option.some.inj ((rfl : j_meth[267]? = some _).symm.trans h1); cases Option.some.inj ((rfl : j_code[267]? = some _).symm.trans h2); exact j_dk_267
theorem j_good_268 : j_good 268 := fun q c h1 h2 => by cases Option.some.inj ((rfl : j_meth[268]? = some _).symm.trans h1); cases Option.some.inj ((rfl : j_code[268]? = some _).symm.trans h2); exact j_dk_268
theorem j_good_269 : j_good 269 := fun q c h1 h2 => by cases Option.some.inj ((rfl : j_meth[269]? = some _).symm.trans h1); cases Option.some.inj ((rfl : j_code[269]? = some _).symm.trans h2); exact j_dk_269
theorem j_good_270 : j_good 270 := fun q c h1 h2 => by cases Option.some.inj ((rfl : j_meth[270]? = some _).symm.trans h1); cases Option.some.inj ((rfl : j_code[270]? = some _).symm.trans h2); exact j_dk_270
theorem j_good_271 : j_good 271 := fun q c h1 h2 => by cases Option.some.inj ((rfl : j_meth[271]? = some _).symm.trans h1); cases Option.some.inj ((rfl : j_code[271]? = some _).symm.trans h2); exact j_dk_271
theorem j_good_272 : j_good 272 := fun q c h1 h2 => by cases Option.some.inj ((rfl : j_meth[272]? = some _).symm.trans h1); cases Option.some.inj ((rfl : j_code[272]? = some _).symm.trans h2); exact j_dk_272
theorem j_good_274 : j_good 274 := fun q c h1 h2 => by cases Option.some.inj ((rfl : j_meth[274]? = some _).symm.trans h1); cases Option.some.inj ((rfl : j_code[274]? = some _).symm.trans h2); exact j_dk_274
theorem j_good_275 : j_good 275 := fun q c h1 h2 => by cases Option.some.inj ((rfl : j_meth[275]? = some _).symm.trans h1); cases Option.some.inj ((rfl : j_code[275]? = some _).symm.trans h2); exact j_dk_275
theorem j_good_277 : j_good 277 := fun q c h1 h2 => by cases Option.some.inj ((rfl : j_meth[277]? = some _).symm.trans h1); cases Option.some.inj ((rfl : j_code[277]? = some _).symm.trans h2); exact j_dk_277
theorem j_good_278 : j_good 278 := fun q c h1 h2 => by cases Option.some.inj ((rfl : j_meth[278]? = some _).symm.trans h1); cases Option.some.inj ((rfl : j_code[278]? = some _).symm.trans h2); exact j_dk_278
theorem j_good_279 : j_good 279 := fun q c h1 h2 => by cases Option.some.inj ((rfl : j_meth[279]? = some _).symm.trans h1); cases Option.some.inj ((rfl : j_code[279]? = some _).symm.trans h2); exact j_dk_279
theorem j_good_280 : j_good 280 := fun q c h1 h2 => by cases Option.some.inj ((rfl : j_meth[280]? = some _).symm.trans h1); cases Option.some.inj ((rfl : j_code[280]? = some _).symm.trans h2); exact j_dk_280
theorem j_good_281 : j_good 281 := fun q c h1 h2 => by cases Option.some.inj ((rfl : j_meth[281]? = some _).symm.trans h1); cases Option.some.inj ((rfl : j_code[281]? = some _).symm.trans h2); exact j_dk_281
theorem j_good_282 : j_good 282 := fun q c h1 h2 => by cases Option.some.inj ((rfl : j_meth[282]? = some _).symm.trans h1); cases Option.some.inj ((rfl : j_code[282]? = some _).symm.trans h2); exact j_dk_282
theorem j_good_283 : j_good 283 := fun q c h1 h2 => by cases Option.some.inj ((rfl : j_meth[283]? = some _).symm.trans h1); cases Option.some.inj ((rfl : j_code[283]? = some _).symm.trans h2); exact j_dk_283
theorem j_good_284 : j_good 284 := fun q c h1 h2 => by cases Option.some.inj ((rfl : j_meth[284]? = some _).symm.trans h1); cases Option.some.inj ((rfl : j_code[284]? = some _).symm.trans h2); exact j_dk_284
theorem j_good_285 : j_good 285 := fun q c h1 h2 => by cases Option.some.inj ((rfl : j_meth[285]? = some _).symm.trans h1); cases Option.some.inj ((rfl : j_code[285]? = some _).symm.trans h2); exact j_dk_285
theorem j_good_286 : j_good 286 := fun q c h1 h2 => by cases Option.some.inj ((rfl : j_meth[286]? = some _).symm.trans h1); cases Option.some.inj ((rfl : j_code[286]? = some _).symm.trans h2); exact j_dk_286
theorem j_good_287 : j_good 287 := fun q c h1 h2 => by cases Option.some.inj ((rfl : j_meth[287]? = some _).symm.trans h1); cases Option.some.inj ((rfl : j_code[287]? = some _).symm.trans h2); exact j_dk_287
theorem j_good_288 : j_good 288 := fun q c h1 h2 => by cases Option.some.inj ((rfl : j_meth[288]? = some _).symm.trans h1); cases Option.some.inj ((rfl : j_code[288]? = some _).symm.trans h2); exact j_dk_288
theorem j_good_289 : j_good 289 := fun q c h1 h2 => by cases Option.some.inj ((rfl : j_meth[289]? = some _).symm.trans h1); cases Option.some.inj ((rfl : j_code[289]? = some _).symm.trans h2); exact j_dk_289
theorem j_good_290 : j_good 290 := fun q c h1 h2 => by cases Option.some.inj ((rfl : j_meth[290]? = some _).symm.trans h1); cases Option.some.inj ((rfl : j_code[290]? = some _).symm.trans h2); exact j_dk_290
theorem j_good_291 : j_good 291 := fun q c h1 h2 => by cases Option.some.inj ((rfl : j_meth[291]? = some _).symm.trans h1); cases Option.some.inj ((rfl : j_code[291]? = some _).symm.trans h2); exact j_dk_291
theorem j_good_292 : j_good 292 := fun q c h1 h2 => by cases Option.some.inj ((rfl : j_meth[292]? = some _).symm.trans h1); cases Option.some.inj ((rfl : j_code[292]? = some _).symm.trans h2); exact j_dk_292
theorem j_good_293 : j_good 293 := fun q c h1 h2 => by cases Option.some.inj ((rfl : j_meth[293]? = some _).symm.trans h1); cases Option.some.inj ((rfl : j_code[293]? = some _).symm.trans h2); exact j_dk_293
theorem j_good_294 : j_good 294 := fun q c h1 h2 => by cases Option.some.inj ((rfl : j_meth[294]? = some _).symm.trans h1); cases Option.some.inj ((rfl : j_code[294]? = some _).symm.trans h2); exact j_dk_294
theorem j_good_295 : j_good 295 := fun q c h1 h2 => by cases Option.some.inj ((rfl : j_meth[295]? = some _).symm.trans h1); cases Option.some.inj ((rfl : j_code[295]? = some _).symm.trans h2); exact j_dk_295
theorem j_good_296 : j_good 296 := fun q c h1 h2 => by cases Option.some.inj ((rfl : j_meth[296]? = some _).symm.trans h1); cases Option.some.inj ((rfl : j_code[296]? = some _).symm.trans h2); exact j_dk_296
theorem j_good_297 : j_good 297 := fun q c h1 h2 => by cases Option.some.inj ((rfl : j_meth[297]? = some _).symm.trans h1); cases Option.some.inj ((rfl : j_code[297]? = some _).symm.trans h2); exact j_dk_297
theorem j_good_298 : j_good 298 := fun q c h1 h2 => by cases Option.some.inj ((rfl : j_meth[298]? = some _).symm.trans h1); cases Option.some.inj ((rfl : j_code[298]? = some _).symm.trans h2); exact j_dk_298
theorem j_good_299 : j_good 299 := fun q c h1 h2 => by cases Option.some.inj ((rfl : j_meth[299]? = some _).symm.trans h1); cases Option.some.inj ((rfl : j_code[299]? = some _).symm.trans h2); exact j_dk_299
theorem j_good_300 : j_good 300 := fun q c h1 h2 => by cases Option.some.inj ((rfl : j_meth[300]? = some _).symm.trans h1); cases Option.some.inj ((rfl : j_code[300]? = some _).symm.trans h2); exact j_dk_300
theorem j_good_301 : j_good 301 := fun q c h1 h2 => by cases Option.some.inj ((rfl : j_meth[301]? = some _).symm.trans h1); cases Option.some.inj ((rfl : j_code[301]? = some _).symm.trans h2); exact j_dk_301
theorem j_good_302 : j_good 302 := fun q c h1 h2 => by cases Option.some.inj ((rfl : j_meth[302]? = some _).symm.trans h1); cases Option.some.inj ((rfl : j_code[302]? = some _).symm.trans h2); exact j_dk_302
theorem j_good_303 : j_good 303 := fun q c h1 h2 => by cases Option.some.inj ((rfl : j_meth[303]? = some _).symm.trans h1); cases Option.some.inj ((rfl : j_code[303]? = some _).symm.trans h2); exact j_dk_303
theorem j_good_304 : j_good 304 := fun q c h1 h2 => by cases Option.some.inj ((rfl : j_meth[304]? = some _).symm.trans h1); cases Option.some.inj ((rfl : j_code[304]? = some _).symm.trans h2); exact j_dk_304
theorem j_good_305 : j_good 305 := fun q c h1 h2 => by cases Option.some.inj ((rfl : j_meth[305]? = some _).symm.trans h1); cases Option.some.inj ((rfl : j_code[305]? = some _).symm.trans h2); exact j_dk_305
theorem j_good_306 : j_good 306 := fun q c h1 h2 => by cases Option.some.inj ((rfl : j_meth[306]? = some _).symm.trans h1); cases Option.some.inj ((rfl : j_code[306]? = some _).symm.trans h2); exact j_dk_306
theorem j_good_307 : j_good 307 := fun q c h1 h2 => by cases Option.some.inj ((rfl : j_meth[307]? = some _).symm.trans h1); cases Option.some.inj ((rfl : j_code[307]? = some _).symm.trans h2); exact j_dk_307
theorem j_good_308 : j_good 308 := fun q c h1 h2 => by cases Option.some.inj ((rfl : j_meth[308]? = some _).symm.trans h1); cases Option.some.inj ((rfl : j_code[308]? = some _).symm.trans h2); exact j_dk_308
theorem j_good_309 : j_good 309 := fun q c h1 h2 => by cases Option.some.inj ((rfl : j_meth[309]? = some _).symm.trans h1); cases Option.some.inj ((rfl : j_code[309]? = some _).symm.trans h2); exact j_dk_309
theorem j_good_all : ∀ y, ¬ j_spc y → j_good y := fun y hy => match y, hy with
  | 0, _ => j_good_0
  | 1, _ => j_good_1
  | 2, _ => j_good_2
  | 3, _ => j_good_3
  | 4, _ => j_good_4
  | 5, _ => j_good_5
  | 6, _ => j_good_6
  | 7, _ => j_good_7
  | 8, _ => j_good_8
  | 9, _ => j_good_9
  | 10, _ => j_good_10
  | 11, _ => j_good_11
  | 12, _ => j_good_12
  | 13, _ => j_good_13
  | 14, _ => j_good_14
  | 15, _ => j_good_15
  | 16, _ => j_good_16
  | 17, _ => j_good_17
  | 18, _ => j_good_18
  | 19, _ => j_good_19
  | 20, _ => j_good_20
  | 21, _ => j_good_21
  | 22, _ => j_good_22
  | 23, _ => j_good_23
  | 24, _ => j_good_24
  | 25, _ => j_good_25
  | 26, _ => j_good_26
  | 27, _ => j_good_27
  | 28, _ => j_good_28
  | 29, _ => j_good_29
  | 30, _ => j_good_30
  | 31, _ => j_good_31
  | 32, _ => j_good_32
  | 33, _ => j_good_33
  | 34, _ => j_good_34
  | 35, _ => j_good_35
  | 36, _ => j_good_36
  | 37, _ => j_good_37
  | 38, _ => j_good_38
  | 39, _ => j_good_39
  | 40, _ => j_good_40
  | 41, _ => j_good_41
  | 42, _ => j_good_42
  | 43, _ => j_good_43
  | 44, _ => j_good_44
  | 45, _ => j_good_45
  | 46, _ => j_good_46
  | 47, _ => j_good_47
  | 48, _ => j_good_48
  | 49, _ => j_good_49
  | 50, _ => j_good_50
  | 51, _ => j_good_51
  | 52, _ => j_good_52
  | 53, _ => j_good_53
  | 54, _ => j_good_54
  | 55, _ => j_good_55
  | 56, _ => j_good_56
  | 57, _ => j_good_57
  | 58, _ => j_good_58
  | 59, _ => j_good_59
  | 60, _ => j_good_60
  | 61, _ => j_good_61
  | 62, _ => j_good_62
  | 63, _ => j_good_63
  | 64, _ => j_good_64
  | 65, _ => j_good_65
  | 66, _ => j_good_66
  | 67, _ => j_good_67
  | 68, _ => j_good_68
  | 69, _ => j_good_69
  | 70, _ => j_good_70
  | 71, _ => j_good_71
  | 72, _ => j_good_72
  | 73, _ => j_good_73
  | 74, _ => j_good_74
  | 75, _ => j_good_75
  | 76, _ => j_good_76
  | 77, _ => j_good_77
  | 78, _ => j_good_78
  | 79, _ => j_good_79
  | 80, _ => j_good_80
  | 81, _ => j_good_81
  | 82, _ => j_good_82
  | 83, _ => j_good_83
  | 84, _ => j_good_84
  | 85, _ => j_good_85
  | 86, _ => j_good_86
  | 87, _ => j_good_87
  | 88, _ => j_good_88
  | 89, _ => j_good_89
  | 90, _ => j_good_90
  | 91, _ => j_good_91
  | 92, _ => j_good_92
  | 93, _ => j_good_93
  | 94, _ => j_good_94
  | 95, _ => j_good_95
  | 96, _ => j_good_96
  | 97, _ => j_good_97
  | 98, _ => j_good_98
  | 99, _ => j_good_99
  | 100, _ => j_good_100
  | 101, _ => j_good_101
  | 102, _ => j_good_102
  | 103, _ => j_good_103
  | 104, _ => j_good_104
  | 105, _ => j_good_105
  | 106, _ => j_good_106
  | 107, _ => j_good_107
  | 108, _ => j_good_108
  | 109, _ => j_good_109
  | 110, _ => j_good_110
  | 111, _ => j_good_111
  | 112, _ => j_good_112
  | 113, _ => j_good_113
  | 114, _ => j_good_114
  | 115, _ => j_good_115
  | 116, _ => j_good_116
  | 117, _ => j_good_117
  | 118, _ => j_good_118
  | 119, _ => j_good_119
  | 120, _ => j_good_120
  | 121, _ => j_good_121
  | 122, _ => j_good_122
  | 123, _ => j_good_123
  | 124, _ => j_good_124
  | 125, _ => j_good_125
  | 126, _ => j_good_126
  | 127, _ => j_good_127
  | 128, _ => j_good_128
  | 129, _ => j_good_129
  | 130, _ => j_good_130
  | 131, _ => j_good_131
  | 132, _ => j_good_132
  | 133, _ => j_good_133
  | 134, _ => j_good_134
  | 135, _ => j_good_135
  | 136, _ => j_good_136
  | 137, _ => j_good_137
  | 138, _ => j_good_138
  | 139, _ => j_good_139
  | 140, _ => j_good_140
  | 141, _ => j_good_141
  | 142, _ => j_good_142
  | 143, _ => j_good_143
  | 144, _ => j_good_144
  | 145, _ => j_good_145
  | 146, _ => j_good_146
  | 147, _ => j_good_147
  | 148, _ => j_good_148
  | 149, _ => j_good_149
  | 150, _ => j_good_150
  | 151, _ => j_good_151
  | 152, _ => j_good_152
  | 153, _ => j_good_153
  | 154, _ => j_good_154
  | 155, _ => j_good_155
  | 156, _ => j_good_156
  | 157, _ => j_good_157
  | 158, _ => j_good_158
  | 159, _ => j_good_159
  | 160, _ => j_good_160
  | 161, _ => j_good_161
  | 162, _ => j_good_162
  | 163, _ => j_good_163
  | 164, _ => j_good_164
  | 165, _ => j_good_165
  | 166, _ => j_good_166
  | 167, _ => j_good_167
  | 168, _ => j_good_168
  | 169, _ => j_good_169
  | 170, _ => j_good_170
  | 171, _ => j_good_171
  | 172, _ => j_good_172
  | 173, _ => j_good_173
  | 174, _ => j_good_174
  | 175, _ => j_good_175
  | 176, _ => j_good_176
  | 177, _ => j_good_177
  | 178, _ => j_good_178
  | 179, _ => j_good_179
  | 180, _ => j_good_180
  | 181, _ => j_good_181
  | 182, _ => j_good_182
  | 183, _ => j_good_183
  | 184, _ => j_good_184
  | 185, _ => j_good_185
  | 186, _ => j_good_186
  | 187, _ => j_good_187
  | 188, _ => j_good_188
  | 189, _ => j_good_189
  | 190, _ => j_good_190
  | 191, _ => j_good_191
  | 192, _ => j_good_192
  | 193, _ => j_good_193
  | 194, _ => j_good_194
  | 195, _ => j_good_195
  | 196, _ => j_good_196
  | 197, _ => j_good_197
  | 198, _ => j_good_198
  | 199, _ => j_good_199
  | 200, _ => j_good_200
  | 201, _ => j_good_201
  | 202, _ => j_good_202
  | 203, _ => j_good_203
  | 204, _ => j_good_204
  | 205, _ => j_good_205
  | 206, _ => j_good_206
  | 207, _ => j_good_207
  | 208, _ => j_good_208
  | 209, _ => j_good_209
  | 210, _ => j_good_210
  | 211, _ => j_good_211
  | 212, _ => j_good_212
  | 213, _ => j_good_213
  | 214, _ => j_good_214
  | 215, _ => j_good_215
  | 216, _ => j_good_216
  | 217, _ => j_good_217
  | 218, _ => j_good_218
  | 219, _ => j_good_219
  | 220, _ => j_good_220
  | 221, _ => j_good_221
  | 222, _ => j_good_222
  | 223, _ => j_good_223
  | 224, _ => j_good_224
  | 225, _ => j_good_225
  | 226, _ => j_good_226
  | 227, _ => j_good_227
  | 228, _ => j_good_228
  | 229, _ => j_good_229
  | 230, _ => j_good_230
  | 231, _ => j_good_231
  | 232, _ => j_good_232
  | 233, _ => j_good_233
  | 234, _ => j_good_234
  | 235, _ => j_good_235
  | 236, _ => j_good_236
  | 237, _ => j_good_237
  | 238, _ => j_good_238
  | 239, _ => j_good_239
  | 240, _ => j_good_240
  | 241, _ => j_good_241
  | 242, _ => j_good_242
  | 243, _ => j_good_243
  | 244, _ => j_good_244
  | 245, _ => j_good_245
  | 246, _ => j_good_246
  | 247, _ => j_good_247
  | 248, _ => j_good_248
  | 249, _ => j_good_249
  | 250, _ => j_good_250
  | 251, _ => j_good_251
  | 252, _ => j_good_252
  | 253, _ => j_good_253
  | 254, _ => j_good_254
  | 255, _ => j_good_255
  | 256, _ => j_good_256
  | 257, _ => j_good_257
  | 258, _ => j_good_258
  | 259, _ => j_good_259
  | 260, _ => j_good_260
  | 261, _ => j_good_261
  | 262, _ => j_good_262
  | 263, _ => j_good_263
  | 264, _ => j_good_264
  | 265, _ => j_good_265
  | 266, _ => j_good_266
  | 267, _ => j_good_267
  | 268, _ => j_good_268
  | 269, _ => j_good_269
  | 270, _ => j_good_270
  | 271, _ => j_good_271
  | 272, _ => j_good_272
  | 273, hy => absurd (by unfold j_spc; decide) hy
  | 274, _ => j_good_274
  | 275, _ => j_good_275
  | 276, hy => absurd (by unfold j_spc; decide) hy
  | 277, _ => j_good_277
  | 278, _ => j_good_278
  | 279, _ => j_good_279
  | 280, _ => j_good_280
  | 281, _ => j_good_281
  | 282, _ => j_good_282
  | 283, _ => j_good_283
  | 284, _ => j_good_284
  | 285, _ => j_good_285
  | 286, _ => j_good_286
  | 287, _ => j_good_287
  | 288, _ => j_good_288
  | 289, _ => j_good_289
  | 290, _ => j_good_290
  | 291, _ => j_good_291
  | 292, _ => j_good_292
  | 293, _ => j_good_293
  | 294, _ => j_good_294
  | 295, _ => j_good_295
  | 296, _ => j_good_296
  | 297, _ => j_good_297
  | 298, _ => j_good_298
  | 299, _ => j_good_299
  | 300, _ => j_good_300
  | 301, _ => j_good_301
  | 302, _ => j_good_302
  | 303, _ => j_good_303
  | 304, _ => j_good_304
  | 305, _ => j_good_305
  | 306, _ => j_good_306
  | 307, _ => j_good_307
  | 308, _ => j_good_308
  | 309, _ => j_good_309
  | k + 310, _ => fun q c h1 _ => by
    have h : (k + 310) < j_meth.length := (List.getElem?_eq_some_iff.mp h1).1
    have h2 : j_meth.length = 310 := by decide +kernel
    omega
end
section
/-! The tables hold what the program's rows name: decided by the kernel. -/
/-- a word of the tables, by its place -/
def j_w (p : Nat) (w : Cond) : Bool := decide (lw_tb2[p]? = some w) && goodWord w
def j_ftw (t : Nat × Nat × Nat × Nat × Nat) : Bool := match vwCl[t.2.2.1]? with
  | some q => decide (t.2.2.2.1 < q.2.2) && (j_w t.2.2.2.2 (.fieldLink (j_cnm t.1) t.2.1 (q.2.1 t.2.2.2.1).1 (q.2.1 t.2.2.2.1).2.1 (q.2.1 t.2.2.2.1).2.2.1))
  | none => false
theorem j_ft_ok : j_ft.all j_ftw = true := by decide +kernel
def j_fnw (t : Nat × Nat × Nat × Nat × Nat × Nat) : Cond := .fieldLinkNest (j_cnm t.1) t.2.1 (j_cnm t.2.2.1) ((vwCl.getD t.2.2.1 ("", TX0, 0)).2.1 t.2.2.2.1).2.1 ((vwCl.getD t.2.2.1 ("", TX0, 0)).2.1 t.2.2.2.1).2.2.1 (j_cnm t.2.2.2.2.1)
def j_fnk (t : Nat × Nat × Nat × Nat × Nat × Nat) : Bool := match vwCl[t.2.2.1]? with
  | some q => decide (t.2.2.2.1 < q.2.2) && (decide ((q.2.1 t.2.2.2.1).1 = q.1) && decide (j_cnm t.2.2.1 = q.1) && decide (lw_tb2[t.2.2.2.2.2]? = some (j_fnw t)))
  | none => false
/-- statics of the JDK -/
def j_gsw (t : Nat × Nat × Nat × Nat) : Cond := if t.2.2.1 = 98 then .fieldLink (j_cnm t.1) t.2.1 "java/lang/String" "COMPACT_STRINGS" "Z" else if t.2.2.1 = 96 then .fieldLink (j_cnm t.1) t.2.1 "java/lang/Integer" "DigitOnes" "[B" else .fieldLink (j_cnm t.1) t.2.1 "java/lang/Integer" "DigitTens" "[B"
theorem j_gs_ok : j_gs.all (fun t => (t.2.2.1 == 98 || (t.2.2.1 == 96 || t.2.2.1 == 97)) && j_w t.2.2.2 (j_gsw t)) = true := by decide +kernel
/-- texts -/
theorem j_st_ok : j_st.all (fun t => match j_tx[t.2.2.1]? with | some x => decide (t.2.1 = x.1) && (t.1 == 13 && decide (lw_tb2[t.2.2.2]? = some (.stringRef (j_cnm t.1) t.2.1 x.2.1))) | none => false) = true := by decide +kernel
theorem j_fn_ok : j_fn.all j_fnk = true := by decide +kernel
theorem j_fs_ok : j_fs.all (fun t => j_w t.2.2 (.fieldLink (j_cnm t.1) t.2.1 "WholePacks" "TENS" "[I")) = true := by decide +kernel
def j_fsw (t : Nat × Nat × Nat × Nat) : Cond := .fieldLinkNest (j_cnm t.1) t.2.1 "WholePacks" "TENS" "[I" (j_cnm t.2.2.1)
theorem j_fsn_ok : j_fsn.all (fun t => decide (lw_tb2[t.2.2.2]? = some (j_fsw t))) = true := by decide +kernel
noncomputable def j_mnm (a : Nat) : MethodName := if a = 9999 then arraycopyName else if a = 9998 then objectInit else match j_meth[a]? with
  | some m => m.1
  | none => arraycopyName
/-- what StringBuilder has of its superclass -/
def j_asb (y : MethodName) : MethodName := ⟨"java/lang/AbstractStringBuilder", y.name, y.desc⟩
theorem j_vu_ok : j_vu.all (fun t => j_w t.2.2.2.2.1 (.methodLink (j_cnm t.1) t.2.1 (j_asb (j_mnm t.2.2.1))) && (j_w t.2.2.2.2.2.1 (.selects "java/lang/StringBuilder" (j_asb (j_mnm t.2.2.1)) (j_mnm t.2.2.1)) && (j_w t.2.2.2.2.2.2 (.sameMethod "java/lang/AbstractStringBuilder" "java/lang/AbstractStringBuilder" (j_mnm t.2.2.1).name (j_mnm t.2.2.1).desc) && ((t.2.2.2.1 == 1 && decide (j_mnm t.2.2.1 = j_asb (j_mnm t.2.2.1))) || (t.2.2.2.1 == 2 && t.2.2.1 == 287))))) = true := by decide +kernel
theorem j_mt_ok : j_mt.all (fun t => j_w t.2.2.2 (.methodLink (j_cnm t.1) t.2.1 (j_mnm t.2.2.1))) = true := by decide +kernel
noncomputable def j_mnw (t : Nat × Nat × Nat × Nat × Nat) : Cond := .methodLinkNest (j_cnm t.1) t.2.1 (j_mnm t.2.2.1) (j_cnm t.2.2.2.1)
theorem j_mn_ok : j_mn.all (fun t => decide (lw_tb2[t.2.2.2.2]? = some (j_mnw t))) = true := by decide +kernel
theorem j_ct_ok : j_ct.all (fun t => decide (t.2.2.1 < 13) && j_w t.2.2.2 (.classLink (j_cnm t.1) t.2.1 (j_cnm t.2.2.1))) = true := by decide +kernel
def j_ktw (t : Nat × Nat × Nat × Int × Nat) : Bool := if t.2.2.1 = 0 then j_w t.2.2.2.2 (.constant (j_cnm t.1) t.2.1 (Int32.ofInt t.2.2.2.1)) && decide ((Int32.ofInt t.2.2.2.1).toInt = t.2.2.2.1) else j_w t.2.2.2.2 (.constantLong (j_cnm t.1) t.2.1 (Int64.ofInt t.2.2.2.1)) && decide ((Int64.ofInt t.2.2.2.1).toInt = t.2.2.2.1)
theorem j_kt_ok : j_kt.all j_ktw = true := by decide +kernel
def j_has (w : Cond) : Bool := lw_tb2.any (fun v => decide (v = w)) && goodWord w
/-- a method's own words -/
def j_mok (y : Nat) (q : j_M) (w : Nat × Nat × Nat × Nat) : Bool := q.2.2.2.2.2.1 == 3 || (j_w w.2.1 (.initialized q.1.cls) && (decide (q.1.cls = j_cnm q.2.2.2.2.1) && ((decide (q.1.cls ≠ "java/lang/invoke/MethodHandle" ∧ q.1.cls ≠ "java/lang/invoke/VarHandle" ∧ (parseMethodDescriptor q.1.desc).map (fun d => d.parameters.length) = some (q.2.2.2.2.2.2 + if y = 277 ∨ y = 282 then 1 else 0)) && (decide (q.2.2.1 ≤ 13) &&
  (match q.2.2.2.2.2.1 with
  | 0 => j_w w.2.2.1 (.instanceMethod q.1) && ((!(decide (q.2.2.2.2.1 < 13) && y != 287) || j_w w.2.2.2 (.selects q.1.cls q.1 q.1)) && (decide (q.1.name ≠ "<init>") && (decide (q.2.2.2.2.1 < 13) || (q.2.2.2.2.1 == 16 && j_has (.sameMethod q.1.cls q.1.cls q.1.name q.1.desc)))))
  | 1 => j_w w.2.2.1 (.static q.1)
  | _ => j_w w.2.2.1 (.instanceMethod q.1) && (decide (q.1.name = "<init>") && decide (q.2.2.2.1 = none))))))))
set_option maxRecDepth 20000 in
theorem j_cw_0 : Cond.code yX0_init cX0_init 1 none ∈ tables_1_1 := List.mem_of_getElem? (i := 215) rfl
set_option maxRecDepth 20000 in
theorem j_cw_1 : Cond.code yX0_clear cX0_clear 1 none ∈ tables_1_3 := List.mem_of_getElem? (i := 59) rfl
set_option maxRecDepth 20000 in
theorem j_cw_2 : Cond.code yX0_formOf cX0_formOf 3 (some .long) ∈ tables_1_3 := List.mem_of_getElem? (i := 125) rfl
set_option maxRecDepth 20000 in
theorem j_cw_4 : Cond.code yX0_make cX0_make 7 (some .boolean) ∈ tables_1_3 := List.mem_of_getElem? (i := 110) rfl
set_option maxRecDepth 20000 in
theorem j_cw_5 : Cond.code yX0_tellIn cX0_tellIn 11 (some .long) ∈ tables_1_3 := List.mem_of_getElem? (i := 114) rfl
set_option maxRecDepth 20000 in
theorem j_cw_7 : Cond.code yX1_init cX1_init 1 none ∈ tables_1_1 := List.mem_of_getElem? (i := 42) rfl
set_option maxRecDepth 20000 in
theorem j_cw_8 : Cond.code yX1_become cX1_become 2 none ∈ tables_1_3 := List.mem_of_getElem? (i := 162) rfl
set_option maxRecDepth 20000 in
theorem j_cw_9 : Cond.code yX1_startAgain cX1_startAgain 2 none ∈ tables_1_2 := List.mem_of_getElem? (i := 180) rfl
set_option maxRecDepth 20000 in
theorem j_cw_10 : Cond.code yX1_addRule cX1_addRule 4 none ∈ tables_1_3 := List.mem_of_getElem? (i := 28) rfl
set_option maxRecDepth 20000 in
theorem j_cw_11 : Cond.code yX1_factorOf cX1_factorOf 3 (some .int) ∈ tables_1_2 := List.mem_of_getElem? (i := 212) rfl
set_option maxRecDepth 20000 in
theorem j_cw_12 : Cond.code yX1_setFactor cX1_setFactor 4 none ∈ tables_1_2 := List.mem_of_getElem? (i := 216) rfl
set_option maxRecDepth 20000 in
theorem j_cw_13 : Cond.code yX1_formOf cX1_formOf 4 (some .int) ∈ tables_1_3 := List.mem_of_getElem? (i := 50) rfl
set_option maxRecDepth 20000 in
theorem j_cw_14 : Cond.code yX1_costOf cX1_costOf 4 (some .int) ∈ tables_1_3 := List.mem_of_getElem? (i := 226) rfl
set_option maxRecDepth 20000 in
theorem j_cw_16 : Cond.code yX1_digitOf cX1_digitOf 5 (some .int) ∈ tables_1_3 := List.mem_of_getElem? (i := 230) rfl
set_option maxRecDepth 20000 in
theorem j_cw_17 : Cond.code yX1_change cX1_change 5 none ∈ tables_1_4 := List.mem_of_getElem? (i := 33) rfl
set_option maxRecDepth 20000 in
theorem j_cw_18 : Cond.code yX1_drawRules cX1_drawRules 6 none ∈ tables_1_3 := List.mem_of_getElem? (i := 203) rfl
set_option maxRecDepth 20000 in
theorem j_cw_19 : Cond.code yX1_stirred cX1_stirred 1 (some .int) ∈ tables_1_3 := List.mem_of_getElem? (i := 207) rfl
set_option maxRecDepth 20000 in
theorem j_cw_20 : Cond.code yX2_init cX2_init 1 none ∈ tables_1_1 := List.mem_of_getElem? (i := 79) rfl
set_option maxRecDepth 20000 in
theorem j_cw_21 : Cond.code yX2_become cX2_become 2 none ∈ tables_1_4 := List.mem_of_getElem? (i := 46) rfl
set_option maxRecDepth 20000 in
theorem j_cw_22 : Cond.code yX2_clear cX2_clear 1 none ∈ tables_1_2 := List.mem_of_getElem? (i := 187) rfl
set_option maxRecDepth 20000 in
theorem j_cw_23 : Cond.code yX2_placeOf cX2_placeOf 3 (some .int) ∈ tables_1_3 := List.mem_of_getElem? (i := 222) rfl
set_option maxRecDepth 20000 in
theorem j_cw_24 : Cond.code yX2_gainOf cX2_gainOf 2 (some .int) ∈ tables_1_4 := List.mem_of_getElem? (i := 14) rfl
set_option maxRecDepth 20000 in
theorem j_cw_25 : Cond.code yX2_insert cX2_insert 5 none ∈ tables_1_3 := List.mem_of_getElem? (i := 234) rfl
set_option maxRecDepth 20000 in
theorem j_cw_27 : Cond.code yX2_isAhead cX2_isAhead 4 (some .boolean) ∈ tables_1_3 := List.mem_of_getElem? (i := 238) rfl
set_option maxRecDepth 20000 in
theorem j_cw_28 : Cond.code yX3_init cX3_init 1 none ∈ tables_1_1 := List.mem_of_getElem? (i := 152) rfl
set_option maxRecDepth 20000 in
theorem j_cw_29 : Cond.code yX3_work cX3_work 5 (some .int) ∈ tables_1_3 := List.mem_of_getElem? (i := 42) rfl
set_option maxRecDepth 20000 in
theorem j_cw_30 : Cond.code yX3_worthOf cX3_worthOf 3 (some .int) ∈ tables_1_3 := List.mem_of_getElem? (i := 167) rfl
set_option maxRecDepth 20000 in
theorem j_cw_31 : Cond.code yX4_init cX4_init 1 none ∈ tables_1_1 := List.mem_of_getElem? (i := 36) rfl
set_option maxRecDepth 20000 in
theorem j_cw_32 : Cond.code yX4_become cX4_become 2 none ∈ tables_1_4 := List.mem_of_getElem? (i := 41) rfl
set_option maxRecDepth 20000 in
theorem j_cw_33 : Cond.code yX4_startAgain cX4_startAgain 2 none ∈ tables_1_2 := List.mem_of_getElem? (i := 176) rfl
set_option maxRecDepth 20000 in
theorem j_cw_34 : Cond.code yX4_addSeen cX4_addSeen 3 none ∈ tables_1_3 := List.mem_of_getElem? (i := 177) rfl
set_option maxRecDepth 20000 in
theorem j_cw_35 : Cond.code yX4_addPlan cX4_addPlan 4 none ∈ tables_1_4 := List.mem_of_getElem? (i := 25) rfl
set_option maxRecDepth 20000 in
theorem j_cw_37 : Cond.code yX5_init cX5_init 1 none ∈ tables_1_1 := List.mem_of_getElem? (i := 158) rfl
set_option maxRecDepth 20000 in
theorem j_cw_38 : Cond.code yX5_start cX5_start 5 none ∈ tables_1_3 := List.mem_of_getElem? (i := 46) rfl
set_option maxRecDepth 20000 in
theorem j_cw_39 : Cond.code yX5_addRow cX5_addRow 6 (some .int) ∈ tables_1_3 := List.mem_of_getElem? (i := 55) rfl
set_option maxRecDepth 20000 in
theorem j_cw_42 : Cond.code yX5_addCut cX5_addCut 5 none ∈ tables_1_3 := List.mem_of_getElem? (i := 132) rfl
set_option maxRecDepth 20000 in
theorem j_cw_43 : Cond.code yX5_restOf cX5_restOf 3 (some .long) ∈ tables_1_3 := List.mem_of_getElem? (i := 103) rfl
set_option maxRecDepth 20000 in
theorem j_cw_44 : Cond.code yX5_wholeOf cX5_wholeOf 3 (some .long) ∈ tables_1_3 := List.mem_of_getElem? (i := 118) rfl
set_option maxRecDepth 20000 in
theorem j_cw_45 : Cond.code yX5_repair cX5_repair 4 (some .int) ∈ tables_1_3 := List.mem_of_getElem? (i := 63) rfl
set_option maxRecDepth 20000 in
theorem j_cw_46 : Cond.code yX5_lowestRow cX5_lowestRow 3 (some .int) ∈ tables_1_3 := List.mem_of_getElem? (i := 67) rfl
set_option maxRecDepth 20000 in
theorem j_cw_47 : Cond.code yX5_nearestColumn cX5_nearestColumn 4 (some .int) ∈ tables_1_3 := List.mem_of_getElem? (i := 71) rfl
set_option maxRecDepth 20000 in
theorem j_cw_48 : Cond.code yX5_isNearer cX5_isNearer 8 (some .boolean) ∈ tables_1_3 := List.mem_of_getElem? (i := 75) rfl
set_option maxRecDepth 20000 in
theorem j_cw_49 : Cond.code yX5_pivot cX5_pivot 6 (some .boolean) ∈ tables_1_3 := List.mem_of_getElem? (i := 79) rfl
set_option maxRecDepth 20000 in
theorem j_cw_50 : Cond.code yX5_freshenRow cX5_freshenRow 11 (some .boolean) ∈ tables_1_3 := List.mem_of_getElem? (i := 83) rfl
set_option maxRecDepth 20000 in
theorem j_cw_51 : Cond.code yX5_mixed cX5_mixed 11 (some .long) ∈ tables_1_3 := List.mem_of_getElem? (i := 87) rfl
set_option maxRecDepth 20000 in
theorem j_cw_52 : Cond.code yX5_rowOf cX5_rowOf 3 (some .int) ∈ tables_1_3 := List.mem_of_getElem? (i := 148) rfl
set_option maxRecDepth 20000 in
theorem j_cw_53 : Cond.code yX5_rightOf cX5_rightOf 3 (some .long) ∈ tables_1_3 := List.mem_of_getElem? (i := 144) rfl
set_option maxRecDepth 20000 in
theorem j_cw_54 : Cond.code yX5_floorOf cX5_floorOf 2 (some .long) ∈ tables_1_3 := List.mem_of_getElem? (i := 189) rfl
set_option maxRecDepth 20000 in
theorem j_cw_56 : Cond.code yX5_partedRow cX5_partedRow 2 (some .int) ∈ tables_1_3 := List.mem_of_getElem? (i := 99) rfl
set_option maxRecDepth 20000 in
theorem j_cw_60 : Cond.code yX6_init cX6_init 1 none ∈ tables_1_2 := List.mem_of_getElem? (i := 112) rfl
set_option maxRecDepth 20000 in
theorem j_cw_61 : Cond.code yX6_lay cX6_lay 4 none ∈ tables_1_4 := List.mem_of_getElem? (i := 67) rfl
set_option maxRecDepth 20000 in
theorem j_cw_62 : Cond.code yX6_trimmed cX6_trimmed 4 (some .long) ∈ tables_1_4 := List.mem_of_getElem? (i := 78) rfl
set_option maxRecDepth 20000 in
theorem j_cw_64 : Cond.code yX7_init cX7_init 1 none ∈ tables_1_2 := List.mem_of_getElem? (i := 77) rfl
set_option maxRecDepth 20000 in
theorem j_cw_65 : Cond.code yX7_findFault cX7_findFault 3 (some .int) ∈ tables_1_2 := List.mem_of_getElem? (i := 235) rfl
set_option maxRecDepth 20000 in
theorem j_cw_66 : Cond.code yX7_addRulesTo cX7_addRulesTo 4 none ∈ tables_1_3 := List.mem_of_getElem? (i := 24) rfl
set_option maxRecDepth 20000 in
theorem j_cw_67 : Cond.code yX7_here cX7_here 1 (some .int) ∈ tables_1_3 := List.mem_of_getElem? (i := 7) rfl
set_option maxRecDepth 20000 in
theorem j_cw_68 : Cond.code yX7_skip cX7_skip 2 (some .boolean) ∈ tables_1_3 := List.mem_of_getElem? (i := 3) rfl
set_option maxRecDepth 20000 in
theorem j_cw_69 : Cond.code yX7_atDigit cX7_atDigit 1 (some .boolean) ∈ tables_1_3 := List.mem_of_getElem? (i := 15) rfl
set_option maxRecDepth 20000 in
theorem j_cw_70 : Cond.code yX7_readClause cX7_readClause 3 (some .boolean) ∈ tables_1_2 := List.mem_of_getElem? (i := 239) rfl
set_option maxRecDepth 20000 in
theorem j_cw_71 : Cond.code yX7_readTerm cX7_readTerm 5 (some .boolean) ∈ tables_1_3 := List.mem_of_getElem? (i := 11) rfl
set_option maxRecDepth 20000 in
theorem j_cw_72 : Cond.code yX7_readBound cX7_readBound 4 (some .boolean) ∈ tables_1_3 := List.mem_of_getElem? (i := 20) rfl
set_option maxRecDepth 20000 in
theorem j_cw_73 : Cond.code yX8_init cX8_init 1 none ∈ tables_1_2 := List.mem_of_getElem? (i := 8) rfl
set_option maxRecDepth 20000 in
theorem j_cw_80 : Cond.code yX9_init cX9_init 1 none ∈ tables_1_2 := List.mem_of_getElem? (i := 49) rfl
set_option maxRecDepth 20000 in
theorem j_cw_87 : Cond.code yX10_init cX10_init 1 none ∈ tables_1_1 := List.mem_of_getElem? (i := 28) rfl
set_option maxRecDepth 20000 in
theorem j_cw_88 : Cond.code yX10_size cX10_size 3 (some .int) ∈ tables_1_2 := List.mem_of_getElem? (i := 172) rfl
set_option maxRecDepth 20000 in
theorem j_cw_89 : Cond.code yX10_cost cX10_cost 4 (some .int) ∈ tables_1_2 := List.mem_of_getElem? (i := 192) rfl
set_option maxRecDepth 20000 in
theorem j_cw_91 : Cond.code yX10_factor cX10_factor 5 (some .int) ∈ tables_1_2 := List.mem_of_getElem? (i := 201) rfl
set_option maxRecDepth 20000 in
theorem j_cw_92 : Cond.code yX10_bound cX10_bound 4 (some .int) ∈ tables_1_2 := List.mem_of_getElem? (i := 220) rfl
set_option maxRecDepth 20000 in
theorem j_cw_93 : Cond.code yX10_less cX10_less 1 (some .int) ∈ tables_1_2 := List.mem_of_getElem? (i := 227) rfl
set_option maxRecDepth 20000 in
theorem j_cw_94 : Cond.code yX10_feed cX10_feed 2 (some .int) ∈ tables_1_4 := List.mem_of_getElem? (i := 138) rfl
set_option maxRecDepth 20000 in
theorem j_cw_95 : Cond.code yX10_read cX10_read 2 (some .int) ∈ tables_1_2 := List.mem_of_getElem? (i := 231) rfl
set_option maxRecDepth 20000 in
theorem j_cw_96 : Cond.code yX10_ruleOf cX10_ruleOf 3 (some .int) ∈ tables_1_3 := List.mem_of_getElem? (i := 34) rfl
set_option maxRecDepth 20000 in
theorem j_cw_97 : Cond.code yX10_solve cX10_solve 2 (some .int) ∈ tables_1_3 := List.mem_of_getElem? (i := 38) rfl
set_option maxRecDepth 20000 in
theorem j_cw_99 : Cond.code yX10_amount cX10_amount 3 (some .long) ∈ tables_1_3 := List.mem_of_getElem? (i := 136) rfl
set_option maxRecDepth 20000 in
theorem j_cw_115 : Cond.code yX10_would cX10_would 3 (some .int) ∈ tables_1_3 := List.mem_of_getElem? (i := 158) rfl
set_option maxRecDepth 20000 in
theorem j_cw_116 : Cond.code yX10_see cX10_see 3 (some .int) ∈ tables_1_3 := List.mem_of_getElem? (i := 173) rfl
set_option maxRecDepth 20000 in
theorem j_cw_117 : Cond.code yX10_fits cX10_fits 6 (some .int) ∈ tables_1_3 := List.mem_of_getElem? (i := 181) rfl
set_option maxRecDepth 20000 in
theorem j_cw_119 : Cond.code yX10_mean cX10_mean 4 (some .long) ∈ tables_1_3 := List.mem_of_getElem? (i := 195) rfl
set_option maxRecDepth 20000 in
theorem j_cw_120 : Cond.code yX10_drawn cX10_drawn 3 (some .int) ∈ tables_1_3 := List.mem_of_getElem? (i := 199) rfl
set_option maxRecDepth 20000 in
theorem j_cw_121 : Cond.code yX10_offer cX10_offer 5 (some .int) ∈ tables_1_3 := List.mem_of_getElem? (i := 212) rfl
set_option maxRecDepth 20000 in
theorem j_cw_122 : Cond.code yX10_offered cX10_offered 3 (some .int) ∈ tables_1_4 := List.mem_of_getElem? (i := 2) rfl
set_option maxRecDepth 20000 in
theorem j_cw_123 : Cond.code yX10_upTo cX10_upTo 4 (some .int) ∈ tables_1_4 := List.mem_of_getElem? (i := 6) rfl
set_option maxRecDepth 20000 in
theorem j_cw_124 : Cond.code yX10_dearest cX10_dearest 3 (some .int) ∈ tables_1_4 := List.mem_of_getElem? (i := 10) rfl
set_option maxRecDepth 20000 in
theorem j_cw_125 : Cond.code yX10_plan cX10_plan 4 (some .int) ∈ tables_1_4 := List.mem_of_getElem? (i := 18) rfl
set_option maxRecDepth 20000 in
theorem j_cw_126 : Cond.code yX10_ends cX10_ends 2 (some .int) ∈ tables_1_4 := List.mem_of_getElem? (i := 29) rfl
set_option maxRecDepth 20000 in
theorem j_cw_128 : Cond.code yX10_image cX10_image 1 (some .int) ∈ tables_1_4 := List.mem_of_getElem? (i := 37) rfl
set_option maxRecDepth 20000 in
theorem j_cw_129 : Cond.code yX10_undo cX10_undo 1 (some .int) ∈ tables_1_4 := List.mem_of_getElem? (i := 52) rfl
set_option maxRecDepth 20000 in
theorem j_cw_130 : Cond.code yX10_count cX10_count 2 (some .int) ∈ tables_1_4 := List.mem_of_getElem? (i := 56) rfl
set_option maxRecDepth 20000 in
theorem j_cw_131 : Cond.code yX10_tape cX10_tape 4 (some .int) ∈ tables_1_4 := List.mem_of_getElem? (i := 60) rfl
set_option maxRecDepth 20000 in
theorem j_cw_132 : Cond.code yX10_item cX10_item 5 (some .int) ∈ tables_1_4 := List.mem_of_getElem? (i := 74) rfl
set_option maxRecDepth 20000 in
theorem j_cw_135 : Cond.code yX10_isPack cX10_isPack 2 (some .boolean) ∈ tables_1_2 := List.mem_of_getElem? (i := 196) rfl
set_option maxRecDepth 20000 in
theorem j_cw_136 : Cond.code yX10_isRule cX10_isRule 2 (some .boolean) ∈ tables_1_2 := List.mem_of_getElem? (i := 205) rfl
set_option maxRecDepth 20000 in
theorem j_cw_138 : Cond.code yX10_isCode cX10_isCode 2 (some .boolean) ∈ tables_1_3 := List.mem_of_getElem? (i := 216) rfl
set_option maxRecDepth 20000 in
theorem j_cw_139 : Cond.code yX10_isBound cX10_isBound 1 (some .boolean) ∈ tables_1_2 := List.mem_of_getElem? (i := 223) rfl
set_option maxRecDepth 20000 in
theorem j_cw_140 : Cond.code yX10_isFactor cX10_isFactor 1 (some .boolean) ∈ tables_1_2 := List.mem_of_getElem? (i := 208) rfl
set_option maxRecDepth 20000 in
theorem j_cw_141 : Cond.code yX10_isPart cX10_isPart 1 (some .boolean) ∈ tables_1_3 := List.mem_of_getElem? (i := 139) rfl
set_option maxRecDepth 20000 in
theorem j_cw_142 : Cond.code yX10_isTape cX10_isTape 1 (some .boolean) ∈ tables_1_4 := List.mem_of_getElem? (i := 63) rfl
set_option maxRecDepth 20000 in
theorem j_cw_143 : Cond.code yX10_isPlanned cX10_isPlanned 2 (some .boolean) ∈ tables_1_4 := List.mem_of_getElem? (i := 21) rfl
set_option maxRecDepth 20000 in
theorem j_cw_144 : Cond.code yX10_isNear cX10_isNear 2 (some .boolean) ∈ tables_1_3 := List.mem_of_getElem? (i := 90) rfl
set_option maxRecDepth 20000 in
theorem j_cw_145 : Cond.code yX10_isSeenSo cX10_isSeenSo 2 (some .boolean) ∈ tables_1_3 := List.mem_of_getElem? (i := 185) rfl
set_option maxRecDepth 20000 in
theorem j_cw_146 : Cond.code yX10_lowest cX10_lowest 12 (some .long) ∈ tables_1_3 := List.mem_of_getElem? (i := 151) rfl
set_option maxRecDepth 20000 in
theorem j_cw_265 : Cond.code yJ9_floorDiv_f86c9 cJ9_floorDiv_f86c9 6 (some .long) ∈ tables_1_3 := List.mem_of_getElem? (i := 121) rfl
set_option maxRecDepth 20000 in
theorem j_cw_266 : Cond.code yJ9_floorMod_f86c9 cJ9_floorMod_f86c9 6 (some .long) ∈ tables_1_3 := List.mem_of_getElem? (i := 106) rfl
set_option maxRecDepth 20000 in
theorem j_cw_267 : Cond.code yJ9_abs_067f4 cJ9_abs_067f4 2 (some .long) ∈ tables_1_3 := List.mem_of_getElem? (i := 154) rfl
set_option maxRecDepth 20000 in
theorem j_cw_268 : Cond.code yJ9_min_7cf53 cJ9_min_7cf53 2 (some .int) ∈ tables_1_4 := List.mem_of_getElem? (i := 211) rfl
set_option maxRecDepth 20000 in
theorem j_cw_269 : Cond.code yJ7_fill_d0a16 cJ7_fill_d0a16 5 none ∈ tables_1_4 := List.mem_of_getElem? (i := 70) rfl
set_option maxRecDepth 20000 in
theorem j_cw_270 : Cond.code yJ7_fill_53178 cJ7_fill_53178 4 none ∈ tables_1_2 := List.mem_of_getElem? (i := 183) rfl
set_option maxRecDepth 20000 in
theorem j_cw_272 : Cond.code yJ0_charAt_5068e cJ0_charAt_5068e 2 (some .char) ∈ tables_1_4 := List.mem_of_getElem? (i := 100) rfl
set_option maxRecDepth 20000 in
theorem j_cw_273 : Cond.code yJ0_checkIndex_df160 cJ0_checkIndex_df160 2 none ∈ tables_1_4 := List.mem_of_getElem? (i := 110) rfl
set_option maxRecDepth 20000 in
theorem j_cw_274 : Cond.code yJ0_coder_7d493 cJ0_coder_7d493 1 (some .byte) ∈ tables_1_4 := List.mem_of_getElem? (i := 94) rfl
set_option maxRecDepth 20000 in
theorem j_cw_275 : Cond.code yJ0_getBytes_840e7 cJ0_getBytes_840e7 4 none ∈ tables_1_5 := List.mem_of_getElem? (i := 25) rfl
set_option maxRecDepth 20000 in
theorem j_cw_276 : Cond.code yJ0_init_81219 cJ0_init_81219 2 none ∈ tables_1_5 := List.mem_of_getElem? (i := 74) rfl
set_option maxRecDepth 20000 in
theorem j_cw_277 : Cond.code yJ0_init_db425 cJ0_init_db425 5 none ∈ tables_1_5 := List.mem_of_getElem? (i := 77) rfl
set_option maxRecDepth 20000 in
theorem j_cw_278 : Cond.code yJ0_isLatin1_aae02 cJ0_isLatin1_aae02 1 (some .boolean) ∈ tables_1_4 := List.mem_of_getElem? (i := 104) rfl
set_option maxRecDepth 20000 in
theorem j_cw_279 : Cond.code yJ0_length_8abf5 cJ0_length_8abf5 1 (some .int) ∈ tables_1_4 := List.mem_of_getElem? (i := 90) rfl
set_option maxRecDepth 20000 in
theorem j_cw_280 : Cond.code yJ1_canEncode_fc78d cJ1_canEncode_fc78d 1 (some .boolean) ∈ tables_1_5 := List.mem_of_getElem? (i := 37) rfl
set_option maxRecDepth 20000 in
theorem j_cw_281 : Cond.code yJ1_charAt_3b067 cJ1_charAt_3b067 2 (some .char) ∈ tables_1_4 := List.mem_of_getElem? (i := 107) rfl
set_option maxRecDepth 20000 in
theorem j_cw_282 : Cond.code yJ3_checkIndex_8e157 cJ3_checkIndex_8e157 3 (some .int) ∈ tables_1_4 := List.mem_of_getElem? (i := 115) rfl
set_option maxRecDepth 20000 in
theorem j_cw_283 : Cond.code yJ4_append_15ec4 cJ4_append_15ec4 2 (some (.object "java/lang/StringBuilder")) ∈ tables_1_4 := List.mem_of_getElem? (i := 172) rfl
set_option maxRecDepth 20000 in
theorem j_cw_284 : Cond.code yJ4_append_bf812 cJ4_append_bf812 2 (some (.object "java/lang/StringBuilder")) ∈ tables_1_5 := List.mem_of_getElem? (i := 44) rfl
set_option maxRecDepth 20000 in
theorem j_cw_285 : Cond.code yJ4_append_cf468 cJ4_append_cf468 2 (some (.object "java/lang/StringBuilder")) ∈ tables_1_5 := List.mem_of_getElem? (i := 31) rfl
set_option maxRecDepth 20000 in
theorem j_cw_286 : Cond.code yJ4_init_da8c8 cJ4_init_da8c8 1 none ∈ tables_1_4 := List.mem_of_getElem? (i := 143) rfl
set_option maxRecDepth 20000 in
theorem j_cw_287 : Cond.code yJ4_length_8abf5 cJ4_length_8abf5 1 (some .int) ∈ tables_1_5 := List.mem_of_getElem? (i := 89) rfl
set_option maxRecDepth 20000 in
theorem j_cw_288 : Cond.code yJ4_toString_0e30d cJ4_toString_0e30d 1 (some (.object "java/lang/String")) ∈ tables_1_5 := List.mem_of_getElem? (i := 69) rfl
set_option maxRecDepth 20000 in
theorem j_cw_289 : Cond.code yJ5_append_3fe6f cJ5_append_3fe6f 2 (some (.object "java/lang/AbstractStringBuilder")) ∈ tables_1_5 := List.mem_of_getElem? (i := 34) rfl
set_option maxRecDepth 20000 in
theorem j_cw_290 : Cond.code yJ5_append_c97b9 cJ5_append_c97b9 4 (some (.object "java/lang/AbstractStringBuilder")) ∈ tables_1_5 := List.mem_of_getElem? (i := 47) rfl
set_option maxRecDepth 20000 in
theorem j_cw_291 : Cond.code yJ5_append_cf1ce cJ5_append_cf1ce 3 (some (.object "java/lang/AbstractStringBuilder")) ∈ tables_1_4 := List.mem_of_getElem? (i := 175) rfl
set_option maxRecDepth 20000 in
theorem j_cw_292 : Cond.code yJ5_ensureCapacityInternal_d00df cJ5_ensureCapacityInternal_d00df 3 none ∈ tables_1_4 := List.mem_of_getElem? (i := 183) rfl
set_option maxRecDepth 20000 in
theorem j_cw_293 : Cond.code yJ5_getValue_6d5f1 cJ5_getValue_6d5f1 1 (some (.array .byte)) ∈ tables_1_5 := List.mem_of_getElem? (i := 83) rfl
set_option maxRecDepth 20000 in
theorem j_cw_294 : Cond.code yJ5_inflateIfNeededFor_a7421 cJ5_inflateIfNeededFor_a7421 2 none ∈ tables_1_5 := List.mem_of_getElem? (i := 1) rfl
set_option maxRecDepth 20000 in
theorem j_cw_295 : Cond.code yJ5_init_d00df cJ5_init_d00df 2 none ∈ tables_1_4 := List.mem_of_getElem? (i := 146) rfl
set_option maxRecDepth 20000 in
theorem j_cw_296 : Cond.code yJ5_isLatin1_aae02 cJ5_isLatin1_aae02 1 (some .boolean) ∈ tables_1_4 := List.mem_of_getElem? (i := 217) rfl
set_option maxRecDepth 20000 in
theorem j_cw_297 : Cond.code yJ5_length_8abf5 cJ5_length_8abf5 1 (some .int) ∈ tables_1_5 := List.mem_of_getElem? (i := 91) rfl
set_option maxRecDepth 20000 in
theorem j_cw_298 : Cond.code yJ5_newCapacity_0f7a4 cJ5_newCapacity_0f7a4 6 (some .int) ∈ tables_1_4 := List.mem_of_getElem? (i := 187) rfl
set_option maxRecDepth 20000 in
theorem j_cw_299 : Cond.code yJ5_putStringAt_47b60 cJ5_putStringAt_47b60 3 none ∈ tables_1_4 := List.mem_of_getElem? (i := 237) rfl
set_option maxRecDepth 20000 in
theorem j_cw_300 : Cond.code yJ6_getChars_ba4f3 cJ6_getChars_ba4f3 7 (some .int) ∈ tables_1_5 := List.mem_of_getElem? (i := 53) rfl
set_option maxRecDepth 20000 in
theorem j_cw_301 : Cond.code yJ6_stringSize_0f7a4 cJ6_stringSize_0f7a4 4 (some .int) ∈ tables_1_5 := List.mem_of_getElem? (i := 50) rfl
set_option maxRecDepth 20000 in
theorem j_cw_302 : Cond.code yJ7_checkLength_df160 cJ7_checkLength_df160 2 none ∈ tables_1_5 := List.mem_of_getElem? (i := 101) rfl
set_option maxRecDepth 20000 in
theorem j_cw_303 : Cond.code yJ7_copyOfRangeByte_39247 cJ7_copyOfRangeByte_39247 5 (some (.array .byte)) ∈ tables_1_5 := List.mem_of_getElem? (i := 98) rfl
set_option maxRecDepth 20000 in
theorem j_cw_304 : Cond.code yJ7_copyOfRange_39247 cJ7_copyOfRange_39247 3 (some (.array .byte)) ∈ tables_1_5 := List.mem_of_getElem? (i := 95) rfl
set_option maxRecDepth 20000 in
theorem j_cw_305 : Cond.code yJ7_copyOf_9075b cJ7_copyOf_9075b 3 (some (.array .byte)) ∈ tables_1_4 := List.mem_of_getElem? (i := 201) rfl
set_option maxRecDepth 20000 in
theorem j_cw_306 : Cond.code yJ8_newLength_cabcc cJ8_newLength_cabcc 4 (some .int) ∈ tables_1_4 := List.mem_of_getElem? (i := 190) rfl
set_option maxRecDepth 20000 in
theorem j_cw_307 : Cond.code yJ9_max_7cf53 cJ9_max_7cf53 2 (some .int) ∈ tables_1_4 := List.mem_of_getElem? (i := 193) rfl
set_option maxRecDepth 20000 in
theorem j_cw_308 : Cond.code yL_cell cL_cell 3 (some .int) ∈ tables_1_4 := List.mem_of_getElem? (i := 81) rfl
set_option maxRecDepth 20000 in
theorem j_cw_309 : Cond.code yL_feeds cL_feeds 4 (some .boolean) ∈ tables_1_4 := List.mem_of_getElem? (i := 86) rfl
theorem j_tab {w : Cond} (k : Nat) (h : w ∈ [tables_1_1, tables_1_2, tables_1_3, tables_1_4, tables_1_5][k]?.getD []) : w ∈ lw_tb2 := by
  refine List.mem_append_right _ (List.mem_append_right _ ?_)
  unfold tables_1
  match k, h with
  | 0, h => exact List.mem_append_left _ h
  | 1, h => exact List.mem_append_right _ (List.mem_append_left _ h)
  | 2, h => exact List.mem_append_right _ (List.mem_append_right _ (List.mem_append_left _ h))
  | 3, h => exact List.mem_append_right _ (List.mem_append_right _ (List.mem_append_right _ (List.mem_append_left _ h)))
  | 4, h => exact List.mem_append_right _ (List.mem_append_right _ (List.mem_append_right _ (List.mem_append_right _ (h))))
  | k + 5, h => exact absurd h (by simp)
theorem j_cw_all : ∀ (y : Nat) (q : j_M), j_meth[y]? = some q → y ≠ 271 → q.2.2.2.2.2.1 ≠ 3 → Cond.code q.1 q.2.1 q.2.2.1 q.2.2.2.1 ∈ lw_tb2 := fun y q h hy h3 => match y, h, hy, h3 with
  | 0, h, _, _ => by cases Option.some.inj ((rfl : j_meth[0]? = some _).symm.trans h); exact j_tab 0 j_cw_0
  | 1, h, _, _ => by cases Option.some.inj ((rfl : j_meth[1]? = some _).symm.trans h); exact j_tab 2 j_cw_1
  | 2, h, _, _ => by cases Option.some.inj ((rfl : j_meth[2]? = some _).symm.trans h); exact j_tab 2 j_cw_2
  | 3, h, _, h3 => by cases Option.some.inj ((rfl : j_meth[3]? = some _).symm.trans h); exact absurd rfl h3
  | 4, h, _, _ => by cases Option.some.inj ((rfl : j_meth[4]? = some _).symm.trans h); exact j_tab 2 j_cw_4
  | 5, h, _, _ => by cases Option.some.inj ((rfl : j_meth[5]? = some _).symm.trans h); exact j_tab 2 j_cw_5
  | 6, h, _, h3 => by cases Option.some.inj ((rfl : j_meth[6]? = some _).symm.trans h); exact absurd rfl h3
  | 7, h, _, _ => by cases Option.some.inj ((rfl : j_meth[7]? = some _).symm.trans h); exact j_tab 0 j_cw_7
  | 8, h, _, _ => by cases Option.some.inj ((rfl : j_meth[8]? = some _).symm.trans h); exact j_tab 2 j_cw_8
  | 9, h, _, _ => by cases Option.some.inj ((rfl : j_meth[9]? = some _).symm.trans h); exact j_tab 1 j_cw_9
  | 10, h, _, _ => by cases Option.some.inj ((rfl : j_meth[10]? = some _).symm.trans h); exact j_tab 2 j_cw_10
  | 11, h, _, _ => by cases Option.some.inj ((rfl : j_meth[11]? = some _).symm.trans h); exact j_tab 1 j_cw_11
  | 12, h, _, _ => by cases Option.some.inj ((rfl : j_meth[12]? = some _).symm.trans h); exact j_tab 1 j_cw_12
  | 13, h, _, _ => by cases Option.some.inj ((rfl : j_meth[13]? = some _).symm.trans h); exact j_tab 2 j_cw_13
  | 14, h, _, _ => by cases Option.some.inj ((rfl : j_meth[14]? = some _).symm.trans h); exact j_tab 2 j_cw_14
  | 15, h, _, h3 => by cases Option.some.inj ((rfl : j_meth[15]? = some _).symm.trans h); exact absurd rfl h3
  | 16, h, _, _ => by cases Option.some.inj ((rfl : j_meth[16]? = some _).symm.trans h); exact j_tab 2 j_cw_16
  | 17, h, _, _ => by cases Option.some.inj ((rfl : j_meth[17]? = some _).symm.trans h); exact j_tab 3 j_cw_17
  | 18, h, _, _ => by cases Option.some.inj ((rfl : j_meth[18]? = some _).symm.trans h); exact j_tab 2 j_cw_18
  | 19, h, _, _ => by cases Option.some.inj ((rfl : j_meth[19]? = some _).symm.trans h); exact j_tab 2 j_cw_19
  | 20, h, _, _ => by cases Option.some.inj ((rfl : j_meth[20]? = some _).symm.trans h); exact j_tab 0 j_cw_20
  | 21, h, _, _ => by cases Option.some.inj ((rfl : j_meth[21]? = some _).symm.trans h); exact j_tab 3 j_cw_21
  | 22, h, _, _ => by cases Option.some.inj ((rfl : j_meth[22]? = some _).symm.trans h); exact j_tab 1 j_cw_22
  | 23, h, _, _ => by cases Option.some.inj ((rfl : j_meth[23]? = some _).symm.trans h); exact j_tab 2 j_cw_23
  | 24, h, _, _ => by cases Option.some.inj ((rfl : j_meth[24]? = some _).symm.trans h); exact j_tab 3 j_cw_24
  | 25, h, _, _ => by cases Option.some.inj ((rfl : j_meth[25]? = some _).symm.trans h); exact j_tab 2 j_cw_25
  | 26, h, _, h3 => by cases Option.some.inj ((rfl : j_meth[26]? = some _).symm.trans h); exact absurd rfl h3
  | 27, h, _, _ => by cases Option.some.inj ((rfl : j_meth[27]? = some _).symm.trans h); exact j_tab 2 j_cw_27
  | 28, h, _, _ => by cases Option.some.inj ((rfl : j_meth[28]? = some _).symm.trans h); exact j_tab 0 j_cw_28
  | 29, h, _, _ => by cases Option.some.inj ((rfl : j_meth[29]? = some _).symm.trans h); exact j_tab 2 j_cw_29
  | 30, h, _, _ => by cases Option.some.inj ((rfl : j_meth[30]? = some _).symm.trans h); exact j_tab 2 j_cw_30
  | 31, h, _, _ => by cases Option.some.inj ((rfl : j_meth[31]? = some _).symm.trans h); exact j_tab 0 j_cw_31
  | 32, h, _, _ => by cases Option.some.inj ((rfl : j_meth[32]? = some _).symm.trans h); exact j_tab 3 j_cw_32
  | 33, h, _, _ => by cases Option.some.inj ((rfl : j_meth[33]? = some _).symm.trans h); exact j_tab 1 j_cw_33
  | 34, h, _, _ => by cases Option.some.inj ((rfl : j_meth[34]? = some _).symm.trans h); exact j_tab 2 j_cw_34
  | 35, h, _, _ => by cases Option.some.inj ((rfl : j_meth[35]? = some _).symm.trans h); exact j_tab 3 j_cw_35
  | 36, h, _, h3 => by cases Option.some.inj ((rfl : j_meth[36]? = some _).symm.trans h); exact absurd rfl h3
  | 37, h, _, _ => by cases Option.some.inj ((rfl : j_meth[37]? = some _).symm.trans h); exact j_tab 0 j_cw_37
  | 38, h, _, _ => by cases Option.some.inj ((rfl : j_meth[38]? = some _).symm.trans h); exact j_tab 2 j_cw_38
  | 39, h, _, _ => by cases Option.some.inj ((rfl : j_meth[39]? = some _).symm.trans h); exact j_tab 2 j_cw_39
  | 40, h, _, h3 => by cases Option.some.inj ((rfl : j_meth[40]? = some _).symm.trans h); exact absurd rfl h3
  | 41, h, _, h3 => by cases Option.some.inj ((rfl : j_meth[41]? = some _).symm.trans h); exact absurd rfl h3
  | 42, h, _, _ => by cases Option.some.inj ((rfl : j_meth[42]? = some _).symm.trans h); exact j_tab 2 j_cw_42
  | 43, h, _, _ => by cases Option.some.inj ((rfl : j_meth[43]? = some _).symm.trans h); exact j_tab 2 j_cw_43
  | 44, h, _, _ => by cases Option.some.inj ((rfl : j_meth[44]? = some _).symm.trans h); exact j_tab 2 j_cw_44
  | 45, h, _, _ => by cases Option.some.inj ((rfl : j_meth[45]? = some _).symm.trans h); exact j_tab 2 j_cw_45
  | 46, h, _, _ => by cases Option.some.inj ((rfl : j_meth[46]? = some _).symm.trans h); exact j_tab 2 j_cw_46
  | 47, h, _, _ => by cases Option.some.inj ((rfl : j_meth[47]? = some _).symm.trans h); exact j_tab 2 j_cw_47
  | 48, h, _, _ => by cases Option.some.inj ((rfl : j_meth[48]? = some _).symm.trans h); exact j_tab 2 j_cw_48
  | 49, h, _, _ => by cases Option.some.inj ((rfl : j_meth[49]? = some _).symm.trans h); exact j_tab 2 j_cw_49
  | 50, h, _, _ => by cases Option.some.inj ((rfl : j_meth[50]? = some _).symm.trans h); exact j_tab 2 j_cw_50
  | 51, h, _, _ => by cases Option.some.inj ((rfl : j_meth[51]? = some _).symm.trans h); exact j_tab 2 j_cw_51
  | 52, h, _, _ => by cases Option.some.inj ((rfl : j_meth[52]? = some _).symm.trans h); exact j_tab 2 j_cw_52
  | 53, h, _, _ => by cases Option.some.inj ((rfl : j_meth[53]? = some _).symm.trans h); exact j_tab 2 j_cw_53
  | 54, h, _, _ => by cases Option.some.inj ((rfl : j_meth[54]? = some _).symm.trans h); exact j_tab 2 j_cw_54
  | 55, h, _, h3 => by cases Option.some.inj ((rfl : j_meth[55]? = some _).symm.trans h); exact absurd rfl h3
  | 56, h, _, _ => by cases Option.some.inj ((rfl : j_meth[56]? = some _).symm.trans h); exact j_tab 2 j_cw_56
  | 57, h, _, h3 => by cases Option.some.inj ((rfl : j_meth[57]? = some _).symm.trans h); exact absurd rfl h3
  | 58, h, _, h3 => by cases Option.some.inj ((rfl : j_meth[58]? = some _).symm.trans h); exact absurd rfl h3
  | 59, h, _, h3 => by cases Option.some.inj ((rfl : j_meth[59]? = some _).symm.trans h); exact absurd rfl h3
  | 60, h, _, _ => by cases Option.some.inj ((rfl : j_meth[60]? = some _).symm.trans h); exact j_tab 1 j_cw_60
  | 61, h, _, _ => by cases Option.some.inj ((rfl : j_meth[61]? = some _).symm.trans h); exact j_tab 3 j_cw_61
  | 62, h, _, _ => by cases Option.some.inj ((rfl : j_meth[62]? = some _).symm.trans h); exact j_tab 3 j_cw_62
  | 63, h, _, h3 => by cases Option.some.inj ((rfl : j_meth[63]? = some _).symm.trans h); exact absurd rfl h3
  | 64, h, _, _ => by cases Option.some.inj ((rfl : j_meth[64]? = some _).symm.trans h); exact j_tab 1 j_cw_64
  | 65, h, _, _ => by cases Option.some.inj ((rfl : j_meth[65]? = some _).symm.trans h); exact j_tab 1 j_cw_65
  | 66, h, _, _ => by cases Option.some.inj ((rfl : j_meth[66]? = some _).symm.trans h); exact j_tab 2 j_cw_66
  | 67, h, _, _ => by cases Option.some.inj ((rfl : j_meth[67]? = some _).symm.trans h); exact j_tab 2 j_cw_67
  | 68, h, _, _ => by cases Option.some.inj ((rfl : j_meth[68]? = some _).symm.trans h); exact j_tab 2 j_cw_68
  | 69, h, _, _ => by cases Option.some.inj ((rfl : j_meth[69]? = some _).symm.trans h); exact j_tab 2 j_cw_69
  | 70, h, _, _ => by cases Option.some.inj ((rfl : j_meth[70]? = some _).symm.trans h); exact j_tab 1 j_cw_70
  | 71, h, _, _ => by cases Option.some.inj ((rfl : j_meth[71]? = some _).symm.trans h); exact j_tab 2 j_cw_71
  | 72, h, _, _ => by cases Option.some.inj ((rfl : j_meth[72]? = some _).symm.trans h); exact j_tab 2 j_cw_72
  | 73, h, _, _ => by cases Option.some.inj ((rfl : j_meth[73]? = some _).symm.trans h); exact j_tab 1 j_cw_73
  | 74, h, _, h3 => by cases Option.some.inj ((rfl : j_meth[74]? = some _).symm.trans h); exact absurd rfl h3
  | 75, h, _, h3 => by cases Option.some.inj ((rfl : j_meth[75]? = some _).symm.trans h); exact absurd rfl h3
  | 76, h, _, h3 => by cases Option.some.inj ((rfl : j_meth[76]? = some _).symm.trans h); exact absurd rfl h3
  | 77, h, _, h3 => by cases Option.some.inj ((rfl : j_meth[77]? = some _).symm.trans h); exact absurd rfl h3
  | 78, h, _, h3 => by cases Option.some.inj ((rfl : j_meth[78]? = some _).symm.trans h); exact absurd rfl h3
  | 79, h, _, h3 => by cases Option.some.inj ((rfl : j_meth[79]? = some _).symm.trans h); exact absurd rfl h3
  | 80, h, _, _ => by cases Option.some.inj ((rfl : j_meth[80]? = some _).symm.trans h); exact j_tab 1 j_cw_80
  | 81, h, _, h3 => by cases Option.some.inj ((rfl : j_meth[81]? = some _).symm.trans h); exact absurd rfl h3
  | 82, h, _, h3 => by cases Option.some.inj ((rfl : j_meth[82]? = some _).symm.trans h); exact absurd rfl h3
  | 83, h, _, h3 => by cases Option.some.inj ((rfl : j_meth[83]? = some _).symm.trans h); exact absurd rfl h3
  | 84, h, _, h3 => by cases Option.some.inj ((rfl : j_meth[84]? = some _).symm.trans h); exact absurd rfl h3
  | 85, h, _, h3 => by cases Option.some.inj ((rfl : j_meth[85]? = some _).symm.trans h); exact absurd rfl h3
  | 86, h, _, h3 => by cases Option.some.inj ((rfl : j_meth[86]? = some _).symm.trans h); exact absurd rfl h3
  | 87, h, _, _ => by cases Option.some.inj ((rfl : j_meth[87]? = some _).symm.trans h); exact j_tab 0 j_cw_87
  | 88, h, _, _ => by cases Option.some.inj ((rfl : j_meth[88]? = some _).symm.trans h); exact j_tab 1 j_cw_88
  | 89, h, _, _ => by cases Option.some.inj ((rfl : j_meth[89]? = some _).symm.trans h); exact j_tab 1 j_cw_89
  | 90, h, _, h3 => by cases Option.some.inj ((rfl : j_meth[90]? = some _).symm.trans h); exact absurd rfl h3
  | 91, h, _, _ => by cases Option.some.inj ((rfl : j_meth[91]? = some _).symm.trans h); exact j_tab 1 j_cw_91
  | 92, h, _, _ => by cases Option.some.inj ((rfl : j_meth[92]? = some _).symm.trans h); exact j_tab 1 j_cw_92
  | 93, h, _, _ => by cases Option.some.inj ((rfl : j_meth[93]? = some _).symm.trans h); exact j_tab 1 j_cw_93
  | 94, h, _, _ => by cases Option.some.inj ((rfl : j_meth[94]? = some _).symm.trans h); exact j_tab 3 j_cw_94
  | 95, h, _, _ => by cases Option.some.inj ((rfl : j_meth[95]? = some _).symm.trans h); exact j_tab 1 j_cw_95
  | 96, h, _, _ => by cases Option.some.inj ((rfl : j_meth[96]? = some _).symm.trans h); exact j_tab 2 j_cw_96
  | 97, h, _, _ => by cases Option.some.inj ((rfl : j_meth[97]? = some _).symm.trans h); exact j_tab 2 j_cw_97
  | 98, h, _, h3 => by cases Option.some.inj ((rfl : j_meth[98]? = some _).symm.trans h); exact absurd rfl h3
  | 99, h, _, _ => by cases Option.some.inj ((rfl : j_meth[99]? = some _).symm.trans h); exact j_tab 2 j_cw_99
  | 100, h, _, h3 => by cases Option.some.inj ((rfl : j_meth[100]? = some _).symm.trans h); exact absurd rfl h3
  | 101, h, _, h3 => by cases Option.some.inj ((rfl : j_meth[101]? = some _).symm.trans h); exact absurd rfl h3
  | 102, h, _, h3 => by cases Option.some.inj ((rfl : j_meth[102]? = some _).symm.trans h); exact absurd rfl h3
  | 103, h, _, h3 => by cases Option.some.inj ((rfl : j_meth[103]? = some _).symm.trans h); exact absurd rfl h3
  | 104, h, _, h3 => by cases Option.some.inj ((rfl : j_meth[104]? = some _).symm.trans h); exact absurd rfl h3
  | 105, h, _, h3 => by cases Option.some.inj ((rfl : j_meth[105]? = some _).symm.trans h); exact absurd rfl h3
  | 106, h, _, h3 => by cases Option.some.inj ((rfl : j_meth[106]? = some _).symm.trans h); exact absurd rfl h3
  | 107, h, _, h3 => by cases Option.some.inj ((rfl : j_meth[107]? = some _).symm.trans h); exact absurd rfl h3
  | 108, h, _, h3 => by cases Option.some.inj ((rfl : j_meth[108]? = some _).symm.trans h); exact absurd rfl h3
  | 109, h, _, h3 => by cases Option.some.inj ((rfl : j_meth[109]? = some _).symm.trans h); exact absurd rfl h3
  | 110, h, _, h3 => by cases Option.some.inj ((rfl : j_meth[110]? = some _).symm.trans h); exact absurd rfl h3
  | 111, h, _, h3 => by cases Option.some.inj ((rfl : j_meth[111]? = some _).symm.trans h); exact absurd rfl h3
  | 112, h, _, h3 => by cases Option.some.inj ((rfl : j_meth[112]? = some _).symm.trans h); exact absurd rfl h3
  | 113, h, _, h3 => by cases Option.some.inj ((rfl : j_meth[113]? = some _).symm.trans h); exact absurd rfl h3
  | 114, h, _, h3 => by cases Option.some.inj ((rfl : j_meth[114]? = some _).symm.trans h); exact absurd rfl h3
  | 115, h, _, _ => by cases Option.some.inj ((rfl : j_meth[115]? = some _).symm.trans h); exact j_tab 2 j_cw_115
  | 116, h, _, _ => by cases Option.some.inj ((rfl : j_meth[116]? = some _).symm.trans h); exact j_tab 2 j_cw_116
  | 117, h, _, _ => by cases Option.some.inj ((rfl : j_meth[117]? = some _).symm.trans h); exact j_tab 2 j_cw_117
  | 118, h, _, h3 => by cases Option.some.inj ((rfl : j_meth[118]? = some _).symm.trans h); exact absurd rfl h3
  | 119, h, _, _ => by cases Option.some.inj ((rfl : j_meth[119]? = some _).symm.trans h); exact j_tab 2 j_cw_119
  | 120, h, _, _ => by cases Option.some.inj ((rfl : j_meth[120]? = some _).symm.trans h); exact j_tab 2 j_cw_120
  | 121, h, _, _ => by cases Option.some.inj ((rfl : j_meth[121]? = some _).symm.trans h); exact j_tab 2 j_cw_121
  | 122, h, _, _ => by cases Option.some.inj ((rfl : j_meth[122]? = some _).symm.trans h); exact j_tab 3 j_cw_122
  | 123, h, _, _ => by cases Option.some.inj ((rfl : j_meth[123]? = some _).symm.trans h); exact j_tab 3 j_cw_123
  | 124, h, _, _ => by cases Option.some.inj ((rfl : j_meth[124]? = some _).symm.trans h); exact j_tab 3 j_cw_124
  | 125, h, _, _ => by cases Option.some.inj ((rfl : j_meth[125]? = some _).symm.trans h); exact j_tab 3 j_cw_125
  | 126, h, _, _ => by cases Option.some.inj ((rfl : j_meth[126]? = some _).symm.trans h); exact j_tab 3 j_cw_126
  | 127, h, _, h3 => by cases Option.some.inj ((rfl : j_meth[127]? = some _).symm.trans h); exact absurd rfl h3
  | 128, h, _, _ => by cases Option.some.inj ((rfl : j_meth[128]? = some _).symm.trans h); exact j_tab 3 j_cw_128
  | 129, h, _, _ => by cases Option.some.inj ((rfl : j_meth[129]? = some _).symm.trans h); exact j_tab 3 j_cw_129
  | 130, h, _, _ => by cases Option.some.inj ((rfl : j_meth[130]? = some _).symm.trans h); exact j_tab 3 j_cw_130
  | 131, h, _, _ => by cases Option.some.inj ((rfl : j_meth[131]? = some _).symm.trans h); exact j_tab 3 j_cw_131
  | 132, h, _, _ => by cases Option.some.inj ((rfl : j_meth[132]? = some _).symm.trans h); exact j_tab 3 j_cw_132
  | 133, h, _, h3 => by cases Option.some.inj ((rfl : j_meth[133]? = some _).symm.trans h); exact absurd rfl h3
  | 134, h, _, h3 => by cases Option.some.inj ((rfl : j_meth[134]? = some _).symm.trans h); exact absurd rfl h3
  | 135, h, _, _ => by cases Option.some.inj ((rfl : j_meth[135]? = some _).symm.trans h); exact j_tab 1 j_cw_135
  | 136, h, _, _ => by cases Option.some.inj ((rfl : j_meth[136]? = some _).symm.trans h); exact j_tab 1 j_cw_136
  | 137, h, _, h3 => by cases Option.some.inj ((rfl : j_meth[137]? = some _).symm.trans h); exact absurd rfl h3
  | 138, h, _, _ => by cases Option.some.inj ((rfl : j_meth[138]? = some _).symm.trans h); exact j_tab 2 j_cw_138
  | 139, h, _, _ => by cases Option.some.inj ((rfl : j_meth[139]? = some _).symm.trans h); exact j_tab 1 j_cw_139
  | 140, h, _, _ => by cases Option.some.inj ((rfl : j_meth[140]? = some _).symm.trans h); exact j_tab 1 j_cw_140
  | 141, h, _, _ => by cases Option.some.inj ((rfl : j_meth[141]? = some _).symm.trans h); exact j_tab 2 j_cw_141
  | 142, h, _, _ => by cases Option.some.inj ((rfl : j_meth[142]? = some _).symm.trans h); exact j_tab 3 j_cw_142
  | 143, h, _, _ => by cases Option.some.inj ((rfl : j_meth[143]? = some _).symm.trans h); exact j_tab 3 j_cw_143
  | 144, h, _, _ => by cases Option.some.inj ((rfl : j_meth[144]? = some _).symm.trans h); exact j_tab 2 j_cw_144
  | 145, h, _, _ => by cases Option.some.inj ((rfl : j_meth[145]? = some _).symm.trans h); exact j_tab 2 j_cw_145
  | 146, h, _, _ => by cases Option.some.inj ((rfl : j_meth[146]? = some _).symm.trans h); exact j_tab 2 j_cw_146
  | 147, h, _, h3 => by cases Option.some.inj ((rfl : j_meth[147]? = some _).symm.trans h); exact absurd rfl h3
  | 148, h, _, h3 => by cases Option.some.inj ((rfl : j_meth[148]? = some _).symm.trans h); exact absurd rfl h3
  | 149, h, _, h3 => by cases Option.some.inj ((rfl : j_meth[149]? = some _).symm.trans h); exact absurd rfl h3
  | 150, h, _, h3 => by cases Option.some.inj ((rfl : j_meth[150]? = some _).symm.trans h); exact absurd rfl h3
  | 151, h, _, h3 => by cases Option.some.inj ((rfl : j_meth[151]? = some _).symm.trans h); exact absurd rfl h3
  | 152, h, _, h3 => by cases Option.some.inj ((rfl : j_meth[152]? = some _).symm.trans h); exact absurd rfl h3
  | 153, h, _, h3 => by cases Option.some.inj ((rfl : j_meth[153]? = some _).symm.trans h); exact absurd rfl h3
  | 154, h, _, h3 => by cases Option.some.inj ((rfl : j_meth[154]? = some _).symm.trans h); exact absurd rfl h3
  | 155, h, _, h3 => by cases Option.some.inj ((rfl : j_meth[155]? = some _).symm.trans h); exact absurd rfl h3
  | 156, h, _, h3 => by cases Option.some.inj ((rfl : j_meth[156]? = some _).symm.trans h); exact absurd rfl h3
  | 157, h, _, h3 => by cases Option.some.inj ((rfl : j_meth[157]? = some _).symm.trans h); exact absurd rfl h3
  | 158, h, _, h3 => by cases Option.some.inj ((rfl : j_meth[158]? = some _).symm.trans h); exact absurd rfl h3
  | 159, h, _, h3 => by cases Option.some.inj ((rfl : j_meth[159]? = some _).symm.trans h); exact absurd rfl h3
  | 160, h, _, h3 => by cases Option.some.inj ((rfl : j_meth[160]? = some _).symm.trans h); exact absurd rfl h3
  | 161, h, _, h3 => by cases Option.some.inj ((rfl : j_meth[161]? = some _).symm.trans h); exact absurd rfl h3
  | 162, h, _, h3 => by cases Option.some.inj ((rfl : j_meth[162]? = some _).symm.trans h); exact absurd rfl h3
  | 163, h, _, h3 => by cases Option.some.inj ((rfl : j_meth[163]? = some _).symm.trans h); exact absurd rfl h3
  | 164, h, _, h3 => by cases Option.some.inj ((rfl : j_meth[164]? = some _).symm.trans h); exact absurd rfl h3
  | 165, h, _, h3 => by cases Option.some.inj ((rfl : j_meth[165]? = some _).symm.trans h); exact absurd rfl h3
  | 166, h, _, h3 => by cases Option.some.inj ((rfl : j_meth[166]? = some _).symm.trans h); exact absurd rfl h3
  | 167, h, _, h3 => by cases Option.some.inj ((rfl : j_meth[167]? = some _).symm.trans h); exact absurd rfl h3
  | 168, h, _, h3 => by cases Option.some.inj ((rfl : j_meth[168]? = some _).symm.trans h); exact absurd rfl h3
  | 169, h, _, h3 => by cases Option.some.inj ((rfl : j_meth[169]? = some _).symm.trans h); exact absurd rfl h3
  | 170, h, _, h3 => by cases Option.some.inj ((rfl : j_meth[170]? = some _).symm.trans h); exact absurd rfl h3
  | 171, h, _, h3 => by cases Option.some.inj ((rfl : j_meth[171]? = some _).symm.trans h); exact absurd rfl h3
  | 172, h, _, h3 => by cases Option.some.inj ((rfl : j_meth[172]? = some _).symm.trans h); exact absurd rfl h3
  | 173, h, _, h3 => by cases Option.some.inj ((rfl : j_meth[173]? = some _).symm.trans h); exact absurd rfl h3
  | 174, h, _, h3 => by cases Option.some.inj ((rfl : j_meth[174]? = some _).symm.trans h); exact absurd rfl h3
  | 175, h, _, h3 => by cases Option.some.inj ((rfl : j_meth[175]? = some _).symm.trans h); exact absurd rfl h3
  | 176, h, _, h3 => by cases Option.some.inj ((rfl : j_meth[176]? = some _).symm.trans h); exact absurd rfl h3
  | 177, h, _, h3 => by cases Option.some.inj ((rfl : j_meth[177]? = some _).symm.trans h); exact absurd rfl h3
  | 178, h, _, h3 => by cases Option.some.inj ((rfl : j_meth[178]? = some _).symm.trans h); exact absurd rfl h3
  | 179, h, _, h3 => by cases Option.some.inj ((rfl : j_meth[179]? = some _).symm.trans h); exact absurd rfl h3
  | 180, h, _, h3 => by cases Option.some.inj ((rfl : j_meth[180]? = some _).symm.trans h); exact absurd rfl h3
  | 181, h, _, h3 => by cases Option.some.inj ((rfl : j_meth[181]? = some _).symm.trans h); exact absurd rfl h3
  | 182, h, _, h3 => by cases Option.some.inj ((rfl : j_meth[182]? = some _).symm.trans h); exact absurd rfl h3
  | 183, h, _, h3 => by cases Option.some.inj ((rfl : j_meth[183]? = some _).symm.trans h); exact absurd rfl h3
  | 184, h, _, h3 => by cases Option.some.inj ((rfl : j_meth[184]? = some _).symm.trans h); exact absurd rfl h3
  | 185, h, _, h3 => by cases Option.some.inj ((rfl : j_meth[185]? = some _).symm.trans h); exact absurd rfl h3
  | 186, h, _, h3 => by cases Option.some.inj ((rfl : j_meth[186]? = some _).symm.trans h); exact absurd rfl h3
  | 187, h, _, h3 => by cases Option.some.inj ((rfl : j_meth[187]? = some _).symm.trans h); exact absurd rfl h3
  | 188, h, _, h3 => by cases Option.some.inj ((rfl : j_meth[188]? = some _).symm.trans h); exact absurd rfl h3
  | 189, h, _, h3 => by cases Option.some.inj ((rfl : j_meth[189]? = some _).symm.trans h); exact absurd rfl h3
  | 190, h, _, h3 => by cases Option.some.inj ((rfl : j_meth[190]? = some _).symm.trans h); exact absurd rfl h3
  | 191, h, _, h3 => by cases Option.some.inj ((rfl : j_meth[191]? = some _).symm.trans h); exact absurd rfl h3
  | 192, h, _, h3 => by cases Option.some.inj ((rfl : j_meth[192]? = some _).symm.trans h); exact absurd rfl h3
  | 193, h, _, h3 => by cases Option.some.inj ((rfl : j_meth[193]? = some _).symm.trans h); exact absurd rfl h3
  | 194, h, _, h3 => by cases Option.some.inj ((rfl : j_meth[194]? = some _).symm.trans h); exact absurd rfl h3
  | 195, h, _, h3 => by cases Option.some.inj ((rfl : j_meth[195]? = some _).symm.trans h); exact absurd rfl h3
  | 196, h, _, h3 => by cases Option.some.inj ((rfl : j_meth[196]? = some _).symm.trans h); exact absurd rfl h3
  | 197, h, _, h3 => by cases Option.some.inj ((rfl : j_meth[197]? = some _).symm.trans h); exact absurd rfl h3
  | 198, h, _, h3 => by cases Option.some.inj ((rfl : j_meth[198]? = some _).symm.trans h); exact absurd rfl h3
  | 199, h, _, h3 => by cases Option.some.inj ((rfl : j_meth[199]? = some _).symm.trans h); exact absurd rfl h3
  | 200, h, _, h3 => by cases Option.some.inj ((rfl : j_meth[200]? = some _).symm.trans h); exact absurd rfl h3
  | 201, h, _, h3 => by cases Option.some.inj ((rfl : j_meth[201]? = some _).symm.trans h); exact absurd rfl h3
  | 202, h, _, h3 => by cases Option.some.inj ((rfl : j_meth[202]? = some _).symm.trans h); exact absurd rfl h3
  | 203, h, _, h3 => by cases Option.some.inj ((rfl : j_meth[203]? = some _).symm.trans h); exact absurd rfl h3
  | 204, h, _, h3 => by cases Option.some.inj ((rfl : j_meth[204]? = some _).symm.trans h); exact absurd rfl h3
  | 205, h, _, h3 => by cases Option.some.inj ((rfl : j_meth[205]? = some _).symm.trans h); exact absurd rfl h3
  | 206, h, _, h3 => by cases Option.some.inj ((rfl : j_meth[206]? = some _).symm.trans h); exact absurd rfl h3
  | 207, h, _, h3 => by cases Option.some.inj ((rfl : j_meth[207]? = some _).symm.trans h); exact absurd rfl h3
  | 208, h, _, h3 => by cases Option.some.inj ((rfl : j_meth[208]? = some _).symm.trans h); exact absurd rfl h3
  | 209, h, _, h3 => by cases Option.some.inj ((rfl : j_meth[209]? = some _).symm.trans h); exact absurd rfl h3
  | 210, h, _, h3 => by cases Option.some.inj ((rfl : j_meth[210]? = some _).symm.trans h); exact absurd rfl h3
  | 211, h, _, h3 => by cases Option.some.inj ((rfl : j_meth[211]? = some _).symm.trans h); exact absurd rfl h3
  | 212, h, _, h3 => by cases Option.some.inj ((rfl : j_meth[212]? = some _).symm.trans h); exact absurd rfl h3
  | 213, h, _, h3 => by cases Option.some.inj ((rfl : j_meth[213]? = some _).symm.trans h); exact absurd rfl h3
  | 214, h, _, h3 => by cases Option.some.inj ((rfl : j_meth[214]? = some _).symm.trans h); exact absurd rfl h3
  | 215, h, _, h3 => by cases Option.some.inj ((rfl : j_meth[215]? = some _).symm.trans h); exact absurd rfl h3
  | 216, h, _, h3 => by cases Option.some.inj ((rfl : j_meth[216]? = some _).symm.trans h); exact absurd rfl h3
  | 217, h, _, h3 => by cases Option.some.inj ((rfl : j_meth[217]? = some _).symm.trans h); exact absurd rfl h3
  | 218, h, _, h3 => by cases Option.some.inj ((rfl : j_meth[218]? = some _).symm.trans h); exact absurd rfl h3
  | 219, h, _, h3 => by cases Option.some.inj ((rfl : j_meth[219]? = some _).symm.trans h); exact absurd rfl h3
  | 220, h, _, h3 => by cases Option.some.inj ((rfl : j_meth[220]? = some _).symm.trans h); exact absurd rfl h3
  | 221, h, _, h3 => by cases Option.some.inj ((rfl : j_meth[221]? = some _).symm.trans h); exact absurd rfl h3
  | 222, h, _, h3 => by cases Option.some.inj ((rfl : j_meth[222]? = some _).symm.trans h); exact absurd rfl h3
  | 223, h, _, h3 => by cases Option.some.inj ((rfl : j_meth[223]? = some _).symm.trans h); exact absurd rfl h3
  | 224, h, _, h3 => by cases Option.some.inj ((rfl : j_meth[224]? = some _).symm.trans h); exact absurd rfl h3
  | 225, h, _, h3 => by cases Option.some.inj ((rfl : j_meth[225]? = some _).symm.trans h); exact absurd rfl h3
  | 226, h, _, h3 => by cases Option.some.inj ((rfl : j_meth[226]? = some _).symm.trans h); exact absurd rfl h3
  | 227, h, _, h3 => by cases Option.some.inj ((rfl : j_meth[227]? = some _).symm.trans h); exact absurd rfl h3
  | 228, h, _, h3 => by cases Option.some.inj ((rfl : j_meth[228]? = some _).symm.trans h); exact absurd rfl h3
  | 229, h, _, h3 => by cases Option.some.inj ((rfl : j_meth[229]? = some _).symm.trans h); exact absurd rfl h3
  | 230, h, _, h3 => by cases Option.some.inj ((rfl : j_meth[230]? = some _).symm.trans h); exact absurd rfl h3
  | 231, h, _, h3 => by cases Option.some.inj ((rfl : j_meth[231]? = some _).symm.trans h); exact absurd rfl h3
  | 232, h, _, h3 => by cases Option.some.inj ((rfl : j_meth[232]? = some _).symm.trans h); exact absurd rfl h3
  | 233, h, _, h3 => by cases Option.some.inj ((rfl : j_meth[233]? = some _).symm.trans h); exact absurd rfl h3
  | 234, h, _, h3 => by cases Option.some.inj ((rfl : j_meth[234]? = some _).symm.trans h); exact absurd rfl h3
  | 235, h, _, h3 => by cases Option.some.inj ((rfl : j_meth[235]? = some _).symm.trans h); exact absurd rfl h3
  | 236, h, _, h3 => by cases Option.some.inj ((rfl : j_meth[236]? = some _).symm.trans h); exact absurd rfl h3
  | 237, h, _, h3 => by cases Option.some.inj ((rfl : j_meth[237]? = some _).symm.trans h); exact absurd rfl h3
  | 238, h, _, h3 => by cases Option.some.inj ((rfl : j_meth[238]? = some _).symm.trans h); exact absurd rfl h3
  | 239, h, _, h3 => by cases Option.some.inj ((rfl : j_meth[239]? = some _).symm.trans h); exact absurd rfl h3
  | 240, h, _, h3 => by cases Option.some.inj ((rfl : j_meth[240]? = some _).symm.trans h); exact absurd rfl h3
  | 241, h, _, h3 => by cases Option.some.inj ((rfl : j_meth[241]? = some _).symm.trans h); exact absurd rfl h3
  | 242, h, _, h3 => by cases Option.some.inj ((rfl : j_meth[242]? = some _).symm.trans h); exact absurd rfl h3
  | 243, h, _, h3 => by cases Option.some.inj ((rfl : j_meth[243]? = some _).symm.trans h); exact absurd rfl h3
  | 244, h, _, h3 => by cases Option.some.inj ((rfl : j_meth[244]? = some _).symm.trans h); exact absurd rfl h3
  | 245, h, _, h3 => by cases Option.some.inj ((rfl : j_meth[245]? = some _).symm.trans h); exact absurd rfl h3
  | 246, h, _, h3 => by cases Option.some.inj ((rfl : j_meth[246]? = some _).symm.trans h); exact absurd rfl h3
  | 247, h, _, h3 => by cases Option.some.inj ((rfl : j_meth[247]? = some _).symm.trans h); exact absurd rfl h3
  | 248, h, _, h3 => by cases Option.some.inj ((rfl : j_meth[248]? = some _).symm.trans h); exact absurd rfl h3
  | 249, h, _, h3 => by cases Option.some.inj ((rfl : j_meth[249]? = some _).symm.trans h); exact absurd rfl h3
  | 250, h, _, h3 => by cases Option.some.inj ((rfl : j_meth[250]? = some _).symm.trans h); exact absurd rfl h3
  | 251, h, _, h3 => by cases Option.some.inj ((rfl : j_meth[251]? = some _).symm.trans h); exact absurd rfl h3
  | 252, h, _, h3 => by cases Option.some.inj ((rfl : j_meth[252]? = some _).symm.trans h); exact absurd rfl h3
  | 253, h, _, h3 => by cases Option.some.inj ((rfl : j_meth[253]? = some _).symm.trans h); exact absurd rfl h3
  | 254, h, _, h3 => by cases Option.some.inj ((rfl : j_meth[254]? = some _).symm.trans h); exact absurd rfl h3
  | 255, h, _, h3 => by cases Option.some.inj ((rfl : j_meth[255]? = some _).symm.trans h); exact absurd rfl h3
  | 256, h, _, h3 => by cases Option.some.inj ((rfl : j_meth[256]? = some _).symm.trans h); exact absurd rfl h3
  | 257, h, _, h3 => by cases Option.some.inj ((rfl : j_meth[257]? = some _).symm.trans h); exact absurd rfl h3
  | 258, h, _, h3 => by cases Option.some.inj ((rfl : j_meth[258]? = some _).symm.trans h); exact absurd rfl h3
  | 259, h, _, h3 => by cases Option.some.inj ((rfl : j_meth[259]? = some _).symm.trans h); exact absurd rfl h3
  | 260, h, _, h3 => by cases Option.some.inj ((rfl : j_meth[260]? = some _).symm.trans h); exact absurd rfl h3
  | 261, h, _, h3 => by cases Option.some.inj ((rfl : j_meth[261]? = some _).symm.trans h); exact absurd rfl h3
  | 262, h, _, h3 => by cases Option.some.inj ((rfl : j_meth[262]? = some _).symm.trans h); exact absurd rfl h3
  | 263, h, _, h3 => by cases Option.some.inj ((rfl : j_meth[263]? = some _).symm.trans h); exact absurd rfl h3
  | 264, h, _, h3 => by cases Option.some.inj ((rfl : j_meth[264]? = some _).symm.trans h); exact absurd rfl h3
  | 265, h, _, _ => by cases Option.some.inj ((rfl : j_meth[265]? = some _).symm.trans h); exact j_tab 2 j_cw_265
  | 266, h, _, _ => by cases Option.some.inj ((rfl : j_meth[266]? = some _).symm.trans h); exact j_tab 2 j_cw_266
  | 267, h, _, _ => by cases Option.some.inj ((rfl : j_meth[267]? = some _).symm.trans h); exact j_tab 2 j_cw_267
  | 268, h, _, _ => by cases Option.some.inj ((rfl : j_meth[268]? = some _).symm.trans h); exact j_tab 3 j_cw_268
  | 269, h, _, _ => by cases Option.some.inj ((rfl : j_meth[269]? = some _).symm.trans h); exact j_tab 3 j_cw_269
  | 270, h, _, _ => by cases Option.some.inj ((rfl : j_meth[270]? = some _).symm.trans h); exact j_tab 1 j_cw_270
  | 272, h, _, _ => by cases Option.some.inj ((rfl : j_meth[272]? = some _).symm.trans h); exact j_tab 3 j_cw_272
  | 273, h, _, _ => by cases Option.some.inj ((rfl : j_meth[273]? = some _).symm.trans h); exact j_tab 3 j_cw_273
  | 274, h, _, _ => by cases Option.some.inj ((rfl : j_meth[274]? = some _).symm.trans h); exact j_tab 3 j_cw_274
  | 275, h, _, _ => by cases Option.some.inj ((rfl : j_meth[275]? = some _).symm.trans h); exact j_tab 4 j_cw_275
  | 276, h, _, _ => by cases Option.some.inj ((rfl : j_meth[276]? = some _).symm.trans h); exact j_tab 4 j_cw_276
  | 277, h, _, _ => by cases Option.some.inj ((rfl : j_meth[277]? = some _).symm.trans h); exact j_tab 4 j_cw_277
  | 278, h, _, _ => by cases Option.some.inj ((rfl : j_meth[278]? = some _).symm.trans h); exact j_tab 3 j_cw_278
  | 279, h, _, _ => by cases Option.some.inj ((rfl : j_meth[279]? = some _).symm.trans h); exact j_tab 3 j_cw_279
  | 280, h, _, _ => by cases Option.some.inj ((rfl : j_meth[280]? = some _).symm.trans h); exact j_tab 4 j_cw_280
  | 281, h, _, _ => by cases Option.some.inj ((rfl : j_meth[281]? = some _).symm.trans h); exact j_tab 3 j_cw_281
  | 282, h, _, _ => by cases Option.some.inj ((rfl : j_meth[282]? = some _).symm.trans h); exact j_tab 3 j_cw_282
  | 283, h, _, _ => by cases Option.some.inj ((rfl : j_meth[283]? = some _).symm.trans h); exact j_tab 3 j_cw_283
  | 284, h, _, _ => by cases Option.some.inj ((rfl : j_meth[284]? = some _).symm.trans h); exact j_tab 4 j_cw_284
  | 285, h, _, _ => by cases Option.some.inj ((rfl : j_meth[285]? = some _).symm.trans h); exact j_tab 4 j_cw_285
  | 286, h, _, _ => by cases Option.some.inj ((rfl : j_meth[286]? = some _).symm.trans h); exact j_tab 3 j_cw_286
  | 287, h, _, _ => by cases Option.some.inj ((rfl : j_meth[287]? = some _).symm.trans h); exact j_tab 4 j_cw_287
  | 288, h, _, _ => by cases Option.some.inj ((rfl : j_meth[288]? = some _).symm.trans h); exact j_tab 4 j_cw_288
  | 289, h, _, _ => by cases Option.some.inj ((rfl : j_meth[289]? = some _).symm.trans h); exact j_tab 4 j_cw_289
  | 290, h, _, _ => by cases Option.some.inj ((rfl : j_meth[290]? = some _).symm.trans h); exact j_tab 4 j_cw_290
  | 291, h, _, _ => by cases Option.some.inj ((rfl : j_meth[291]? = some _).symm.trans h); exact j_tab 3 j_cw_291
  | 292, h, _, _ => by cases Option.some.inj ((rfl : j_meth[292]? = some _).symm.trans h); exact j_tab 3 j_cw_292
  | 293, h, _, _ => by cases Option.some.inj ((rfl : j_meth[293]? = some _).symm.trans h); exact j_tab 4 j_cw_293
  | 294, h, _, _ => by cases Option.some.inj ((rfl : j_meth[294]? = some _).symm.trans h); exact j_tab 4 j_cw_294
  | 295, h, _, _ => by cases Option.some.inj ((rfl : j_meth[295]? = some _).symm.trans h); exact j_tab 3 j_cw_295
  | 296, h, _, _ => by cases Option.some.inj ((rfl : j_meth[296]? = some _).symm.trans h); exact j_tab 3 j_cw_296
  | 297, h, _, _ => by cases Option.some.inj ((rfl : j_meth[297]? = some _).symm.trans h); exact j_tab 4 j_cw_297
  | 298, h, _, _ => by cases Option.some.inj ((rfl : j_meth[298]? = some _).symm.trans h); exact j_tab 3 j_cw_298
  | 299, h, _, _ => by cases Option.some.inj ((rfl : j_meth[299]? = some _).symm.trans h); exact j_tab 3 j_cw_299
  | 300, h, _, _ => by cases Option.some.inj ((rfl : j_meth[300]? = some _).symm.trans h); exact j_tab 4 j_cw_300
  | 301, h, _, _ => by cases Option.some.inj ((rfl : j_meth[301]? = some _).symm.trans h); exact j_tab 4 j_cw_301
  | 302, h, _, _ => by cases Option.some.inj ((rfl : j_meth[302]? = some _).symm.trans h); exact j_tab 4 j_cw_302
  | 303, h, _, _ => by cases Option.some.inj ((rfl : j_meth[303]? = some _).symm.trans h); exact j_tab 4 j_cw_303
  | 304, h, _, _ => by cases Option.some.inj ((rfl : j_meth[304]? = some _).symm.trans h); exact j_tab 4 j_cw_304
  | 305, h, _, _ => by cases Option.some.inj ((rfl : j_meth[305]? = some _).symm.trans h); exact j_tab 3 j_cw_305
  | 306, h, _, _ => by cases Option.some.inj ((rfl : j_meth[306]? = some _).symm.trans h); exact j_tab 3 j_cw_306
  | 307, h, _, _ => by cases Option.some.inj ((rfl : j_meth[307]? = some _).symm.trans h); exact j_tab 3 j_cw_307
  | 308, h, _, _ => by cases Option.some.inj ((rfl : j_meth[308]? = some _).symm.trans h); exact j_tab 3 j_cw_308
  | 309, h, _, _ => by cases Option.some.inj ((rfl : j_meth[309]? = some _).symm.trans h); exact j_tab 3 j_cw_309
  | 271, _, hy, _ => absurd rfl hy
  | k + 310, h, _, _ => by
    have h1 : (k + 310) < j_meth.length := (List.getElem?_eq_some_iff.mp h).1
    have h2 : j_meth.length = 310 := by decide +kernel
    omega
theorem j_mw_0 : ((((j_meth.zip j_mw).zip (List.range 310)).drop 0).take 20).all (fun q => q.2 == 271 || j_mok q.2 q.1.1 q.1.2) = true := by decide +kernel
theorem j_mw_1 : ((((j_meth.zip j_mw).zip (List.range 310)).drop 20).take 20).all (fun q => q.2 == 271 || j_mok q.2 q.1.1 q.1.2) = true := by decide +kernel
theorem j_mw_2 : ((((j_meth.zip j_mw).zip (List.range 310)).drop 40).take 20).all (fun q => q.2 == 271 || j_mok q.2 q.1.1 q.1.2) = true := by decide +kernel
theorem j_mw_3 : ((((j_meth.zip j_mw).zip (List.range 310)).drop 60).take 20).all (fun q => q.2 == 271 || j_mok q.2 q.1.1 q.1.2) = true := by decide +kernel
theorem j_mw_4 : ((((j_meth.zip j_mw).zip (List.range 310)).drop 80).take 20).all (fun q => q.2 == 271 || j_mok q.2 q.1.1 q.1.2) = true := by decide +kernel
theorem j_mw_5 : ((((j_meth.zip j_mw).zip (List.range 310)).drop 100).take 20).all (fun q => q.2 == 271 || j_mok q.2 q.1.1 q.1.2) = true := by decide +kernel
theorem j_mw_6 : ((((j_meth.zip j_mw).zip (List.range 310)).drop 120).take 20).all (fun q => q.2 == 271 || j_mok q.2 q.1.1 q.1.2) = true := by decide +kernel
theorem j_mw_7 : ((((j_meth.zip j_mw).zip (List.range 310)).drop 140).take 20).all (fun q => q.2 == 271 || j_mok q.2 q.1.1 q.1.2) = true := by decide +kernel
theorem j_mw_8 : ((((j_meth.zip j_mw).zip (List.range 310)).drop 160).take 20).all (fun q => q.2 == 271 || j_mok q.2 q.1.1 q.1.2) = true := by decide +kernel
theorem j_mw_9 : ((((j_meth.zip j_mw).zip (List.range 310)).drop 180).take 20).all (fun q => q.2 == 271 || j_mok q.2 q.1.1 q.1.2) = true := by decide +kernel
theorem j_mw_10 : ((((j_meth.zip j_mw).zip (List.range 310)).drop 200).take 20).all (fun q => q.2 == 271 || j_mok q.2 q.1.1 q.1.2) = true := by decide +kernel
theorem j_mw_11 : ((((j_meth.zip j_mw).zip (List.range 310)).drop 220).take 20).all (fun q => q.2 == 271 || j_mok q.2 q.1.1 q.1.2) = true := by decide +kernel
theorem j_mw_12 : ((((j_meth.zip j_mw).zip (List.range 310)).drop 240).take 20).all (fun q => q.2 == 271 || j_mok q.2 q.1.1 q.1.2) = true := by decide +kernel
theorem j_mw_13 : ((((j_meth.zip j_mw).zip (List.range 310)).drop 260).take 20).all (fun q => q.2 == 271 || j_mok q.2 q.1.1 q.1.2) = true := by decide +kernel
theorem j_mw_14 : ((((j_meth.zip j_mw).zip (List.range 310)).drop 280).take 20).all (fun q => q.2 == 271 || j_mok q.2 q.1.1 q.1.2) = true := by decide +kernel
theorem j_mw_15 : ((((j_meth.zip j_mw).zip (List.range 310)).drop 300).take 10).all (fun q => q.2 == 271 || j_mok q.2 q.1.1 q.1.2) = true := by decide +kernel
theorem j_len : j_meth.length = 310 ∧ j_code.length = 310 ∧ j_mw.length = 310 := by decide +kernel
def j_tf (c k : Nat) : FieldType := match c with
  | 0 => tyJ0 k | 1 => tyJ4 k | 2 => tyX0 k | 3 => tyX1 k | 4 => tyX2 k | 5 => tyX3 k | 6 => tyX4 k
  | 7 => tyX5 k | 8 => tyX6 k | 9 => tyX7 k | 10 => tyX8 k | 11 => tyX9 k | _ => tyX10 k
/-- the classes: their fields' words, types, names, and that they can be made -/
def j_clk (c : Nat) : Bool := match vwCl[c]? with
  | some q => (u_ws q.1 q.2.1 q.2.2).all (fun w => lw_tb2.any (fun v => decide (v = w)) && goodWord w) && ((List.range q.2.2).all (fun k => decide (parseFieldDescriptor (q.2.1 k).2.2.1 = some (j_tf c k)) && ((decide ((q.2.1 k).1 = q.1) || c == 1) && (j_tf c k == .int || j_tf c k == .long || j_tf c k == .boolean || j_tf c k == .byte || (match j_tf c k with | .object _ => true | .array _ => true | _ => false)))) && ((List.range q.2.2).all (fun a => (List.range q.2.2).all (fun b => a == b || decide ((q.2.1 a).2.1 ≠ (q.2.1 b).2.1))) && (lw_tb2.any (fun v => decide (v = .instantiable q.1 q.2.2)) && (goodWord (.instantiable q.1 q.2.2) && (lw_tb2.any (fun v => decide (v = .initialized q.1)) && (goodWord (.initialized q.1) && (decide (j_cnm c = q.1) && decide (q.2.2 < 100))))))))
  | none => false
theorem j_cl_ok : (List.range 13).all j_clk = true := by decide +kernel
theorem j_misc : (j_has (.instanceMethod objectInit) && (j_has (.code objectInit ⟨#[0xb1]⟩ 1 none) && (j_has (.native arraycopyName) && (j_has (.static arraycopyName) && (j_has (.initialized "java/lang/System") && (j_has (.arrayClass .int) && (j_has (.arrayClass .long) && (j_has (.arrayClass .byte) && (j_has (.arrayClass .boolean) && j_has (.classLink RX6 18 ("[" ++ (FieldType.array FieldType.long).toString))))))))))) = true := by decide +kernel
theorem j_misc2 : (j_has (.classLink "java/util/Arrays" 311 "[B") && (j_has (.methodLink "java/util/Arrays" 310 ⟨"[B", "clone", "()Ljava/lang/Object;"⟩) && (j_has (.sameMethod "[B" "java/lang/Object" "clone" "()Ljava/lang/Object;") && (j_has (.native ⟨"java/lang/Object", "clone", "()Ljava/lang/Object;"⟩) && (j_has (.instanceMethod ⟨"java/lang/Object", "clone", "()Ljava/lang/Object;"⟩) && (j_has (.selects "[B" ⟨"[B", "clone", "()Ljava/lang/Object;"⟩ ⟨"java/lang/Object", "clone", "()Ljava/lang/Object;"⟩) && j_has (.superclass "java/lang/StringBuilder" "java/lang/AbstractStringBuilder"))))))) = true := by decide +kernel
theorem j_castable : lw_tb2.any (fun v => decide (v = .castable "[B" "java/lang/Cloneable")) = true := by decide +kernel
theorem j_laysj : (lw_tb2.any (fun v => decide (v = .laysStatic "java/lang/String" "COMPACT_STRINGS" "Z")) && (lw_tb2.any (fun v => decide (v = .laysStatic "java/lang/Integer" "DigitOnes" "[B")) && lw_tb2.any (fun v => decide (v = .laysStatic "java/lang/Integer" "DigitTens" "[B")))) = true := by decide +kernel
theorem j_over : lw_tb2.any (fun v => decide (v = .arrayOver (.array .long))) = true := by decide +kernel
theorem j_lays : lw_tb2.any (fun v => decide (v = .laysStatic "WholePacks" "TENS" "[I")) = true := by decide +kernel
theorem j_pf_ok : j_meth.all (fun q => plainName q.1.cls || (decide (q.1.cls = "java/lang/Math") && !(Jvm.Free.JP.floatDescs.contains q.1.desc))) = true := by decide +kernel
theorem j_pf {y : Nat} {q : j_M} (h : j_meth[y]? = some q) : plainFor q.1 = true := by
  have h1 := List.all_eq_true.mp j_pf_ok q (List.mem_of_getElem? h)
  rw [Bool.or_eq_true] at h1
  rcases h1 with h1 | h1
  · exact plainFor_of_name h1
  · rw [Bool.and_eq_true] at h1
    exact Jvm.Free.JP.mathPlain (of_decide_eq_true h1.1) (by simpa using h1.2)
end
section
/-! What a state of the abstract machine says of the machine. -/
/-- where a cell lies -/
abbrev j_P : Type := Nat → Option Nat
def s_val (ρ : j_P) (v : j_V) (w : Value) : Prop := match v with
  | .inl x => ∃ n : Int32, w = .int n ∧ n.toInt = x
  | .inr (.inl x) => ∃ n : Int64, w = .long n ∧ n.toInt = x
  | .inr (.inr a) => ∃ q : Nat, w = .ref q ∧ ρ a = some q
def s_st (ρ : j_P) : List j_V → List Value → Prop
  | [], [] => True
  | v :: r, w :: q => s_val ρ v w ∧ s_st ρ r q
  | _, _ => False
def s_lo (ρ : j_P) : j_L → List (Option Value) → Prop
  | [], [] => True
  | none :: r, none :: q => s_lo ρ r q
  | some v :: r, some w :: q => s_val ρ v w ∧ s_lo ρ r q
  | _, _ => False
def s_as : Nat → List (Option Value) → List (Nat × Value)
  | _, [] => []
  | k, none :: r => s_as (k + 1) r
  | k, some w :: r => (k, w) :: s_as (k + 1) r
theorem s_as_mem {q : Nat × Value} : ∀ {rl : List (Option Value)} {k : Nat}, q ∈ s_as k rl ↔ k ≤ q.1 ∧ rl[q.1 - k]? = some (some q.2)
  | [], k => by simp [s_as]
  | none :: r, k => by
    rw [s_as, s_as_mem]
    constructor
    · rintro ⟨h1, h2⟩
      refine ⟨by omega, ?_⟩
      rw [show q.1 - k = (q.1 - (k + 1)) + 1 by omega]
      exact h2
    · rintro ⟨h1, h2⟩
      by_cases e : q.1 = k
      · rw [e, Nat.sub_self] at h2
        cases h2
      · rw [show q.1 - k = (q.1 - (k + 1)) + 1 by omega] at h2
        exact ⟨by omega, h2⟩
  | some w :: r, k => by
    rw [s_as, List.mem_cons, s_as_mem]
    constructor
    · rintro (rfl | ⟨h1, h2⟩)
      · exact ⟨Nat.le_refl _, by rw [Nat.sub_self]; rfl⟩
      · refine ⟨by omega, ?_⟩
        rw [show q.1 - k = (q.1 - (k + 1)) + 1 by omega]
        exact h2
    · rintro ⟨h1, h2⟩
      by_cases e : q.1 = k
      · rw [e, Nat.sub_self] at h2
        have h3 : w = q.2 := by simpa using h2
        exact Or.inl (by rw [h3, ← e])
      · rw [show q.1 - k = (q.1 - (k + 1)) + 1 by omega] at h2
        exact Or.inr ⟨by omega, h2⟩
theorem s_as_mem0 {q : Nat × Value} {rl : List (Option Value)} : q ∈ s_as 0 rl ↔ rl[q.1]? = some (some q.2) := by
  rw [s_as_mem]
  simp
theorem s_lo_len {ρ : j_P} : ∀ {ls : j_L} {rl : List (Option Value)}, s_lo ρ ls rl → ls.length = rl.length
  | [], [], _ => rfl
  | none :: r, none :: q, h => by simp [s_lo_len (ls := r) (rl := q) h]
  | some v :: r, some w :: q, h => by simp [s_lo_len (ls := r) (rl := q) h.2]
theorem s_lo_get {ρ : j_P} {v : j_V} : ∀ {ls : j_L} {rl : List (Option Value)} {k : Nat}, s_lo ρ ls rl → ls[k]? = some (some v) → ∃ w, rl[k]? = some (some w) ∧ s_val ρ v w
  | [], [], k, _, e => by simp at e
  | none :: r, none :: q, 0, h, e => by simp at e
  | none :: r, none :: q, k + 1, h, e => by
    obtain ⟨w, h1, h2⟩ := s_lo_get (ls := r) (rl := q) (k := k) h (by simpa using e)
    exact ⟨w, by simpa using h1, h2⟩
  | some v' :: r, some w :: q, 0, h, e => by
    have e : v' = v := by simpa using e
    exact ⟨w, rfl, e ▸ h.1⟩
  | some v' :: r, some w :: q, k + 1, h, e => by
    obtain ⟨w, h1, h2⟩ := s_lo_get (ls := r) (rl := q) (k := k) h.2 (by simpa using e)
    exact ⟨w, by simpa using h1, h2⟩
theorem s_lo_getR {ρ : j_P} {w : Value} : ∀ {ls : j_L} {rl : List (Option Value)} {k : Nat}, s_lo ρ ls rl → rl[k]? = some (some w) → ∃ v, ls[k]? = some (some v) ∧ s_val ρ v w
  | [], [], k, _, e => by simp at e
  | none :: r, none :: q, 0, h, e => by simp at e
  | none :: r, none :: q, k + 1, h, e => by
    obtain ⟨v, h1, h2⟩ := s_lo_getR (ls := r) (rl := q) (k := k) h (by simpa using e)
    exact ⟨v, by simpa using h1, h2⟩
  | some v :: r, some w' :: q, 0, h, e => by
    have e : w' = w := by simpa using e
    exact ⟨v, rfl, e ▸ h.1⟩
  | some v :: r, some w' :: q, k + 1, h, e => by
    obtain ⟨v, h1, h2⟩ := s_lo_getR (ls := r) (rl := q) (k := k) h.2 (by simpa using e)
    exact ⟨v, by simpa using h1, h2⟩
theorem s_lo_set {ρ : j_P} {v : j_V} {w : Value} (hv : s_val ρ v w) : ∀ {ls : j_L} {rl : List (Option Value)} {k : Nat}, s_lo ρ ls rl → s_lo ρ (ls.set k (some v)) (rl.set k (some w))
  | [], [], k, h => h
  | none :: r, none :: q, 0, h => ⟨hv, h⟩
  | none :: r, none :: q, k + 1, h => s_lo_set (ls := r) (rl := q) (k := k) hv h
  | some v' :: r, some w' :: q, 0, h => ⟨hv, h.2⟩
  | some v' :: r, some w' :: q, k + 1, h => ⟨h.1, s_lo_set (ls := r) (rl := q) (k := k) hv h.2⟩
theorem s_lo_set0 {ρ : j_P} : ∀ {ls : j_L} {rl : List (Option Value)} {k : Nat}, s_lo ρ ls rl → s_lo ρ (ls.set k none) (rl.set k none)
  | [], [], k, h => h
  | none :: r, none :: q, 0, h => h
  | none :: r, none :: q, k + 1, h => s_lo_set0 (ls := r) (rl := q) (k := k) h
  | some v' :: r, some w' :: q, 0, h => h.2
  | some v' :: r, some w' :: q, k + 1, h => ⟨h.1, s_lo_set0 (ls := r) (rl := q) (k := k) h.2⟩
theorem s_val_cat {ρ : j_P} {v : j_V} {w : Value} (h : s_val ρ v w) : w.category = j_cat v := by
  match v, h with
  | .inl x, ⟨n, e, _⟩ => rw [e]; rfl
  | .inr (.inl x), ⟨n, e, _⟩ => rw [e]; rfl
  | .inr (.inr a), ⟨n, e, _⟩ => rw [e]; rfl
theorem j_cat_isL {v : j_V} : j_isL v = true ↔ j_cat v = 2 := by
  match v with
  | .inl x => simp [j_isL, j_cat]
  | .inr (.inl x) => simp [j_isL, j_cat]
  | .inr (.inr a) => simp [j_isL, j_cat]
theorem s_st_cat {ρ : j_P} : ∀ {st : List j_V} {q : List Value}, s_st ρ st q → (q.map fun v => v.category).sum = (st.map j_cat).sum
  | [], [], _ => rfl
  | v :: r, w :: q, h => by simp [s_val_cat h.1, s_st_cat (st := r) (q := q) h.2]
theorem s_st_len {ρ : j_P} : ∀ {st : List j_V} {q : List Value}, s_st ρ st q → st.length = q.length
  | [], [], _ => rfl
  | v :: r, w :: q, h => by simp [s_st_len (st := r) (q := q) h.2]
theorem s_st_app {ρ : j_P} : ∀ {a b : List j_V} {q r : List Value}, s_st ρ a q → s_st ρ b r → s_st ρ (a ++ b) (q ++ r)
  | [], b, [], r, _, h => h
  | v :: a, b, w :: q, r, h, h2 => ⟨h.1, s_st_app (a := a) (q := q) h.2 h2⟩
theorem s_st_rev {ρ : j_P} : ∀ {a : List j_V} {q : List Value}, s_st ρ a q → s_st ρ a.reverse q.reverse
  | [], [], h => h
  | v :: a, w :: q, h => by
    rw [List.reverse_cons, List.reverse_cons]
    exact s_st_app (s_st_rev (a := a) (q := q) h.2) ⟨h.1, trivial⟩
theorem s_st_take {ρ : j_P} : ∀ {n : Nat} {a : List j_V} {q : List Value}, s_st ρ a q → s_st ρ (a.take n) (q.take n) ∧ s_st ρ (a.drop n) (q.drop n)
  | 0, a, q, h => by simpa [s_st] using h
  | n + 1, [], [], h => by simp [s_st]
  | n + 1, v :: a, w :: q, h => ⟨⟨h.1, (s_st_take (n := n) (a := a) (q := q) h.2).1⟩, (s_st_take (n := n) (a := a) (q := q) h.2).2⟩
theorem s_val_mono {ρ ρ' : j_P} {v : j_V} {w : Value} (hρ : ∀ (a q : Nat), ρ a = some q → ρ' a = some q) (h : s_val ρ v w) : s_val ρ' v w := by
  match v, h with
  | .inl x, h => exact h
  | .inr (.inl x), h => exact h
  | .inr (.inr a), ⟨q, e1, e2⟩ => exact ⟨q, e1, hρ _ _ e2⟩
theorem s_st_mono {ρ ρ' : j_P} (hρ : ∀ (a q : Nat), ρ a = some q → ρ' a = some q) : ∀ {st : List j_V} {q : List Value}, s_st ρ st q → s_st ρ' st q
  | [], [], h => h
  | v :: r, w :: q, h => ⟨s_val_mono hρ h.1, s_st_mono hρ (st := r) (q := q) h.2⟩
theorem s_lo_mono {ρ ρ' : j_P} (hρ : ∀ (a q : Nat), ρ a = some q → ρ' a = some q) : ∀ {ls : j_L} {q : List (Option Value)}, s_lo ρ ls q → s_lo ρ' ls q
  | [], [], h => h
  | none :: r, none :: q, h => s_lo_mono hρ (ls := r) (q := q) h
  | some v :: r, some w :: q, h => ⟨s_val_mono hρ h.1, s_lo_mono hρ (ls := r) (q := q) h.2⟩
/-- behind a store of one place -/
theorem s_lv1 {ρ : j_P} {ls : j_L} {rl : List (Option Value)} {A : Array Slot} {nL k : Nat} {w : Value} (hl : s_lo ρ ls rl) (hp : j_pre ls k = true) (hk : k < rl.length) (h : lv_has A nL ((k, w) :: (s_as 0 rl).filter (fun q => !(q.1 == k) && !(q.1 + 1 == k && q.2.category == 2)))) : lv_has A nL (s_as 0 (rl.set k (some w))) := by
  refine ⟨h.1, h.2.1, fun q hq => h.2.2 q ?_⟩
  rw [s_as_mem0, List.getElem?_set] at hq
  rw [List.mem_cons]
  by_cases e : k = q.1
  · rw [if_pos e] at hq
    left
    simp [hk] at hq
    exact Prod.ext e.symm hq.symm
  · rw [if_neg e] at hq
    right
    rw [List.mem_filter, s_as_mem0]
    refine ⟨hq, ?_⟩
    have e1 : (q.1 == k) = false := by simpa using fun h => e h.symm
    rw [e1]
    by_cases e2 : q.1 + 1 = k
    · obtain ⟨v, hv, hvw⟩ := s_lo_getR hl hq
      subst e2
      unfold j_pre at hp
      simp only [hv] at hp
      have h3 : ¬ j_cat v = 2 := fun h4 => by rw [j_cat_isL.mpr h4] at hp; cases hp
      have h5 : (q.2.category == 2) = false := by rw [s_val_cat hvw]; simpa using h3
      simp [h5]
    · have h5 : (q.1 + 1 == k) = false := by simpa using e2
      simp [h5]
/-- behind a store of two places -/
theorem s_lv2 {ρ : j_P} {ls : j_L} {rl : List (Option Value)} {A : Array Slot} {nL k : Nat} {w : Value} (hl : s_lo ρ ls rl) (hp : j_pre ls k = true) (hk : k + 1 < rl.length) (h : lv_has A nL ((k, w) :: (s_as 0 rl).filter (fun q => !(q.1 == k) && (!(q.1 == k + 1) && !(q.1 + 1 == k && q.2.category == 2))))) : lv_has A nL (s_as 0 ((rl.set k (some w)).set (k + 1) none)) := by
  refine ⟨h.1, h.2.1, fun q hq => h.2.2 q ?_⟩
  rw [s_as_mem0, List.getElem?_set] at hq
  by_cases e0 : k + 1 = q.1
  · rw [if_pos e0] at hq
    simp [hk] at hq
  rw [if_neg e0, List.getElem?_set] at hq
  rw [List.mem_cons]
  by_cases e : k = q.1
  · rw [if_pos e] at hq
    left
    simp [show k < rl.length by omega] at hq
    exact Prod.ext e.symm hq.symm
  · rw [if_neg e] at hq
    right
    rw [List.mem_filter, s_as_mem0]
    refine ⟨hq, ?_⟩
    have e1 : (q.1 == k) = false := by simpa using fun h => e h.symm
    have e3 : (q.1 == k + 1) = false := by simpa using fun h => e0 h.symm
    rw [e1, e3]
    by_cases e2 : q.1 + 1 = k
    · obtain ⟨v, hv, hvw⟩ := s_lo_getR hl hq
      subst e2
      unfold j_pre at hp
      simp only [hv] at hp
      have h3 : ¬ j_cat v = 2 := fun h4 => by rw [j_cat_isL.mpr h4] at hp; cases hp
      have h5 : (q.2.category == 2) = false := by rw [s_val_cat hvw]; simpa using h3
      simp [h5]
    · have h5 : (q.1 + 1 == k) = false := by simpa using e2
      simp [h5]
/-- cells -/
def s_ref (ρ : j_P) (o : Option Nat) (v : Value) : Prop := match o with
  | none => True
  | some a => ∃ q : Nat, v = .ref q ∧ ρ a = some q
def s_fld (ρ : j_P) (h : j_H) (k ci j : Nat) (v : Value) : Prop := match j_ty ci j with
  | 0 => ∃ n : Int32, v = .int n ∧ n.toInt = h.2.2 k j
  | 1 => ∃ n : Int64, v = .long n ∧ n.toInt = h.2.2 k j
  | 2 => ∃ n : Int32, v = .int n ∧ n.toInt = h.2.2 k j
  | _ => s_ref ρ (j_rf h k j) v
def s_cell (tys : List (ClassId × FieldType)) (ρ : j_P) (h : j_H) (k : Nat) (e : va_E) : Prop := match e with
  | .inr (ci, fs) => ∃ q : vw_C, vwCl[ci]? = some q ∧ h.1[k]? = some (ci, q.2.2) ∧ fs.length = q.2.2 ∧ ∀ (j : Nat) (v : Value), fs[j]? = some v → s_fld ρ h k ci j v
  | .inl (cA, n, .inl f) => ∃ t : Nat, h.1[k]? = some (t, n) ∧ ((t = 32 ∧ (cA, FieldType.int) ∈ tys) ∨ (t = 34 ∧ (cA, FieldType.byte) ∈ tys) ∨ (t = 35 ∧ (cA, FieldType.boolean) ∈ tys)) ∧ ∀ i, i < n → (f i).toInt = h.2.2 k i
  | .inl (cA, n, .inr (.inl f)) => h.1[k]? = some (33, n) ∧ (cA, FieldType.long) ∈ tys ∧ ∀ i, i < n → (f i).toInt = h.2.2 k i
  | .inl (cA, n, .inr (.inr (.inr (.inr f)))) => h.1[k]? = some (36, n) ∧ (cA, FieldType.array .long) ∈ tys ∧ ∀ i, i < n → s_ref ρ (j_rf h k i) (va_rf (f i))
  | _ => False
/-- what stands ahead of the start: tt (a - 999999) -/
def s_kρ (tt : Nat → Nat) (a : Nat) : Option Nat := if 1000000 ≤ a ∧ a < 1000022 then some (tt (a - 999999)) else none
def s_ρ (b : Nat) (tt : Nat → Nat) (ws : va_W) : j_P := fun a => match (b :: tt 0 :: ws.map (fun q => q.1))[a]? with
  | some q => some q
  | none => s_kρ tt a
/-- what is there -/
def s_kb (a i : Nat) : Int := if a = 1000020 then 48 + ((i % 10 : Nat) : Int) else if a = 1000021 then 48 + ((i / 10 : Nat) : Int) else if a % 2 = 0 then 0 else match j_tx[(a - 1000000) / 2]? with
  | some t => ((t.2.2.getD i 0 : Nat) : Int)
  | none => 0
def s_km (m : j_M0) : Prop := ∀ a i : Nat, 1000000 ≤ a → a < 1000022 → m a i = s_kb a i
theorem s_ρ_in {b : Nat} {tt : Nat → Nat} {ws : va_W} {a : Nat} (h : a < ws.length + 2) : s_ρ b tt ws a = (b :: tt 0 :: ws.map (fun q => q.1))[a]? := by
  unfold s_ρ
  rw [List.getElem?_eq_getElem (by simp; omega)]
theorem s_ρ_out {b : Nat} {tt : Nat → Nat} {ws : va_W} {a : Nat} (h : ws.length + 2 ≤ a) : s_ρ b tt ws a = s_kρ tt a := by
  unfold s_ρ
  rw [List.getElem?_eq_none (by simp; omega)]
def s_sl (h : j_H) : Nat := (h.1.map (fun q => q.2)).sum
def s_tn (i : Nat) : Int32 := [1, 10, 100, 1000, 10000, 100000].getD i 0
def s_w (b : Nat) (tt : Nat → Nat) (L : Nat) (xs : Nat → Int32) (tys : List (ClassId × FieldType)) (h : j_H) (ws : va_W) : Prop :=
  h.1.length = ws.length + 2 ∧ h.2.1.length = ws.length + 2 ∧ (h.1[0]? = some (32, L) ∧ ∀ i, i < L → (xs i).toInt = h.2.2 0 i) ∧ (h.1[1]? = some (32, 6) ∧ ∀ i, i < 6 → (s_tn i).toInt = h.2.2 1 i) ∧ (∀ (k : Nat) (q : Nat × va_E), ws[k]? = some q → s_cell tys (s_ρ b tt ws) h (k + 2) q.2) ∧ (∀ q ∈ h.1, q.2 ≤ 100000) ∧ h.1.length ≤ 1000000 ∧ s_km h.2.2
theorem s_ref_mono {ρ ρ' : j_P} (hρ : ∀ (a q : Nat), ρ a = some q → ρ' a = some q) {o : Option Nat} {v : Value} (h : s_ref ρ o v) : s_ref ρ' o v := by
  cases o with
  | none => trivial
  | some a => obtain ⟨q, h1, h2⟩ := h; exact ⟨q, h1, hρ _ _ h2⟩
theorem s_fld_mono {ρ ρ' : j_P} {h g : j_H} {k ci j : Nat} {v : Value} (hρ : ∀ (a q : Nat), ρ a = some q → ρ' a = some q) (h2 : g.2.2 k j = h.2.2 k j) (h3 : j_rf g k j = j_rf h k j) (H : s_fld ρ h k ci j v) : s_fld ρ' g k ci j v := by
  unfold s_fld at H ⊢
  split at H
  · rw [h2]; exact H
  · rw [h2]; exact H
  · rw [h2]; exact H
  · rw [h3]; exact s_ref_mono hρ H
theorem s_cell_mono {tys tys' : List (ClassId × FieldType)} {ρ ρ' : j_P} {h g : j_H} {k : Nat} {e : va_E} (ht : ∀ q, q ∈ tys → q ∈ tys') (hρ : ∀ (a q : Nat), ρ a = some q → ρ' a = some q) (h1 : g.1[k]? = h.1[k]?) (h2 : ∀ i, g.2.2 k i = h.2.2 k i) (h3 : ∀ i, j_rf g k i = j_rf h k i) (H : s_cell tys ρ h k e) : s_cell tys' ρ' g k e := by
  match e, H with
  | .inr (ci, fs), ⟨q, a1, a2, a3, a4⟩ => exact ⟨q, a1, by rw [h1]; exact a2, a3, fun j v hj => s_fld_mono hρ (h2 j) (h3 j) (a4 j v hj)⟩
  | .inl (cA, n, .inl f), ⟨t, a1, a2, a3⟩ => exact ⟨t, by rw [h1]; exact a1, a2.imp (fun x => ⟨x.1, ht _ x.2⟩) (fun x => x.imp (fun x => ⟨x.1, ht _ x.2⟩) (fun x => ⟨x.1, ht _ x.2⟩)), fun i hi => by rw [h2]; exact a3 i hi⟩
  | .inl (cA, n, .inr (.inl f)), ⟨a1, a2, a3⟩ => exact ⟨by rw [h1]; exact a1, ht _ a2, fun i hi => by rw [h2]; exact a3 i hi⟩
  | .inl (cA, n, .inr (.inr (.inr (.inr f)))), ⟨a1, a2, a3⟩ => exact ⟨by rw [h1]; exact a1, ht _ a2, fun i hi => by rw [h3]; exact s_ref_mono hρ (a3 i hi)⟩
theorem s_ρ_set {b : Nat} {tt : Nat → Nat} {ws : va_W} {k a : Nat} {e e' : va_E} (h : ws[k]? = some (a, e)) : s_ρ b tt (ws.set k (a, e')) = s_ρ b tt ws := by
  have e0 : (ws.set k (a, e')).map (fun q => q.1) = ws.map (fun q => q.1) := by
    rw [List.map_set]
    apply List.ext_getElem?
    intro i
    rw [List.getElem?_set]
    split
    · rename_i e1
      subst e1
      simp [h]
      exact (List.getElem?_eq_some_iff.mp h).1
    · rfl
  unfold s_ρ
  rw [e0]
theorem s_w_upd {b : Nat} {tt : Nat → Nat} {L : Nat} {xs : Nat → Int32} {tys : List (ClassId × FieldType)} {h g : j_H} {ws : va_W} {k a : Nat} {e e' : va_E} (H : s_w b tt L xs tys h ws) (hk : ws[k]? = some (a, e)) (h1 : g.1 = h.1) (h0 : g.2.1.length = h.2.1.length) (h2 : ∀ j, j ≠ k + 2 → (∀ i, g.2.2 j i = h.2.2 j i) ∧ ∀ i, j_rf g j i = j_rf h j i) (hc : s_cell tys (s_ρ b tt ws) g (k + 2) e') : s_w b tt L xs tys g (ws.set k (a, e')) := by
  obtain ⟨a1, a2, a3, a4, a5, a6, a7, a8⟩ := H
  have hkl : k < ws.length := (List.getElem?_eq_some_iff.mp hk).1
  refine ⟨by rw [h1, List.length_set]; exact a1, by rw [h0, List.length_set]; exact a2, ⟨by rw [h1]; exact a3.1, fun i hi => by rw [(h2 0 (by omega)).1 i]; exact a3.2 i hi⟩, ⟨by rw [h1]; exact a4.1, fun i hi => by rw [(h2 1 (by omega)).1 i]; exact a4.2 i hi⟩, fun j q hq => ?_, by rw [h1]; exact a6, by rw [h1]; exact a7, fun x i g1 g2 => ((h2 x (by omega)).1 i).trans (a8 x i g1 g2)⟩
  rw [s_ρ_set hk]
  rw [List.getElem?_set] at hq
  by_cases ej : k = j
  · subst ej
    rw [if_pos rfl, if_pos (List.getElem?_eq_some_iff.mp hk).1] at hq
    cases hq
    exact hc
  · rw [if_neg ej] at hq
    exact s_cell_mono (fun _ h => h) (fun _ _ h => h) (by rw [h1]) (h2 (j + 2) (by omega)).1 (h2 (j + 2) (by omega)).2 (a5 j q hq)
theorem s_ρ_app {b : Nat} {tt : Nat → Nat} {ws ns : va_W} (hb : ws.length + ns.length + 2 ≤ 1000000) (a q : Nat) (h : s_ρ b tt ws a = some q) : s_ρ b tt (ws ++ ns) a = some q := by
  rcases Nat.lt_or_ge a (ws.length + 2) with g | g
  · rw [s_ρ_in g] at h
    rw [s_ρ_in (by rw [List.length_append]; omega)]
    have h1 : (b :: tt 0 :: (ws ++ ns).map (fun q => q.1)) = (b :: tt 0 :: ws.map (fun q => q.1)) ++ ns.map (fun q => q.1) := by simp
    rw [h1, List.getElem?_append_left (List.getElem?_eq_some_iff.mp h).1]
    exact h
  · rw [s_ρ_out g] at h
    have g2 : 1000000 ≤ a := by
      unfold s_kρ at h
      split at h
      · omega
      · cases h
    rw [s_ρ_out (by rw [List.length_append]; omega)]
    exact h
theorem s_w_app {b : Nat} {tt : Nat → Nat} {L : Nat} {xs : Nat → Int32} {tys tys' : List (ClassId × FieldType)} {h g : j_H} {ws ns : va_W} (H : s_w b tt L xs tys h ws) (ht : ∀ q, q ∈ tys → q ∈ tys') (h1 : ∃ t, g.1 = h.1 ++ t ∧ t.length = ns.length ∧ ∀ q ∈ t, q.2 ≤ 100000) (h0 : ∃ t, g.2.1 = h.2.1 ++ t ∧ t.length = ns.length) (h2 : ∀ j, j < h.1.length → ∀ i, g.2.2 j i = h.2.2 j i) (hc : ∀ (k : Nat) (q : Nat × va_E), ns[k]? = some q → s_cell tys' (s_ρ b tt (ws ++ ns)) g (h.1.length + k) q.2) (hl : g.1.length ≤ 1000000) (hkm : s_km g.2.2) : s_w b tt L xs tys' g (ws ++ ns) := by
  obtain ⟨a1, a2, a3, a4, a5, a6, a7, a8⟩ := H
  obtain ⟨t, e1, e2, e5⟩ := h1
  obtain ⟨t', e3, e4⟩ := h0
  have k1 : ∀ j, j < h.1.length → g.1[j]? = h.1[j]? := fun j hj => by rw [e1, List.getElem?_append_left hj]
  refine ⟨by rw [e1]; simp; omega, by rw [e3]; simp; omega, ⟨by rw [k1 _ (by omega)]; exact a3.1, fun i hi => by rw [h2 0 (by omega)]; exact a3.2 i hi⟩, ⟨by rw [k1 _ (by omega)]; exact a4.1, fun i hi => by rw [h2 1 (by omega)]; exact a4.2 i hi⟩, fun j q hq => ?_, fun q hq => by rw [e1, List.mem_append] at hq; exact hq.elim (a6 q) (e5 q), hl, hkm⟩
  by_cases ej : j < ws.length
  · rw [List.getElem?_append_left ej] at hq
    refine s_cell_mono ht (s_ρ_app (by rw [e1, List.length_append] at hl; omega)) (k1 _ (by omega)) (h2 _ (by omega)) (fun i => ?_) (a5 j q hq)
    unfold j_rf
    rw [e3, List.getD_eq_getElem?_getD, List.getD_eq_getElem?_getD, List.getElem?_append_left (by omega)]
    simp [List.getD_eq_getElem?_getD]
  · rw [List.getElem?_append_right (by omega)] at hq
    have h3 := hc (j - ws.length) q hq
    rw [show h.1.length + (j - ws.length) = j + 2 by omega] at h3
    exact h3
/-- the cell behind an address -/
theorem s_w_cell {b : Nat} {tt : Nat → Nat} {L : Nat} {xs : Nat → Int32} {tys : List (ClassId × FieldType)} {h : j_H} {ws : va_W} {A q : Nat} (H : s_w b tt L xs tys h ws) (hl : A < h.1.length) (hA : 2 ≤ A) (hq : s_ρ b tt ws A = some q) : ∃ (k : Nat) (e : va_E), A = k + 2 ∧ ws[k]? = some (q, e) ∧ s_cell tys (s_ρ b tt ws) h A e := by
  obtain ⟨k, rfl⟩ : ∃ k, A = k + 2 := ⟨A - 2, by omega⟩
  have h1 : (ws.map (fun q => q.1))[k]? = some q := by
    rw [s_ρ_in (by have := H.1; omega)] at hq
    exact hq
  rw [List.getElem?_map] at h1
  cases hw : ws[k]? with
  | none => rw [hw] at h1; cases h1
  | some x =>
    rw [hw] at h1
    cases h1
    exact ⟨k, x.2, rfl, by rw [hw], H.2.2.2.2.1 k x hw⟩
/-- of what stands ahead of the start -/
theorem s_w_k {b : Nat} {tt : Nat → Nat} {L : Nat} {xs : Nat → Int32} {tys : List (ClassId × FieldType)} {h : j_H} {ws : va_W} {a q : Nat} (H : s_w b tt L xs tys h ws) (hl : h.1[a]? = none) (hq : s_ρ b tt ws a = some q) : (1000000 ≤ a ∧ a < 1000022) ∧ q = tt (a - 999999) ∧ ∀ i, h.2.2 a i = s_kb a i := by
  have h1 : ws.length + 2 ≤ a := by rw [← H.1]; exact List.getElem?_eq_none_iff.mp hl
  rw [s_ρ_out h1] at hq
  unfold s_kρ at hq
  split at hq
  · rename_i g
    cases hq
    exact ⟨g, rfl, fun i => H.2.2.2.2.2.2.2 a i g.1 g.2⟩
  · cases hq
theorem s_w_two {b : Nat} {tt : Nat → Nat} {L : Nat} {xs : Nat → Int32} {tys : List (ClassId × FieldType)} {h : j_H} {ws : va_W} {A c n : Nat} (H : s_w b tt L xs tys h ws) (hA : h.1[A]? = some (c, n)) (hc : c ≠ 32) : 2 ≤ A := by
  rcases Nat.lt_or_ge A 2 with h1 | h1
  · have h2 : A = 0 ∨ A = 1 := by omega
    rcases h2 with rfl | rfl
    · rw [H.2.2.1.1] at hA; cases hA; exact absurd rfl hc
    · rw [H.2.2.2.1.1] at hA; cases hA; exact absurd rfl hc
  · exact h1
theorem vwCl_lt {ci : Nat} {q : vw_C} (h : vwCl[ci]? = some q) : ci < 13 := (List.getElem?_eq_some_iff.mp h).1
theorem s_w_obj {b : Nat} {tt : Nat → Nat} {L : Nat} {xs : Nat → Int32} {tys : List (ClassId × FieldType)} {h : j_H} {ws : va_W} {A c n q : Nat} (H : s_w b tt L xs tys h ws) (hA : h.1[A]? = some (c, n)) (hc : c < 32) (hq : s_ρ b tt ws A = some q) : ∃ (k : Nat) (fs : List Value) (r : vw_C), A = k + 2 ∧ ws[k]? = some (q, .inr (c, fs)) ∧ vwCl[c]? = some r ∧ fs.length = r.2.2 ∧ ∀ (j : Nat) (v : Value), fs[j]? = some v → s_fld (s_ρ b tt ws) h A c j v := by
  obtain ⟨k, e, h1, h2, h3⟩ := s_w_cell H (List.getElem?_eq_some_iff.mp hA).1 (s_w_two H hA (by omega)) hq
  match e, h3 with
  | .inr (ci, fs), ⟨r, a1, a2, a3, a4⟩ =>
    rw [hA] at a2
    cases a2
    exact ⟨k, fs, r, h1, h2, a1, a3, a4⟩
  | .inl (cA, n, .inl f), ⟨t, a1, a2, a3⟩ =>
    rw [hA] at a1
    cases a1
    omega
  | .inl (cA, n, .inr (.inl f)), ⟨a1, a2, a3⟩ =>
    rw [hA] at a1
    cases a1
    omega
  | .inl (cA, n, .inr (.inr (.inr (.inr f)))), ⟨a1, a2, a3⟩ =>
    rw [hA] at a1
    cases a1
    omega
theorem s_w_int {b : Nat} {tt : Nat → Nat} {L : Nat} {xs : Nat → Int32} {tys : List (ClassId × FieldType)} {h : j_H} {ws : va_W} {A c n q : Nat} (H : s_w b tt L xs tys h ws) (hA : h.1[A]? = some (c, n)) (h2A : 2 ≤ A) (hc : c = 32 ∨ c = 34 ∨ c = 35) (hq : s_ρ b tt ws A = some q) : ∃ (k : Nat) (cA : ClassId) (f : Nat → Int32), A = k + 2 ∧ ws[k]? = some (q, .inl (cA, n, .inl f)) ∧ ((c = 32 ∧ (cA, FieldType.int) ∈ tys) ∨ (c = 34 ∧ (cA, FieldType.byte) ∈ tys) ∨ (c = 35 ∧ (cA, FieldType.boolean) ∈ tys)) ∧ ∀ i, i < n → (f i).toInt = h.2.2 A i := by
  obtain ⟨k, e, h1, h2, h3⟩ := s_w_cell H (List.getElem?_eq_some_iff.mp hA).1 h2A hq
  match e, h3 with
  | .inr (ci, fs), ⟨r, a1, a2, a3, a4⟩ =>
    rw [hA] at a2
    cases a2
    have := vwCl_lt a1
    omega
  | .inl (cA, n', .inl f), ⟨t, a1, a2, a3⟩ =>
    rw [hA] at a1
    cases a1
    exact ⟨k, cA, f, h1, h2, a2, a3⟩
  | .inl (cA, n, .inr (.inl f)), ⟨a1, a2, a3⟩ =>
    rw [hA] at a1
    cases a1
    omega
  | .inl (cA, n, .inr (.inr (.inr (.inr f)))), ⟨a1, a2, a3⟩ =>
    rw [hA] at a1
    cases a1
    omega
theorem s_w_long {b : Nat} {tt : Nat → Nat} {L : Nat} {xs : Nat → Int32} {tys : List (ClassId × FieldType)} {h : j_H} {ws : va_W} {A n q : Nat} (H : s_w b tt L xs tys h ws) (hA : h.1[A]? = some (33, n)) (hq : s_ρ b tt ws A = some q) : ∃ (k : Nat) (cA : ClassId) (f : Nat → Int64), A = k + 2 ∧ ws[k]? = some (q, .inl (cA, n, .inr (.inl f))) ∧ (cA, FieldType.long) ∈ tys ∧ ∀ i, i < n → (f i).toInt = h.2.2 A i := by
  obtain ⟨k, e, h1, h2, h3⟩ := s_w_cell H (List.getElem?_eq_some_iff.mp hA).1 (s_w_two H hA (by omega)) hq
  match e, h3 with
  | .inr (ci, fs), ⟨r, a1, a2, a3, a4⟩ =>
    rw [hA] at a2
    cases a2
    have := vwCl_lt a1
    omega
  | .inl (cA, n', .inl f), ⟨t, a1, a2, a3⟩ =>
    rw [hA] at a1
    cases a1
    omega
  | .inl (cA, n', .inr (.inl f)), ⟨a1, a2, a3⟩ =>
    rw [hA] at a1
    cases a1
    exact ⟨k, cA, f, h1, h2, a2, a3⟩
  | .inl (cA, n, .inr (.inr (.inr (.inr f)))), ⟨a1, a2, a3⟩ =>
    rw [hA] at a1
    cases a1
theorem s_w_refs {b : Nat} {tt : Nat → Nat} {L : Nat} {xs : Nat → Int32} {tys : List (ClassId × FieldType)} {h : j_H} {ws : va_W} {A n q : Nat} (H : s_w b tt L xs tys h ws) (hA : h.1[A]? = some (36, n)) (hq : s_ρ b tt ws A = some q) : ∃ (k : Nat) (cA : ClassId) (f : Nat → Option Nat), A = k + 2 ∧ ws[k]? = some (q, .inl (cA, n, .inr (.inr (.inr (.inr f))))) ∧ (cA, FieldType.array .long) ∈ tys ∧ ∀ i, i < n → s_ref (s_ρ b tt ws) (j_rf h A i) (va_rf (f i)) := by
  obtain ⟨k, e, h1, h2, h3⟩ := s_w_cell H (List.getElem?_eq_some_iff.mp hA).1 (s_w_two H hA (by omega)) hq
  match e, h3 with
  | .inr (ci, fs), ⟨r, a1, a2, a3, a4⟩ =>
    rw [hA] at a2
    cases a2
    have := vwCl_lt a1
    omega
  | .inl (cA, n', .inl f), ⟨t, a1, a2, a3⟩ =>
    rw [hA] at a1
    cases a1
    omega
  | .inl (cA, n', .inr (.inl f)), ⟨a1, a2, a3⟩ =>
    rw [hA] at a1
    cases a1
  | .inl (cA, n', .inr (.inr (.inr (.inr f)))), ⟨a1, a2, a3⟩ =>
    rw [hA] at a1
    cases a1
    exact ⟨k, cA, f, h1, h2, a2, a3⟩
end
section
/-! An instruction a row: what the abstract machine does, the machine does. -/
def lwW : List Cond := lw_tb2.filter goodWord
def s_A (sb : Nat) : Nat → Prop := fun q => sb ≤ q
/-- what stands ahead of the start, as the machine has it -/
def s_RK (tt : Nat → Nat) (sb : Nat) (s : State) (H : Heap) : Prop := va_Z "java/lang/String" "COMPACT_STRINGS" "Z" (.int 1) (s_A sb) s H ∧ va_Z "java/lang/Integer" "DigitOnes" "[B" (.ref (tt 21)) (s_A sb) s H ∧ va_Z "java/lang/Integer" "DigitTens" "[B" (.ref (tt 22)) (s_A sb) s H ∧ (∀ a N : Nat, j_kc a = some (34, N) → va_T .byte (tt (a - 999999)) N (fun j => .int (Int32.ofInt (s_kb a j))) (s_A sb) s H) ∧ (∀ k : Nat, k < 10 → va_O "java/lang/String" (tt (1 + 2 * k)) (s_A sb) s H ∧ va_OF "java/lang/String" "coder" "B" (.int 0) (tt (1 + 2 * k)) (s_A sb) s H ∧ va_OF "java/lang/String" "value" "[B" (.ref (tt (2 + 2 * k))) (tt (1 + 2 * k)) (s_A sb) s H) ∧ (∀ k x, j_tx[k]? = some x → vk_R "WholePacksLaw" x.1 x.2.1 (tt (1 + 2 * k)) s) ∧ va_Nw (.castable "[B" "java/lang/Cloneable") s ∧ ∃ v : Value, v.category = 1 ∧ va_Z "jdk/internal/util/Preconditions" "SIOOBE_FORMATTER" "Ljava/util/function/BiFunction;" v (s_A sb) s H
def s_RO (b : Nat) (tt : Nat → Nat) (L sb : Nat) (xs : Nat → Int32) (s : State) (H : Heap) : Prop := va_T .int b L (fun j => .int (xs j)) (s_A sb) s H ∧ L < 2 ^ 31 ∧ va_T .int (tt 0) 6 (fun j => .int (s_tn j)) (s_A sb) s H ∧ va_Z "WholePacks" "TENS" "[I" (.ref (tt 0)) (s_A sb) s H ∧ (∀ t ∈ j_fn, va_Nw (j_fnw t) s) ∧ (∀ t ∈ j_fsn, va_Nw (j_fsw t) s) ∧ (∀ t ∈ j_mn, va_Nw (j_mnw t) s) ∧ (va_AOA .long s ∧ s_RK tt sb s H) ∧ sb ≤ H.size
def s_C (p : Program) (s : State) (m : MethodId) (args : Array Value) (meth : Method) (c : Code) (R : Room) (q : j_M) (b : Nat) (tt : Nat → Nat) (L sb : Nat) (xs : Nat → Int32) (nL : Nat) : Prop := p.tables.exec = Jvm.exec ∧ c.code = q.2.1 ∧ c.maxLocals = nL ∧ s.vm.findClass (j_cnm q.2.2.2.2.1) = some m.cls ∧ (∀ w, w ∈ lw_tb2 → goodWord w = true → w.before args s = true) ∧ (q.2.2.2.2.2.1 = 2 → meth.name = "<init>") ∧ 40 ≤ R.locals ∧ 1 ≤ R.frames ∧ s_RO b tt L sb xs s s.heap
def s_St (D : va_G) (b : Nat) (tt : Nat → Nat) (L sb : Nat) (xs : Nat → Int32) (s : State) (h : j_H) (H : Heap) (locs : List Loc) (tys : List (ClassId × FieldType)) (ws : va_W) : Prop := s_w b tt L xs tys h ws ∧ va_P D vwCl ws H ∧ va_K D vwCl tys s ∧ va_D (s_A sb) ws ∧ va_S (s_A sb) s.heap H locs
def s_G (D : va_G) (b : Nat) (tt : Nat → Nat) (L sb : Nat) (xs : Nat → Int32) (s : State) (ρ0 : j_P) (nL zc zs mc ms : Nat) (m : MethodId) (Wf : Heap → List Loc → Nat → Nat → JFrame → Prop) (pc : Nat) (ls : j_L) (st : List j_V) (h : j_H) : Prop :=
  ∀ (H : Heap) (locs : List Loc) (cells slots : Nat) (ws : va_W) (tys : List (ClassId × FieldType)) (lsR : Array Slot) (rl : List (Option Value)) (stR : List Value), s_St D b tt L sb xs s h H locs tys ws → (∀ a q : Nat, ρ0 a = some q → s_ρ b tt ws a = some q) → s_lo (s_ρ b tt ws) ls rl → lv_has lsR nL (s_as 0 rl) → s_st (s_ρ b tt ws) st stR → cells + zc = mc + h.1.length → slots + zs = ms + s_sl h → Wf H locs cells slots (F0 m pc lsR stR)
theorem s_st1 {ρ : j_P} {v : j_V} {r : List j_V} {k : List Value} (h : s_st ρ (v :: r) k) : ∃ w z, k = w :: z ∧ s_val ρ v w ∧ s_st ρ r z := by
  match k, h with
  | w :: z, h => exact ⟨w, z, rfl, h.1, h.2⟩
theorem s_st2 {ρ : j_P} {v u : j_V} {r : List j_V} {k : List Value} (h : s_st ρ (v :: u :: r) k) : ∃ w x z, k = w :: x :: z ∧ s_val ρ v w ∧ s_val ρ u x ∧ s_st ρ r z := by
  obtain ⟨w, z, rfl, h1, h2⟩ := s_st1 h
  obtain ⟨x, z, rfl, h3, h4⟩ := s_st1 h2
  exact ⟨w, x, z, rfl, h1, h3, h4⟩
theorem s_st3 {ρ : j_P} {v u t : j_V} {r : List j_V} {k : List Value} (h : s_st ρ (v :: u :: t :: r) k) : ∃ w x y z, k = w :: x :: y :: z ∧ s_val ρ v w ∧ s_val ρ u x ∧ s_val ρ t y ∧ s_st ρ r z := by
  obtain ⟨w, x, z, rfl, h1, h2, h3⟩ := s_st2 h
  obtain ⟨y, z, rfl, h4, h5⟩ := s_st1 h3
  exact ⟨w, x, y, z, rfl, h1, h2, h4, h5⟩
theorem j_ld_some {ls : j_L} {k : Nat} {v : j_V} (h : j_ld ls k = some v) : ls[k]? = some (some v) := by
  unfold j_ld at h
  split at h
  · rename_i o e
    rw [e, h]
  · cases h
theorem s_ldv {ρ : j_P} {ls : j_L} {rl : List (Option Value)} {A : Array Slot} {nL k : Nat} {v : j_V} (hl : s_lo ρ ls rl) (hv : lv_has A nL (s_as 0 rl)) (h : j_ld ls k = some v) : ∃ w, A[k]? = some (.val w) ∧ s_val ρ v w := by
  obtain ⟨w, h1, h2⟩ := s_lo_get hl (j_ld_some h)
  exact ⟨w, hv.2.2 (k, w) (s_as_mem0.mpr h1), h2⟩
theorem j_s1_some {ls l : j_L} {k : Nat} {v : j_V} (h : j_s1 ls k v = some l) : j_pre ls k = true ∧ k < ls.length ∧ l = ls.set k (some v) := by
  unfold j_s1 at h
  split at h
  · split at h
    · cases h
      exact ⟨by assumption, by assumption, rfl⟩
    · cases h
  · cases h
theorem j_s2_some {ls l : j_L} {k : Nat} {v : j_V} (h : j_s2 ls k v = some l) : j_pre ls k = true ∧ k + 1 < ls.length ∧ l = (ls.set k (some v)).set (k + 1) none := by
  unfold j_s2 at h
  split at h
  · split at h
    · cases h
      exact ⟨by assumption, by assumption, rfl⟩
    · cases h
  · cases h
theorem s_has_len {ρ : j_P} {ls : j_L} {rl : List (Option Value)} {A : Array Slot} {nL : Nat} (h : ls.length = nL) (hl : s_lo ρ ls rl) : rl.length = nL := (s_lo_len hl).symm.trans h
theorem s_irem (a b : Int32) : (a - a / b * b).toInt = a.toInt.tmod b.toInt := by
  rw [Int32.toInt_sub, Int32.toInt_mul, Int32.toInt_div, Int.bmod_mul_bmod, Int.sub_bmod_bmod, ← Int32.toInt_mod, ← Int32.toInt_bmod (a % b), Int32.toInt_mod]
  rw [Int.tmod_def, Int.mul_comm]
theorem s_lrem (a b : Int64) : (a - a / b * b).toInt = a.toInt.tmod b.toInt := by
  rw [Int64.toInt_sub, Int64.toInt_mul, Int64.toInt_div, Int.bmod_mul_bmod, Int.sub_bmod_bmod, ← Int64.toInt_mod, ← Int64.toInt_bmod (a % b), Int64.toInt_mod]
  rw [Int.tmod_def, Int.mul_comm]
theorem s_i0 {n : Int32} : n = 0 ↔ n.toInt = 0 := by rw [← Int32.toInt_inj]; rfl
theorem s_l0 {n : Int64} : n = 0 ↔ n.toInt = 0 := by rw [← Int64.toInt_inj]; rfl
section SR
variable {p : Program} {l : Launch} {e : Env} {R : Room} {s : State} {m : MethodId} {args : Array Value} {below : List Frame} {meth : Method} {c : Code} {Q : State → Prop} {D : va_G} {b : Nat} {tt : Nat → Nat} {L sb nL zc zs mc ms pc : Nat} {xs : Nat → Int32} {ρ0 : j_P} {q : j_M} {ls : j_L} {r : List j_V} {h : j_H}
theorem r_iadd (hC : s_C p s m args meth c R q b tt L sb xs nL) {x y : Int}  (hdg : decode q.2.1 pc = .ok (.iadd, 1))
    (K : s_G D b tt L sb xs s ρ0 nL zc zs mc ms m (fun H locs cells slots g => W p l e R s m args below meth c H locs cells slots Q g) (pc + 1) ls (jI (w32 (x + y)) :: r) h) : s_G D b tt L sb xs s ρ0 nL zc zs mc ms m (fun H locs cells slots g => W p l e R s m args below meth c H locs cells slots Q g) pc ls (jI y :: jI x :: r) h := by
  intro H locs cells slots ws tys lsR rl stR hS hx hl hv hst hc hs
  obtain ⟨w1, w2, z, rfl, ⟨n1, rfl, e1⟩, ⟨n2, rfl, e2⟩, hz⟩ := s_st2 hst
  exact lv_iadd hC.1 hC.2.1 hdg  (K _ _ _ _ _ _ _ _ _ hS hx hl hv ⟨⟨_, rfl, by rw [Int32.toInt_add, e1, e2]; rfl⟩, hz⟩ hc hs)
theorem r_isub (hC : s_C p s m args meth c R q b tt L sb xs nL) {x y : Int}  (hdg : decode q.2.1 pc = .ok (.isub, 1))
    (K : s_G D b tt L sb xs s ρ0 nL zc zs mc ms m (fun H locs cells slots g => W p l e R s m args below meth c H locs cells slots Q g) (pc + 1) ls (jI (w32 (x - y)) :: r) h) : s_G D b tt L sb xs s ρ0 nL zc zs mc ms m (fun H locs cells slots g => W p l e R s m args below meth c H locs cells slots Q g) pc ls (jI y :: jI x :: r) h := by
  intro H locs cells slots ws tys lsR rl stR hS hx hl hv hst hc hs
  obtain ⟨w1, w2, z, rfl, ⟨n1, rfl, e1⟩, ⟨n2, rfl, e2⟩, hz⟩ := s_st2 hst
  exact lv_isub hC.1 hC.2.1 hdg  (K _ _ _ _ _ _ _ _ _ hS hx hl hv ⟨⟨_, rfl, by rw [Int32.toInt_sub, e1, e2]; rfl⟩, hz⟩ hc hs)
theorem r_imul (hC : s_C p s m args meth c R q b tt L sb xs nL) {x y : Int}  (hdg : decode q.2.1 pc = .ok (.imul, 1))
    (K : s_G D b tt L sb xs s ρ0 nL zc zs mc ms m (fun H locs cells slots g => W p l e R s m args below meth c H locs cells slots Q g) (pc + 1) ls (jI (w32 (x * y)) :: r) h) : s_G D b tt L sb xs s ρ0 nL zc zs mc ms m (fun H locs cells slots g => W p l e R s m args below meth c H locs cells slots Q g) pc ls (jI y :: jI x :: r) h := by
  intro H locs cells slots ws tys lsR rl stR hS hx hl hv hst hc hs
  obtain ⟨w1, w2, z, rfl, ⟨n1, rfl, e1⟩, ⟨n2, rfl, e2⟩, hz⟩ := s_st2 hst
  exact lv_imul hC.1 hC.2.1 hdg  (K _ _ _ _ _ _ _ _ _ hS hx hl hv ⟨⟨_, rfl, by rw [Int32.toInt_mul, e1, e2]; rfl⟩, hz⟩ hc hs)
theorem r_idiv (hC : s_C p s m args meth c R q b tt L sb xs nL) {x y : Int} (hy : ¬ y = 0) (hdg : decode q.2.1 pc = .ok (.idiv, 1))
    (K : s_G D b tt L sb xs s ρ0 nL zc zs mc ms m (fun H locs cells slots g => W p l e R s m args below meth c H locs cells slots Q g) (pc + 1) ls (jI (w32 (x.tdiv y)) :: r) h) : s_G D b tt L sb xs s ρ0 nL zc zs mc ms m (fun H locs cells slots g => W p l e R s m args below meth c H locs cells slots Q g) pc ls (jI y :: jI x :: r) h := by
  intro H locs cells slots ws tys lsR rl stR hS hx hl hv hst hc hs
  obtain ⟨w1, w2, z, rfl, ⟨n1, rfl, e1⟩, ⟨n2, rfl, e2⟩, hz⟩ := s_st2 hst
  exact lv_idiv hC.1 hC.2.1 hdg (fun h0 => hy (by rw [← e1]; exact s_i0.mp h0)) (K _ _ _ _ _ _ _ _ _ hS hx hl hv ⟨⟨_, rfl, by rw [Int32.toInt_div, e1, e2]; rfl⟩, hz⟩ hc hs)
theorem r_irem (hC : s_C p s m args meth c R q b tt L sb xs nL) {x y : Int} (hy : ¬ y = 0) (hdg : decode q.2.1 pc = .ok (.irem, 1))
    (K : s_G D b tt L sb xs s ρ0 nL zc zs mc ms m (fun H locs cells slots g => W p l e R s m args below meth c H locs cells slots Q g) (pc + 1) ls (jI (x.tmod y) :: r) h) : s_G D b tt L sb xs s ρ0 nL zc zs mc ms m (fun H locs cells slots g => W p l e R s m args below meth c H locs cells slots Q g) pc ls (jI y :: jI x :: r) h := by
  intro H locs cells slots ws tys lsR rl stR hS hx hl hv hst hc hs
  obtain ⟨w1, w2, z, rfl, ⟨n1, rfl, e1⟩, ⟨n2, rfl, e2⟩, hz⟩ := s_st2 hst
  exact lv_irem hC.1 hC.2.1 hdg (fun h0 => hy (by rw [← e1]; exact s_i0.mp h0)) (K _ _ _ _ _ _ _ _ _ hS hx hl hv ⟨⟨_, rfl, by rw [s_irem, e1, e2]⟩, hz⟩ hc hs)
theorem r_iand (hC : s_C p s m args meth c R q b tt L sb xs nL) {x y : Int}  (hdg : decode q.2.1 pc = .ok (.iand, 1))
    (K : s_G D b tt L sb xs s ρ0 nL zc zs mc ms m (fun H locs cells slots g => W p l e R s m args below meth c H locs cells slots Q g) (pc + 1) ls (jI (j_and x y) :: r) h) : s_G D b tt L sb xs s ρ0 nL zc zs mc ms m (fun H locs cells slots g => W p l e R s m args below meth c H locs cells slots Q g) pc ls (jI y :: jI x :: r) h := by
  intro H locs cells slots ws tys lsR rl stR hS hx hl hv hst hc hs
  obtain ⟨w1, w2, z, rfl, ⟨n1, rfl, e1⟩, ⟨n2, rfl, e2⟩, hz⟩ := s_st2 hst
  exact lv_iand hC.1 hC.2.1 hdg  (K _ _ _ _ _ _ _ _ _ hS hx hl hv ⟨⟨_, rfl, by unfold j_and; rw [← e1, ← e2, Int32.ofInt_toInt, Int32.ofInt_toInt]⟩, hz⟩ hc hs)
theorem r_ixor (hC : s_C p s m args meth c R q b tt L sb xs nL) {x y : Int}  (hdg : decode q.2.1 pc = .ok (.ixor, 1))
    (K : s_G D b tt L sb xs s ρ0 nL zc zs mc ms m (fun H locs cells slots g => W p l e R s m args below meth c H locs cells slots Q g) (pc + 1) ls (jI (j_xor x y) :: r) h) : s_G D b tt L sb xs s ρ0 nL zc zs mc ms m (fun H locs cells slots g => W p l e R s m args below meth c H locs cells slots Q g) pc ls (jI y :: jI x :: r) h := by
  intro H locs cells slots ws tys lsR rl stR hS hx hl hv hst hc hs
  obtain ⟨w1, w2, z, rfl, ⟨n1, rfl, e1⟩, ⟨n2, rfl, e2⟩, hz⟩ := s_st2 hst
  exact lv_ixor hC.1 hC.2.1 hdg  (K _ _ _ _ _ _ _ _ _ hS hx hl hv ⟨⟨_, rfl, by unfold j_xor; rw [← e1, ← e2, Int32.ofInt_toInt, Int32.ofInt_toInt]⟩, hz⟩ hc hs)
theorem r_iushr (hC : s_C p s m args meth c R q b tt L sb xs nL) {x y : Int}  (hdg : decode q.2.1 pc = .ok (.iushr, 1))
    (K : s_G D b tt L sb xs s ρ0 nL zc zs mc ms m (fun H locs cells slots g => W p l e R s m args below meth c H locs cells slots Q g) (pc + 1) ls (jI (j_ushr x y) :: r) h) : s_G D b tt L sb xs s ρ0 nL zc zs mc ms m (fun H locs cells slots g => W p l e R s m args below meth c H locs cells slots Q g) pc ls (jI y :: jI x :: r) h := by
  intro H locs cells slots ws tys lsR rl stR hS hx hl hv hst hc hs
  obtain ⟨w1, w2, z, rfl, ⟨n1, rfl, e1⟩, ⟨n2, rfl, e2⟩, hz⟩ := s_st2 hst
  exact lv_iushr hC.1 hC.2.1 hdg rfl (K _ _ _ _ _ _ _ _ _ hS hx hl hv ⟨⟨_, rfl, by unfold j_ushr; rw [← e1, ← e2, Int32.ofInt_toInt, Int32.ofInt_toInt]⟩, hz⟩ hc hs)
theorem r_ladd (hC : s_C p s m args meth c R q b tt L sb xs nL) {x y : Int}  (hdg : decode q.2.1 pc = .ok (.ladd, 1))
    (K : s_G D b tt L sb xs s ρ0 nL zc zs mc ms m (fun H locs cells slots g => W p l e R s m args below meth c H locs cells slots Q g) (pc + 1) ls (jL (w64 (x + y)) :: r) h) : s_G D b tt L sb xs s ρ0 nL zc zs mc ms m (fun H locs cells slots g => W p l e R s m args below meth c H locs cells slots Q g) pc ls (jL y :: jL x :: r) h := by
  intro H locs cells slots ws tys lsR rl stR hS hx hl hv hst hc hs
  obtain ⟨w1, w2, z, rfl, ⟨n1, rfl, e1⟩, ⟨n2, rfl, e2⟩, hz⟩ := s_st2 hst
  exact lv_ladd hC.1 hC.2.1 hdg  (K _ _ _ _ _ _ _ _ _ hS hx hl hv ⟨⟨_, rfl, by rw [Int64.toInt_add, e1, e2]; rfl⟩, hz⟩ hc hs)
theorem r_lsub (hC : s_C p s m args meth c R q b tt L sb xs nL) {x y : Int}  (hdg : decode q.2.1 pc = .ok (.lsub, 1))
    (K : s_G D b tt L sb xs s ρ0 nL zc zs mc ms m (fun H locs cells slots g => W p l e R s m args below meth c H locs cells slots Q g) (pc + 1) ls (jL (w64 (x - y)) :: r) h) : s_G D b tt L sb xs s ρ0 nL zc zs mc ms m (fun H locs cells slots g => W p l e R s m args below meth c H locs cells slots Q g) pc ls (jL y :: jL x :: r) h := by
  intro H locs cells slots ws tys lsR rl stR hS hx hl hv hst hc hs
  obtain ⟨w1, w2, z, rfl, ⟨n1, rfl, e1⟩, ⟨n2, rfl, e2⟩, hz⟩ := s_st2 hst
  exact lv_lsub hC.1 hC.2.1 hdg  (K _ _ _ _ _ _ _ _ _ hS hx hl hv ⟨⟨_, rfl, by rw [Int64.toInt_sub, e1, e2]; rfl⟩, hz⟩ hc hs)
theorem r_lmul (hC : s_C p s m args meth c R q b tt L sb xs nL) {x y : Int}  (hdg : decode q.2.1 pc = .ok (.lmul, 1))
    (K : s_G D b tt L sb xs s ρ0 nL zc zs mc ms m (fun H locs cells slots g => W p l e R s m args below meth c H locs cells slots Q g) (pc + 1) ls (jL (w64 (x * y)) :: r) h) : s_G D b tt L sb xs s ρ0 nL zc zs mc ms m (fun H locs cells slots g => W p l e R s m args below meth c H locs cells slots Q g) pc ls (jL y :: jL x :: r) h := by
  intro H locs cells slots ws tys lsR rl stR hS hx hl hv hst hc hs
  obtain ⟨w1, w2, z, rfl, ⟨n1, rfl, e1⟩, ⟨n2, rfl, e2⟩, hz⟩ := s_st2 hst
  exact lv_lmul hC.1 hC.2.1 hdg  (K _ _ _ _ _ _ _ _ _ hS hx hl hv ⟨⟨_, rfl, by rw [Int64.toInt_mul, e1, e2]; rfl⟩, hz⟩ hc hs)
theorem r_ldiv (hC : s_C p s m args meth c R q b tt L sb xs nL) {x y : Int} (hy : ¬ y = 0) (hdg : decode q.2.1 pc = .ok (.ldiv, 1))
    (K : s_G D b tt L sb xs s ρ0 nL zc zs mc ms m (fun H locs cells slots g => W p l e R s m args below meth c H locs cells slots Q g) (pc + 1) ls (jL (w64 (x.tdiv y)) :: r) h) : s_G D b tt L sb xs s ρ0 nL zc zs mc ms m (fun H locs cells slots g => W p l e R s m args below meth c H locs cells slots Q g) pc ls (jL y :: jL x :: r) h := by
  intro H locs cells slots ws tys lsR rl stR hS hx hl hv hst hc hs
  obtain ⟨w1, w2, z, rfl, ⟨n1, rfl, e1⟩, ⟨n2, rfl, e2⟩, hz⟩ := s_st2 hst
  exact lv_ldiv hC.1 hC.2.1 hdg (fun h0 => hy (by rw [← e1]; exact s_l0.mp h0)) (K _ _ _ _ _ _ _ _ _ hS hx hl hv ⟨⟨_, rfl, by rw [Int64.toInt_div, e1, e2]; rfl⟩, hz⟩ hc hs)
theorem r_lrem (hC : s_C p s m args meth c R q b tt L sb xs nL) {x y : Int} (hy : ¬ y = 0) (hdg : decode q.2.1 pc = .ok (.lrem, 1))
    (K : s_G D b tt L sb xs s ρ0 nL zc zs mc ms m (fun H locs cells slots g => W p l e R s m args below meth c H locs cells slots Q g) (pc + 1) ls (jL (x.tmod y) :: r) h) : s_G D b tt L sb xs s ρ0 nL zc zs mc ms m (fun H locs cells slots g => W p l e R s m args below meth c H locs cells slots Q g) pc ls (jL y :: jL x :: r) h := by
  intro H locs cells slots ws tys lsR rl stR hS hx hl hv hst hc hs
  obtain ⟨w1, w2, z, rfl, ⟨n1, rfl, e1⟩, ⟨n2, rfl, e2⟩, hz⟩ := s_st2 hst
  exact lv_lrem hC.1 hC.2.1 hdg (fun h0 => hy (by rw [← e1]; exact s_l0.mp h0)) (K _ _ _ _ _ _ _ _ _ hS hx hl hv ⟨⟨_, rfl, by rw [s_lrem, e1, e2]⟩, hz⟩ hc hs)
theorem r_land (hC : s_C p s m args meth c R q b tt L sb xs nL) {x y : Int}  (hdg : decode q.2.1 pc = .ok (.land, 1))
    (K : s_G D b tt L sb xs s ρ0 nL zc zs mc ms m (fun H locs cells slots g => W p l e R s m args below meth c H locs cells slots Q g) (pc + 1) ls (jL (j_land x y) :: r) h) : s_G D b tt L sb xs s ρ0 nL zc zs mc ms m (fun H locs cells slots g => W p l e R s m args below meth c H locs cells slots Q g) pc ls (jL y :: jL x :: r) h := by
  intro H locs cells slots ws tys lsR rl stR hS hx hl hv hst hc hs
  obtain ⟨w1, w2, z, rfl, ⟨n1, rfl, e1⟩, ⟨n2, rfl, e2⟩, hz⟩ := s_st2 hst
  exact lv_land hC.1 hC.2.1 hdg  (K _ _ _ _ _ _ _ _ _ hS hx hl hv ⟨⟨_, rfl, by unfold j_land; rw [← e1, ← e2, Int64.ofInt_toInt, Int64.ofInt_toInt]⟩, hz⟩ hc hs)
theorem r_lor (hC : s_C p s m args meth c R q b tt L sb xs nL) {x y : Int}  (hdg : decode q.2.1 pc = .ok (.lor, 1))
    (K : s_G D b tt L sb xs s ρ0 nL zc zs mc ms m (fun H locs cells slots g => W p l e R s m args below meth c H locs cells slots Q g) (pc + 1) ls (jL (j_lor x y) :: r) h) : s_G D b tt L sb xs s ρ0 nL zc zs mc ms m (fun H locs cells slots g => W p l e R s m args below meth c H locs cells slots Q g) pc ls (jL y :: jL x :: r) h := by
  intro H locs cells slots ws tys lsR rl stR hS hx hl hv hst hc hs
  obtain ⟨w1, w2, z, rfl, ⟨n1, rfl, e1⟩, ⟨n2, rfl, e2⟩, hz⟩ := s_st2 hst
  exact lv_lor hC.1 hC.2.1 hdg  (K _ _ _ _ _ _ _ _ _ hS hx hl hv ⟨⟨_, rfl, by unfold j_lor; rw [← e1, ← e2, Int64.ofInt_toInt, Int64.ofInt_toInt]⟩, hz⟩ hc hs)
theorem r_lxor (hC : s_C p s m args meth c R q b tt L sb xs nL) {x y : Int}  (hdg : decode q.2.1 pc = .ok (.lxor, 1))
    (K : s_G D b tt L sb xs s ρ0 nL zc zs mc ms m (fun H locs cells slots g => W p l e R s m args below meth c H locs cells slots Q g) (pc + 1) ls (jL (j_lxor x y) :: r) h) : s_G D b tt L sb xs s ρ0 nL zc zs mc ms m (fun H locs cells slots g => W p l e R s m args below meth c H locs cells slots Q g) pc ls (jL y :: jL x :: r) h := by
  intro H locs cells slots ws tys lsR rl stR hS hx hl hv hst hc hs
  obtain ⟨w1, w2, z, rfl, ⟨n1, rfl, e1⟩, ⟨n2, rfl, e2⟩, hz⟩ := s_st2 hst
  exact lv_lxor hC.1 hC.2.1 hdg  (K _ _ _ _ _ _ _ _ _ hS hx hl hv ⟨⟨_, rfl, by unfold j_lxor; rw [← e1, ← e2, Int64.ofInt_toInt, Int64.ofInt_toInt]⟩, hz⟩ hc hs)
theorem s_cmp (a b : Int64) : (lg_cmp a b).toInt = j_cmp a.toInt b.toInt := by
  unfold lg_cmp j_cmp
  simp only [GT.gt, Int64.lt_iff_toInt_lt, ← Int64.toInt_inj]
  split
  · rw [if_neg (by omega), if_neg (by omega)]; rfl
  · split
    · rw [if_neg (by omega)]; rfl
    · rw [if_pos (by omega)]; rfl
theorem r_lcmp (hC : s_C p s m args meth c R q b tt L sb xs nL) {x y : Int}  (hdg : decode q.2.1 pc = .ok (.lcmp, 1))
    (K : s_G D b tt L sb xs s ρ0 nL zc zs mc ms m (fun H locs cells slots g => W p l e R s m args below meth c H locs cells slots Q g) (pc + 1) ls (jI (j_cmp x y) :: r) h) : s_G D b tt L sb xs s ρ0 nL zc zs mc ms m (fun H locs cells slots g => W p l e R s m args below meth c H locs cells slots Q g) pc ls (jL y :: jL x :: r) h := by
  intro H locs cells slots ws tys lsR rl stR hS hx hl hv hst hc hs
  obtain ⟨w1, w2, z, rfl, ⟨n1, rfl, e1⟩, ⟨n2, rfl, e2⟩, hz⟩ := s_st2 hst
  exact W.lcmp hC.1 hC.2.1 hdg  (K _ _ _ _ _ _ _ _ _ hS hx hl hv ⟨⟨_, rfl, by rw [s_cmp, e1, e2]⟩, hz⟩ hc hs)
theorem r_lshl (hC : s_C p s m args meth c R q b tt L sb xs nL) {x y : Int} (hdg : decode q.2.1 pc = .ok (.lshl, 1))
    (K : s_G D b tt L sb xs s ρ0 nL zc zs mc ms m (fun H locs cells slots g => W p l e R s m args below meth c H locs cells slots Q g) (pc + 1) ls (jL (j_lshl x y) :: r) h) : s_G D b tt L sb xs s ρ0 nL zc zs mc ms m (fun H locs cells slots g => W p l e R s m args below meth c H locs cells slots Q g) pc ls (jI y :: jL x :: r) h := by
  intro H locs cells slots ws tys lsR rl stR hS hx hl hv hst hc hs
  obtain ⟨w1, w2, z, rfl, ⟨n1, rfl, e1⟩, ⟨n2, rfl, e2⟩, hz⟩ := s_st2 hst
  exact lv_lshl hC.1 hC.2.1 hdg rfl (K _ _ _ _ _ _ _ _ _ hS hx hl hv ⟨⟨_, rfl, by unfold j_lshl; rw [← e1, ← e2, Int32.ofInt_toInt, Int64.ofInt_toInt]⟩, hz⟩ hc hs)
theorem r_ineg (hC : s_C p s m args meth c R q b tt L sb xs nL) {x : Int} (hdg : decode q.2.1 pc = .ok (.ineg, 1))
    (K : s_G D b tt L sb xs s ρ0 nL zc zs mc ms m (fun H locs cells slots g => W p l e R s m args below meth c H locs cells slots Q g) (pc + 1) ls (jI (w32 (-x)) :: r) h) : s_G D b tt L sb xs s ρ0 nL zc zs mc ms m (fun H locs cells slots g => W p l e R s m args below meth c H locs cells slots Q g) pc ls (jI x :: r) h := by
  intro H locs cells slots ws tys lsR rl stR hS hx hl hv hst hc hs
  obtain ⟨w1, z, rfl, ⟨n1, rfl, e1⟩, hz⟩ := s_st1 hst
  exact lv_ineg hC.1 hC.2.1 hdg  (K _ _ _ _ _ _ _ _ _ hS hx hl hv ⟨⟨_, rfl, by rw [Int32.toInt_neg, e1]; rfl⟩, hz⟩ hc hs)
theorem r_lneg (hC : s_C p s m args meth c R q b tt L sb xs nL) {x : Int} (hdg : decode q.2.1 pc = .ok (.lneg, 1))
    (K : s_G D b tt L sb xs s ρ0 nL zc zs mc ms m (fun H locs cells slots g => W p l e R s m args below meth c H locs cells slots Q g) (pc + 1) ls (jL (w64 (-x)) :: r) h) : s_G D b tt L sb xs s ρ0 nL zc zs mc ms m (fun H locs cells slots g => W p l e R s m args below meth c H locs cells slots Q g) pc ls (jL x :: r) h := by
  intro H locs cells slots ws tys lsR rl stR hS hx hl hv hst hc hs
  obtain ⟨w1, z, rfl, ⟨n1, rfl, e1⟩, hz⟩ := s_st1 hst
  exact lv_lneg hC.1 hC.2.1 hdg  (K _ _ _ _ _ _ _ _ _ hS hx hl hv ⟨⟨_, rfl, by rw [Int64.toInt_neg, e1]; rfl⟩, hz⟩ hc hs)
theorem r_i2l (hC : s_C p s m args meth c R q b tt L sb xs nL) {x : Int} (hdg : decode q.2.1 pc = .ok (.i2l, 1))
    (K : s_G D b tt L sb xs s ρ0 nL zc zs mc ms m (fun H locs cells slots g => W p l e R s m args below meth c H locs cells slots Q g) (pc + 1) ls (jL (x) :: r) h) : s_G D b tt L sb xs s ρ0 nL zc zs mc ms m (fun H locs cells slots g => W p l e R s m args below meth c H locs cells slots Q g) pc ls (jI x :: r) h := by
  intro H locs cells slots ws tys lsR rl stR hS hx hl hv hst hc hs
  obtain ⟨w1, z, rfl, ⟨n1, rfl, e1⟩, hz⟩ := s_st1 hst
  exact lv_i2l hC.1 hC.2.1 hdg rfl (K _ _ _ _ _ _ _ _ _ hS hx hl hv ⟨⟨_, rfl, by rw [Int32.toInt_toInt64, e1]⟩, hz⟩ hc hs)
theorem r_l2i (hC : s_C p s m args meth c R q b tt L sb xs nL) {x : Int} (hdg : decode q.2.1 pc = .ok (.l2i, 1))
    (K : s_G D b tt L sb xs s ρ0 nL zc zs mc ms m (fun H locs cells slots g => W p l e R s m args below meth c H locs cells slots Q g) (pc + 1) ls (jI (w32 x) :: r) h) : s_G D b tt L sb xs s ρ0 nL zc zs mc ms m (fun H locs cells slots g => W p l e R s m args below meth c H locs cells slots Q g) pc ls (jL x :: r) h := by
  intro H locs cells slots ws tys lsR rl stR hS hx hl hv hst hc hs
  obtain ⟨w1, z, rfl, ⟨n1, rfl, e1⟩, hz⟩ := s_st1 hst
  exact lv_l2i hC.1 hC.2.1 hdg rfl (K _ _ _ _ _ _ _ _ _ hS hx hl hv ⟨⟨_, rfl, by rw [Int64.toInt_toInt32, e1]; rfl⟩, hz⟩ hc hs)
theorem r_i2b (hC : s_C p s m args meth c R q b tt L sb xs nL) {x : Int} (hdg : decode q.2.1 pc = .ok (.i2b, 1))
    (K : s_G D b tt L sb xs s ρ0 nL zc zs mc ms m (fun H locs cells slots g => W p l e R s m args below meth c H locs cells slots Q g) (pc + 1) ls (jI (w8 x) :: r) h) : s_G D b tt L sb xs s ρ0 nL zc zs mc ms m (fun H locs cells slots g => W p l e R s m args below meth c H locs cells slots Q g) pc ls (jI x :: r) h := by
  intro H locs cells slots ws tys lsR rl stR hS hx hl hv hst hc hs
  obtain ⟨w1, z, rfl, ⟨n1, rfl, e1⟩, hz⟩ := s_st1 hst
  exact lv_i2b hC.1 hC.2.1 hdg rfl (K _ _ _ _ _ _ _ _ _ hS hx hl hv ⟨⟨_, rfl, by rw [Int8.toInt_toInt32, Int32.toInt_toInt8, e1]; rfl⟩, hz⟩ hc hs)
theorem r_i2s (hC : s_C p s m args meth c R q b tt L sb xs nL) {x : Int} (hdg : decode q.2.1 pc = .ok (.i2s, 1))
    (K : s_G D b tt L sb xs s ρ0 nL zc zs mc ms m (fun H locs cells slots g => W p l e R s m args below meth c H locs cells slots Q g) (pc + 1) ls (jI (w16 x) :: r) h) : s_G D b tt L sb xs s ρ0 nL zc zs mc ms m (fun H locs cells slots g => W p l e R s m args below meth c H locs cells slots Q g) pc ls (jI x :: r) h := by
  intro H locs cells slots ws tys lsR rl stR hS hx hl hv hst hc hs
  obtain ⟨w1, z, rfl, ⟨n1, rfl, e1⟩, hz⟩ := s_st1 hst
  exact lv_i2s hC.1 hC.2.1 hdg rfl (K _ _ _ _ _ _ _ _ _ hS hx hl hv ⟨⟨_, rfl, by rw [Int16.toInt_toInt32, Int32.toInt_toInt16, e1]; rfl⟩, hz⟩ hc hs)
theorem r_iconst (hC : s_C p s m args meth c R q b tt L sb xs nL) {n z : Int} (hz : (Int32.ofInt n).toInt = z) (hdg : decode q.2.1 pc = .ok (.iconst n, 1))
    (K : s_G D b tt L sb xs s ρ0 nL zc zs mc ms m (fun H locs cells slots g => W p l e R s m args below meth c H locs cells slots Q g) (pc + 1) ls (jI z :: r) h) : s_G D b tt L sb xs s ρ0 nL zc zs mc ms m (fun H locs cells slots g => W p l e R s m args below meth c H locs cells slots Q g) pc ls r h := by
  intro H locs cells slots ws tys lsR rl stR hS hx hl hv hst hc hs
  exact lv_iconst hC.1 hC.2.1 hdg rfl (K _ _ _ _ _ _ _ _ _ hS hx hl hv ⟨⟨_, rfl, hz⟩, hst⟩ hc hs)
theorem r_bipush (hC : s_C p s m args meth c R q b tt L sb xs nL) {n z : Int} (hz : (Int8.ofInt n).toInt32.toInt = z) (hdg : decode q.2.1 pc = .ok (.bipush n, 2))
    (K : s_G D b tt L sb xs s ρ0 nL zc zs mc ms m (fun H locs cells slots g => W p l e R s m args below meth c H locs cells slots Q g) (pc + 2) ls (jI z :: r) h) : s_G D b tt L sb xs s ρ0 nL zc zs mc ms m (fun H locs cells slots g => W p l e R s m args below meth c H locs cells slots Q g) pc ls r h := by
  intro H locs cells slots ws tys lsR rl stR hS hx hl hv hst hc hs
  exact lv_bipush hC.1 hC.2.1 hdg rfl (K _ _ _ _ _ _ _ _ _ hS hx hl hv ⟨⟨_, rfl, hz⟩, hst⟩ hc hs)
theorem r_sipush (hC : s_C p s m args meth c R q b tt L sb xs nL) {n z : Int} (hz : (Int16.ofInt n).toInt32.toInt = z) (hdg : decode q.2.1 pc = .ok (.sipush n, 3))
    (K : s_G D b tt L sb xs s ρ0 nL zc zs mc ms m (fun H locs cells slots g => W p l e R s m args below meth c H locs cells slots Q g) (pc + 3) ls (jI z :: r) h) : s_G D b tt L sb xs s ρ0 nL zc zs mc ms m (fun H locs cells slots g => W p l e R s m args below meth c H locs cells slots Q g) pc ls r h := by
  intro H locs cells slots ws tys lsR rl stR hS hx hl hv hst hc hs
  exact lv_sipush hC.1 hC.2.1 hdg rfl (K _ _ _ _ _ _ _ _ _ hS hx hl hv ⟨⟨_, rfl, hz⟩, hst⟩ hc hs)
theorem r_lconst (hC : s_C p s m args meth c R q b tt L sb xs nL) {n : Fin 2} {z : Int} (hz : ((n : Nat) : Int) = z) (hdg : decode q.2.1 pc = .ok (.lconst n, 1))
    (K : s_G D b tt L sb xs s ρ0 nL zc zs mc ms m (fun H locs cells slots g => W p l e R s m args below meth c H locs cells slots Q g) (pc + 1) ls (jL z :: r) h) : s_G D b tt L sb xs s ρ0 nL zc zs mc ms m (fun H locs cells slots g => W p l e R s m args below meth c H locs cells slots Q g) pc ls r h := by
  intro H locs cells slots ws tys lsR rl stR hS hx hl hv hst hc hs
  exact lv_lconst hC.1 hC.2.1 hdg rfl (K _ _ _ _ _ _ _ _ _ hS hx hl hv ⟨⟨_, rfl, by rw [← hz]; match n with | 0 => rfl | 1 => rfl⟩, hst⟩ hc hs)
theorem r_ldc (hC : s_C p s m args meth c R q b tt L sb xs nL) {ix : Nat} {z : Int} {v : Int32} (hv0 : v.toInt = z) (hw : (Cond.constant (j_cnm q.2.2.2.2.1) ix v).before args s = true) (hdg : decode q.2.1 pc = .ok (.ldc ix, 2))
    (K : s_G D b tt L sb xs s ρ0 nL zc zs mc ms m (fun H locs cells slots g => W p l e R s m args below meth c H locs cells slots Q g) (pc + 2) ls (jI z :: r) h) : s_G D b tt L sb xs s ρ0 nL zc zs mc ms m (fun H locs cells slots g => W p l e R s m args below meth c H locs cells slots Q g) pc ls r h := by
  intro H locs cells slots ws tys lsR rl stR hS hx hl hv hst hc hs
  exact lv_ldc hC.1 hC.2.1 hC.2.2.2.1 hw hdg (K _ _ _ _ _ _ _ _ _ hS hx hl hv ⟨⟨_, rfl, hv0⟩, hst⟩ hc hs)
theorem r_ldc_w (hC : s_C p s m args meth c R q b tt L sb xs nL) {ix : Nat} {z : Int} {v : Int32} (hv0 : v.toInt = z) (hw : (Cond.constant (j_cnm q.2.2.2.2.1) ix v).before args s = true) (hdg : decode q.2.1 pc = .ok (.ldc_w ix, 3))
    (K : s_G D b tt L sb xs s ρ0 nL zc zs mc ms m (fun H locs cells slots g => W p l e R s m args below meth c H locs cells slots Q g) (pc + 3) ls (jI z :: r) h) : s_G D b tt L sb xs s ρ0 nL zc zs mc ms m (fun H locs cells slots g => W p l e R s m args below meth c H locs cells slots Q g) pc ls r h := by
  intro H locs cells slots ws tys lsR rl stR hS hx hl hv hst hc hs
  exact lv_ldcw hC.1 hC.2.1 hC.2.2.2.1 hw hdg (K _ _ _ _ _ _ _ _ _ hS hx hl hv ⟨⟨_, rfl, hv0⟩, hst⟩ hc hs)
theorem r_ldc2_w (hC : s_C p s m args meth c R q b tt L sb xs nL) {ix : Nat} {z : Int} {v : Int64} (hv0 : v.toInt = z) (hw : (Cond.constantLong (j_cnm q.2.2.2.2.1) ix v).before args s = true) (hdg : decode q.2.1 pc = .ok (.ldc2_w ix, 3))
    (K : s_G D b tt L sb xs s ρ0 nL zc zs mc ms m (fun H locs cells slots g => W p l e R s m args below meth c H locs cells slots Q g) (pc + 3) ls (jL z :: r) h) : s_G D b tt L sb xs s ρ0 nL zc zs mc ms m (fun H locs cells slots g => W p l e R s m args below meth c H locs cells slots Q g) pc ls r h := by
  intro H locs cells slots ws tys lsR rl stR hS hx hl hv hst hc hs
  exact lv_ldc2 hC.1 hC.2.1 hC.2.2.2.1 hw hdg (K _ _ _ _ _ _ _ _ _ hS hx hl hv ⟨⟨_, rfl, hv0⟩, hst⟩ hc hs)
theorem r_iload_n (hC : s_C p s m args meth c R q b tt L sb xs nL) {k : Fin 4} {x : Int} (hk : j_ld ls k.val = some (jI x)) (hdg : decode q.2.1 pc = .ok (.iload_n k, 1))
    (K : s_G D b tt L sb xs s ρ0 nL zc zs mc ms m (fun H locs cells slots g => W p l e R s m args below meth c H locs cells slots Q g) (pc + 1) ls (jI x :: r) h) : s_G D b tt L sb xs s ρ0 nL zc zs mc ms m (fun H locs cells slots g => W p l e R s m args below meth c H locs cells slots Q g) pc ls r h := by
  intro H locs cells slots ws tys lsR rl stR hS hx hl hv hst hc hs
  obtain ⟨w, h1, ⟨n, rfl, e1⟩⟩ := s_ldv hl hv hk
  exact lv_iload_n hC.1 hC.2.1 hdg rfl h1 (K _ _ _ _ _ _ _ _ _ hS hx hl hv ⟨⟨_, rfl, e1⟩, hst⟩ hc hs)
theorem r_iload (hC : s_C p s m args meth c R q b tt L sb xs nL) {k : Nat} {x : Int} (hk : j_ld ls k = some (jI x)) (hdg : decode q.2.1 pc = .ok (.iload k, 2))
    (K : s_G D b tt L sb xs s ρ0 nL zc zs mc ms m (fun H locs cells slots g => W p l e R s m args below meth c H locs cells slots Q g) (pc + 2) ls (jI x :: r) h) : s_G D b tt L sb xs s ρ0 nL zc zs mc ms m (fun H locs cells slots g => W p l e R s m args below meth c H locs cells slots Q g) pc ls r h := by
  intro H locs cells slots ws tys lsR rl stR hS hx hl hv hst hc hs
  obtain ⟨w, h1, ⟨n, rfl, e1⟩⟩ := s_ldv hl hv hk
  exact lv_iload hC.1 hC.2.1 hdg  h1 (K _ _ _ _ _ _ _ _ _ hS hx hl hv ⟨⟨_, rfl, e1⟩, hst⟩ hc hs)
theorem r_lload_n (hC : s_C p s m args meth c R q b tt L sb xs nL) {k : Fin 4} {x : Int} (hk : j_ld ls k.val = some (jL x)) (hdg : decode q.2.1 pc = .ok (.lload_n k, 1))
    (K : s_G D b tt L sb xs s ρ0 nL zc zs mc ms m (fun H locs cells slots g => W p l e R s m args below meth c H locs cells slots Q g) (pc + 1) ls (jL x :: r) h) : s_G D b tt L sb xs s ρ0 nL zc zs mc ms m (fun H locs cells slots g => W p l e R s m args below meth c H locs cells slots Q g) pc ls r h := by
  intro H locs cells slots ws tys lsR rl stR hS hx hl hv hst hc hs
  obtain ⟨w, h1, ⟨n, rfl, e1⟩⟩ := s_ldv hl hv hk
  exact lv_lload_n hC.1 hC.2.1 hdg rfl h1 (K _ _ _ _ _ _ _ _ _ hS hx hl hv ⟨⟨_, rfl, e1⟩, hst⟩ hc hs)
theorem r_lload (hC : s_C p s m args meth c R q b tt L sb xs nL) {k : Nat} {x : Int} (hk : j_ld ls k = some (jL x)) (hdg : decode q.2.1 pc = .ok (.lload k, 2))
    (K : s_G D b tt L sb xs s ρ0 nL zc zs mc ms m (fun H locs cells slots g => W p l e R s m args below meth c H locs cells slots Q g) (pc + 2) ls (jL x :: r) h) : s_G D b tt L sb xs s ρ0 nL zc zs mc ms m (fun H locs cells slots g => W p l e R s m args below meth c H locs cells slots Q g) pc ls r h := by
  intro H locs cells slots ws tys lsR rl stR hS hx hl hv hst hc hs
  obtain ⟨w, h1, ⟨n, rfl, e1⟩⟩ := s_ldv hl hv hk
  exact lv_lload hC.1 hC.2.1 hdg  h1 (K _ _ _ _ _ _ _ _ _ hS hx hl hv ⟨⟨_, rfl, e1⟩, hst⟩ hc hs)
theorem r_aload_n (hC : s_C p s m args meth c R q b tt L sb xs nL) {k : Fin 4} {x : Nat} (hk : j_ld ls k.val = some (jR x)) (hdg : decode q.2.1 pc = .ok (.aload_n k, 1))
    (K : s_G D b tt L sb xs s ρ0 nL zc zs mc ms m (fun H locs cells slots g => W p l e R s m args below meth c H locs cells slots Q g) (pc + 1) ls (jR x :: r) h) : s_G D b tt L sb xs s ρ0 nL zc zs mc ms m (fun H locs cells slots g => W p l e R s m args below meth c H locs cells slots Q g) pc ls r h := by
  intro H locs cells slots ws tys lsR rl stR hS hx hl hv hst hc hs
  obtain ⟨w, h1, ⟨n, rfl, e1⟩⟩ := s_ldv hl hv hk
  exact lv_aload_n hC.1 hC.2.1 hdg rfl h1 (K _ _ _ _ _ _ _ _ _ hS hx hl hv ⟨⟨_, rfl, e1⟩, hst⟩ hc hs)
theorem r_aload (hC : s_C p s m args meth c R q b tt L sb xs nL) {k : Nat} {x : Nat} (hk : j_ld ls k = some (jR x)) (hdg : decode q.2.1 pc = .ok (.aload k, 2))
    (K : s_G D b tt L sb xs s ρ0 nL zc zs mc ms m (fun H locs cells slots g => W p l e R s m args below meth c H locs cells slots Q g) (pc + 2) ls (jR x :: r) h) : s_G D b tt L sb xs s ρ0 nL zc zs mc ms m (fun H locs cells slots g => W p l e R s m args below meth c H locs cells slots Q g) pc ls r h := by
  intro H locs cells slots ws tys lsR rl stR hS hx hl hv hst hc hs
  obtain ⟨w, h1, ⟨n, rfl, e1⟩⟩ := s_ldv hl hv hk
  exact lv_aload hC.1 hC.2.1 hdg  h1 (K _ _ _ _ _ _ _ _ _ hS hx hl hv ⟨⟨_, rfl, e1⟩, hst⟩ hc hs)
theorem r_istore_n (hC : s_C p s m args meth c R q b tt L sb xs nL) {k : Fin 4} {x : Int} {l1 : j_L} (hn : ls.length = nL) (hk : j_s1 ls k.val (jI x) = some l1) (hdg : decode q.2.1 pc = .ok (.istore_n k, 1))
    (K : s_G D b tt L sb xs s ρ0 nL zc zs mc ms m (fun H locs cells slots g => W p l e R s m args below meth c H locs cells slots Q g) (pc + 1) l1 r h) : s_G D b tt L sb xs s ρ0 nL zc zs mc ms m (fun H locs cells slots g => W p l e R s m args below meth c H locs cells slots Q g) pc ls (jI x :: r) h := by
  intro H locs cells slots ws tys lsR rl stR hS hx hl hv hst hc hs
  obtain ⟨w1, z, rfl, hw0, hz⟩ := s_st1 hst
  have hw1 := hw0
  obtain ⟨n1, rfl, e1⟩ := hw0
  obtain ⟨h1, h2, rfl⟩ := j_s1_some hk
  exact lv_istore_n hC.1 hC.2.1 hdg rfl hv (by omega) rfl (fun ls2 hv2 => K _ _ _ _ _ _ _ _ _ hS hx (s_lo_set hw1 hl) (s_lv1 hl h1 (by rw [← s_lo_len hl]; exact h2) hv2) hz hc hs)
theorem r_istore (hC : s_C p s m args meth c R q b tt L sb xs nL) {k : Nat} {x : Int} {l1 : j_L} (hn : ls.length = nL) (hk : j_s1 ls k (jI x) = some l1) (hdg : decode q.2.1 pc = .ok (.istore k, 2))
    (K : s_G D b tt L sb xs s ρ0 nL zc zs mc ms m (fun H locs cells slots g => W p l e R s m args below meth c H locs cells slots Q g) (pc + 2) l1 r h) : s_G D b tt L sb xs s ρ0 nL zc zs mc ms m (fun H locs cells slots g => W p l e R s m args below meth c H locs cells slots Q g) pc ls (jI x :: r) h := by
  intro H locs cells slots ws tys lsR rl stR hS hx hl hv hst hc hs
  obtain ⟨w1, z, rfl, hw0, hz⟩ := s_st1 hst
  have hw1 := hw0
  obtain ⟨n1, rfl, e1⟩ := hw0
  obtain ⟨h1, h2, rfl⟩ := j_s1_some hk
  exact lv_istore hC.1 hC.2.1 hdg  hv (by omega) rfl (fun ls2 hv2 => K _ _ _ _ _ _ _ _ _ hS hx (s_lo_set hw1 hl) (s_lv1 hl h1 (by rw [← s_lo_len hl]; exact h2) hv2) hz hc hs)
theorem r_lstore_n (hC : s_C p s m args meth c R q b tt L sb xs nL) {k : Fin 4} {x : Int} {l1 : j_L} (hn : ls.length = nL) (hk : j_s2 ls k.val (jL x) = some l1) (hdg : decode q.2.1 pc = .ok (.lstore_n k, 1))
    (K : s_G D b tt L sb xs s ρ0 nL zc zs mc ms m (fun H locs cells slots g => W p l e R s m args below meth c H locs cells slots Q g) (pc + 1) l1 r h) : s_G D b tt L sb xs s ρ0 nL zc zs mc ms m (fun H locs cells slots g => W p l e R s m args below meth c H locs cells slots Q g) pc ls (jL x :: r) h := by
  intro H locs cells slots ws tys lsR rl stR hS hx hl hv hst hc hs
  obtain ⟨w1, z, rfl, hw0, hz⟩ := s_st1 hst
  have hw1 := hw0
  obtain ⟨n1, rfl, e1⟩ := hw0
  obtain ⟨h1, h2, rfl⟩ := j_s2_some hk
  exact lv_lstore_n hC.1 hC.2.1 hdg rfl hv (by omega) rfl (fun ls2 hv2 => K _ _ _ _ _ _ _ _ _ hS hx (s_lo_set0 (s_lo_set hw1 hl)) (s_lv2 hl h1 (by rw [← s_lo_len hl]; exact h2) hv2) hz hc hs)
theorem r_lstore (hC : s_C p s m args meth c R q b tt L sb xs nL) {k : Nat} {x : Int} {l1 : j_L} (hn : ls.length = nL) (hk : j_s2 ls k (jL x) = some l1) (hdg : decode q.2.1 pc = .ok (.lstore k, 2))
    (K : s_G D b tt L sb xs s ρ0 nL zc zs mc ms m (fun H locs cells slots g => W p l e R s m args below meth c H locs cells slots Q g) (pc + 2) l1 r h) : s_G D b tt L sb xs s ρ0 nL zc zs mc ms m (fun H locs cells slots g => W p l e R s m args below meth c H locs cells slots Q g) pc ls (jL x :: r) h := by
  intro H locs cells slots ws tys lsR rl stR hS hx hl hv hst hc hs
  obtain ⟨w1, z, rfl, hw0, hz⟩ := s_st1 hst
  have hw1 := hw0
  obtain ⟨n1, rfl, e1⟩ := hw0
  obtain ⟨h1, h2, rfl⟩ := j_s2_some hk
  exact lv_lstore hC.1 hC.2.1 hdg  hv (by omega) rfl (fun ls2 hv2 => K _ _ _ _ _ _ _ _ _ hS hx (s_lo_set0 (s_lo_set hw1 hl)) (s_lv2 hl h1 (by rw [← s_lo_len hl]; exact h2) hv2) hz hc hs)
theorem r_astore_n (hC : s_C p s m args meth c R q b tt L sb xs nL) {k : Fin 4} {x : Nat} {l1 : j_L} (hn : ls.length = nL) (hk : j_s1 ls k.val (jR x) = some l1) (hdg : decode q.2.1 pc = .ok (.astore_n k, 1))
    (K : s_G D b tt L sb xs s ρ0 nL zc zs mc ms m (fun H locs cells slots g => W p l e R s m args below meth c H locs cells slots Q g) (pc + 1) l1 r h) : s_G D b tt L sb xs s ρ0 nL zc zs mc ms m (fun H locs cells slots g => W p l e R s m args below meth c H locs cells slots Q g) pc ls (jR x :: r) h := by
  intro H locs cells slots ws tys lsR rl stR hS hx hl hv hst hc hs
  obtain ⟨w1, z, rfl, hw0, hz⟩ := s_st1 hst
  have hw1 := hw0
  obtain ⟨n1, rfl, e1⟩ := hw0
  obtain ⟨h1, h2, rfl⟩ := j_s1_some hk
  exact lv_astore_n hC.1 hC.2.1 hdg rfl hv (by omega) rfl (fun ls2 hv2 => K _ _ _ _ _ _ _ _ _ hS hx (s_lo_set hw1 hl) (s_lv1 hl h1 (by rw [← s_lo_len hl]; exact h2) hv2) hz hc hs)
theorem r_astore (hC : s_C p s m args meth c R q b tt L sb xs nL) {k : Nat} {x : Nat} {l1 : j_L} (hn : ls.length = nL) (hk : j_s1 ls k (jR x) = some l1) (hdg : decode q.2.1 pc = .ok (.astore k, 2))
    (K : s_G D b tt L sb xs s ρ0 nL zc zs mc ms m (fun H locs cells slots g => W p l e R s m args below meth c H locs cells slots Q g) (pc + 2) l1 r h) : s_G D b tt L sb xs s ρ0 nL zc zs mc ms m (fun H locs cells slots g => W p l e R s m args below meth c H locs cells slots Q g) pc ls (jR x :: r) h := by
  intro H locs cells slots ws tys lsR rl stR hS hx hl hv hst hc hs
  obtain ⟨w1, z, rfl, hw0, hz⟩ := s_st1 hst
  have hw1 := hw0
  obtain ⟨n1, rfl, e1⟩ := hw0
  obtain ⟨h1, h2, rfl⟩ := j_s1_some hk
  exact lv_astore hC.1 hC.2.1 hdg hv (by omega) rfl (fun ls2 hv2 => K _ _ _ _ _ _ _ _ _ hS hx (s_lo_set hw1 hl) (s_lv1 hl h1 (by rw [← s_lo_len hl]; exact h2) hv2) hz hc hs)
theorem r_iinc (hC : s_C p s m args meth c R q b tt L sb xs nL) {k : Nat} {n x : Int} {l1 : j_L} (hn : ls.length = nL) (hj : (Int32.ofInt n).toInt = n) (hld : j_ld ls k = some (jI x)) (hk : j_s1 ls k (jI (w32 (x + n))) = some l1) (hdg : decode q.2.1 pc = .ok (.iinc k n, 3))
    (K : s_G D b tt L sb xs s ρ0 nL zc zs mc ms m (fun H locs cells slots g => W p l e R s m args below meth c H locs cells slots Q g) (pc + 3) l1 r h) : s_G D b tt L sb xs s ρ0 nL zc zs mc ms m (fun H locs cells slots g => W p l e R s m args below meth c H locs cells slots Q g) pc ls r h := by
  intro H locs cells slots ws tys lsR rl stR hS hx hl hv hst hc hs
  obtain ⟨w, h1, ⟨n1, rfl, e1⟩⟩ := s_lo_get hl (j_ld_some hld)
  obtain ⟨h2, h3, rfl⟩ := j_s1_some hk
  obtain ⟨i, hi⟩ := List.getElem?_of_mem (s_as_mem0 (q := (k, .int n1)).mpr h1)
  have e2 : (n1 + Int32.ofInt n).toInt = w32 (x + n) := by rw [Int32.toInt_add, e1, hj]; rfl
  have hw1 : s_val (s_ρ b tt ws) (jI (w32 (x + n))) (.int (n1 + Int32.ofInt n)) := ⟨_, rfl, e2⟩
  exact lv_iinc hC.1 hC.2.1 hdg hv (k := i) hi rfl (by omega) rfl (fun ls2 hv2 => K _ _ _ _ _ _ _ _ _ hS hx (s_lo_set hw1 hl) (s_lv1 hl h2 (by rw [← s_lo_len hl]; exact h3) hv2) hst hc hs)
theorem r_dup (hC : s_C p s m args meth c R q b tt L sb xs nL) {v : j_V} (hvc : j_cat v = 1) (hdg : decode q.2.1 pc = .ok (.dup, 1))
    (K : s_G D b tt L sb xs s ρ0 nL zc zs mc ms m (fun H locs cells slots g => W p l e R s m args below meth c H locs cells slots Q g) (pc + 1) ls (v :: v :: r) h) : s_G D b tt L sb xs s ρ0 nL zc zs mc ms m (fun H locs cells slots g => W p l e R s m args below meth c H locs cells slots Q g) pc ls (v :: r) h := by
  intro H locs cells slots ws tys lsR rl stR hS hx hl hv hst hc hs
  obtain ⟨w1, z, rfl, h1, hz⟩ := s_st1 hst
  exact lv_dup hC.1 hC.2.1 hdg ((s_val_cat h1).trans hvc) (K _ _ _ _ _ _ _ _ _ hS hx hl hv ⟨h1, h1, hz⟩ hc hs)
theorem r_dup2_2 (hC : s_C p s m args meth c R q b tt L sb xs nL) {x : Int} (hdg : decode q.2.1 pc = .ok (.dup2, 1))
    (K : s_G D b tt L sb xs s ρ0 nL zc zs mc ms m (fun H locs cells slots g => W p l e R s m args below meth c H locs cells slots Q g) (pc + 1) ls (jL x :: jL x :: r) h) : s_G D b tt L sb xs s ρ0 nL zc zs mc ms m (fun H locs cells slots g => W p l e R s m args below meth c H locs cells slots Q g) pc ls (jL x :: r) h := by
  intro H locs cells slots ws tys lsR rl stR hS hx hl hv hst hc hs
  obtain ⟨w1, z, rfl, h1, hz⟩ := s_st1 hst
  exact lv_dup2_2 hC.1 hC.2.1 hdg ((s_val_cat h1).trans rfl) (K _ _ _ _ _ _ _ _ _ hS hx hl hv ⟨h1, h1, hz⟩ hc hs)
theorem r_dup2_1 (hC : s_C p s m args meth c R q b tt L sb xs nL) {v w : j_V} (hvc : j_cat v = 1) (hwc : j_cat w = 1) (hdg : decode q.2.1 pc = .ok (.dup2, 1))
    (K : s_G D b tt L sb xs s ρ0 nL zc zs mc ms m (fun H locs cells slots g => W p l e R s m args below meth c H locs cells slots Q g) (pc + 1) ls (v :: w :: v :: w :: r) h) : s_G D b tt L sb xs s ρ0 nL zc zs mc ms m (fun H locs cells slots g => W p l e R s m args below meth c H locs cells slots Q g) pc ls (v :: w :: r) h := by
  intro H locs cells slots ws tys lsR rl stR hS hx hl hv hst hc hs
  obtain ⟨w1, w2, z, rfl, h1, h2, hz⟩ := s_st2 hst
  exact lv_dup2_11 hC.1 hC.2.1 hdg ((s_val_cat h1).trans hvc) ((s_val_cat h2).trans hwc) (K _ _ _ _ _ _ _ _ _ hS hx hl hv ⟨h1, h2, h1, h2, hz⟩ hc hs)
theorem r_goto (hC : s_C p s m args meth c R q b tt L sb xs nL) {off : Int} {tg : Nat} (ht : (pc : Int) + off = (tg : Int)) (hdg : decode q.2.1 pc = .ok (.goto off, 3))
    (K : s_G D b tt L sb xs s ρ0 nL zc zs mc ms m (fun H locs cells slots g => W p l e R s m args below meth c H locs cells slots Q g) tg ls r h) : s_G D b tt L sb xs s ρ0 nL zc zs mc ms m (fun H locs cells slots g => W p l e R s m args below meth c H locs cells slots Q g) pc ls r h := by
  intro H locs cells slots ws tys lsR rl stR hS hx hl hv hst hc hs
  exact lv_goto hC.1 hC.2.1 hdg ht (K _ _ _ _ _ _ _ _ _ hS hx hl hv hst hc hs)
theorem r_if_eq (hC : s_C p s m args meth c R q b tt L sb xs nL) {off : Int} {tg : Nat} {x : Int} (ht : (pc : Int) + off = (tg : Int)) (hdg : decode q.2.1 pc = .ok (.ifCond .eq off, 3))
    (K1 : x = 0 → s_G D b tt L sb xs s ρ0 nL zc zs mc ms m (fun H locs cells slots g => W p l e R s m args below meth c H locs cells slots Q g) tg ls r h) (K2 : ¬ x = 0 → s_G D b tt L sb xs s ρ0 nL zc zs mc ms m (fun H locs cells slots g => W p l e R s m args below meth c H locs cells slots Q g) (pc + 3) ls r h) : s_G D b tt L sb xs s ρ0 nL zc zs mc ms m (fun H locs cells slots g => W p l e R s m args below meth c H locs cells slots Q g) pc ls (jI x :: r) h := by
  intro H locs cells slots ws tys lsR rl stR hS hx hl hv hst hc hs
  obtain ⟨w1, z, rfl, ⟨n1, rfl, e1⟩, hz⟩ := s_st1 hst
  exact lv_if_eq hC.1 hC.2.1 hdg ht (fun hh => K1 (by rw [← e1]; exact s_i0.mp hh) _ _ _ _ _ _ _ _ _ hS hx hl hv hz hc hs) (fun hh => K2 (fun h2 => hh (s_i0.mpr (e1.trans h2))) _ _ _ _ _ _ _ _ _ hS hx hl hv hz hc hs)
theorem r_if_ne (hC : s_C p s m args meth c R q b tt L sb xs nL) {off : Int} {tg : Nat} {x : Int} (ht : (pc : Int) + off = (tg : Int)) (hdg : decode q.2.1 pc = .ok (.ifCond .ne off, 3))
    (K1 : x = 0 → s_G D b tt L sb xs s ρ0 nL zc zs mc ms m (fun H locs cells slots g => W p l e R s m args below meth c H locs cells slots Q g) (pc + 3) ls r h) (K2 : ¬ x = 0 → s_G D b tt L sb xs s ρ0 nL zc zs mc ms m (fun H locs cells slots g => W p l e R s m args below meth c H locs cells slots Q g) tg ls r h) : s_G D b tt L sb xs s ρ0 nL zc zs mc ms m (fun H locs cells slots g => W p l e R s m args below meth c H locs cells slots Q g) pc ls (jI x :: r) h := by
  intro H locs cells slots ws tys lsR rl stR hS hx hl hv hst hc hs
  obtain ⟨w1, z, rfl, ⟨n1, rfl, e1⟩, hz⟩ := s_st1 hst
  exact lv_if_ne hC.1 hC.2.1 hdg ht (fun hh => K2 (fun h2 => hh (s_i0.mpr (e1.trans h2))) _ _ _ _ _ _ _ _ _ hS hx hl hv hz hc hs) (fun hh => K1 (by rw [← e1]; exact s_i0.mp hh) _ _ _ _ _ _ _ _ _ hS hx hl hv hz hc hs)
theorem r_if_lt (hC : s_C p s m args meth c R q b tt L sb xs nL) {off : Int} {tg : Nat} {x : Int} (ht : (pc : Int) + off = (tg : Int)) (hdg : decode q.2.1 pc = .ok (.ifCond .lt off, 3))
    (K1 : x < 0 → s_G D b tt L sb xs s ρ0 nL zc zs mc ms m (fun H locs cells slots g => W p l e R s m args below meth c H locs cells slots Q g) tg ls r h) (K2 : ¬ x < 0 → s_G D b tt L sb xs s ρ0 nL zc zs mc ms m (fun H locs cells slots g => W p l e R s m args below meth c H locs cells slots Q g) (pc + 3) ls r h) : s_G D b tt L sb xs s ρ0 nL zc zs mc ms m (fun H locs cells slots g => W p l e R s m args below meth c H locs cells slots Q g) pc ls (jI x :: r) h := by
  intro H locs cells slots ws tys lsR rl stR hS hx hl hv hst hc hs
  obtain ⟨w1, z, rfl, ⟨n1, rfl, e1⟩, hz⟩ := s_st1 hst
  exact lv_if_lt hC.1 hC.2.1 hdg ht (fun hh => K1 (by rw [← e1]; exact Int32.lt_iff_toInt_lt.mp hh) _ _ _ _ _ _ _ _ _ hS hx hl hv hz hc hs) (fun hh => K2 (fun h2 => hh (Int32.lt_iff_toInt_lt.mpr (by rw [e1]; exact h2))) _ _ _ _ _ _ _ _ _ hS hx hl hv hz hc hs)
theorem r_if_ge (hC : s_C p s m args meth c R q b tt L sb xs nL) {off : Int} {tg : Nat} {x : Int} (ht : (pc : Int) + off = (tg : Int)) (hdg : decode q.2.1 pc = .ok (.ifCond .ge off, 3))
    (K1 : x < 0 → s_G D b tt L sb xs s ρ0 nL zc zs mc ms m (fun H locs cells slots g => W p l e R s m args below meth c H locs cells slots Q g) (pc + 3) ls r h) (K2 : ¬ x < 0 → s_G D b tt L sb xs s ρ0 nL zc zs mc ms m (fun H locs cells slots g => W p l e R s m args below meth c H locs cells slots Q g) tg ls r h) : s_G D b tt L sb xs s ρ0 nL zc zs mc ms m (fun H locs cells slots g => W p l e R s m args below meth c H locs cells slots Q g) pc ls (jI x :: r) h := by
  intro H locs cells slots ws tys lsR rl stR hS hx hl hv hst hc hs
  obtain ⟨w1, z, rfl, ⟨n1, rfl, e1⟩, hz⟩ := s_st1 hst
  exact lv_if_ge hC.1 hC.2.1 hdg ht (fun hh => K2 (fun h2 => absurd (Int32.le_iff_toInt_le.mp hh) (by rw [e1]; exact Int.not_le.mpr h2)) _ _ _ _ _ _ _ _ _ hS hx hl hv hz hc hs) (fun hh => K1 (by rw [← e1]; exact Int.not_le.mp (fun h2 => hh (Int32.le_iff_toInt_le.mpr h2))) _ _ _ _ _ _ _ _ _ hS hx hl hv hz hc hs)
theorem r_if_gt (hC : s_C p s m args meth c R q b tt L sb xs nL) {off : Int} {tg : Nat} {x : Int} (ht : (pc : Int) + off = (tg : Int)) (hdg : decode q.2.1 pc = .ok (.ifCond .gt off, 3))
    (K1 : 0 < x → s_G D b tt L sb xs s ρ0 nL zc zs mc ms m (fun H locs cells slots g => W p l e R s m args below meth c H locs cells slots Q g) tg ls r h) (K2 : ¬ 0 < x → s_G D b tt L sb xs s ρ0 nL zc zs mc ms m (fun H locs cells slots g => W p l e R s m args below meth c H locs cells slots Q g) (pc + 3) ls r h) : s_G D b tt L sb xs s ρ0 nL zc zs mc ms m (fun H locs cells slots g => W p l e R s m args below meth c H locs cells slots Q g) pc ls (jI x :: r) h := by
  intro H locs cells slots ws tys lsR rl stR hS hx hl hv hst hc hs
  obtain ⟨w1, z, rfl, ⟨n1, rfl, e1⟩, hz⟩ := s_st1 hst
  exact lv_if_gt hC.1 hC.2.1 hdg ht (fun hh => K1 (by rw [← e1]; exact Int32.lt_iff_toInt_lt.mp hh) _ _ _ _ _ _ _ _ _ hS hx hl hv hz hc hs) (fun hh => K2 (fun h2 => hh (Int32.lt_iff_toInt_lt.mpr (by rw [e1]; exact h2))) _ _ _ _ _ _ _ _ _ hS hx hl hv hz hc hs)
theorem r_if_le (hC : s_C p s m args meth c R q b tt L sb xs nL) {off : Int} {tg : Nat} {x : Int} (ht : (pc : Int) + off = (tg : Int)) (hdg : decode q.2.1 pc = .ok (.ifCond .le off, 3))
    (K1 : 0 < x → s_G D b tt L sb xs s ρ0 nL zc zs mc ms m (fun H locs cells slots g => W p l e R s m args below meth c H locs cells slots Q g) (pc + 3) ls r h) (K2 : ¬ 0 < x → s_G D b tt L sb xs s ρ0 nL zc zs mc ms m (fun H locs cells slots g => W p l e R s m args below meth c H locs cells slots Q g) tg ls r h) : s_G D b tt L sb xs s ρ0 nL zc zs mc ms m (fun H locs cells slots g => W p l e R s m args below meth c H locs cells slots Q g) pc ls (jI x :: r) h := by
  intro H locs cells slots ws tys lsR rl stR hS hx hl hv hst hc hs
  obtain ⟨w1, z, rfl, ⟨n1, rfl, e1⟩, hz⟩ := s_st1 hst
  exact lv_if_le hC.1 hC.2.1 hdg ht (fun hh => K2 (fun h2 => absurd (Int32.le_iff_toInt_le.mp hh) (by rw [e1]; exact Int.not_le.mpr h2)) _ _ _ _ _ _ _ _ _ hS hx hl hv hz hc hs) (fun hh => K1 (by rw [← e1]; exact Int.not_le.mp (fun h2 => hh (Int32.le_iff_toInt_le.mpr h2))) _ _ _ _ _ _ _ _ _ hS hx hl hv hz hc hs)
theorem r_icmp_eq (hC : s_C p s m args meth c R q b tt L sb xs nL) {off : Int} {tg : Nat} {x y : Int} (ht : (pc : Int) + off = (tg : Int)) (hdg : decode q.2.1 pc = .ok (.if_icmp .eq off, 3))
    (K1 : x = y → s_G D b tt L sb xs s ρ0 nL zc zs mc ms m (fun H locs cells slots g => W p l e R s m args below meth c H locs cells slots Q g) tg ls r h) (K2 : ¬ x = y → s_G D b tt L sb xs s ρ0 nL zc zs mc ms m (fun H locs cells slots g => W p l e R s m args below meth c H locs cells slots Q g) (pc + 3) ls r h) : s_G D b tt L sb xs s ρ0 nL zc zs mc ms m (fun H locs cells slots g => W p l e R s m args below meth c H locs cells slots Q g) pc ls (jI y :: jI x :: r) h := by
  intro H locs cells slots ws tys lsR rl stR hS hx hl hv hst hc hs
  obtain ⟨w1, w2, z, rfl, ⟨n1, rfl, e1⟩, ⟨n2, rfl, e2⟩, hz⟩ := s_st2 hst
  exact lv_icmp_eq hC.1 hC.2.1 hdg ht (fun hh => K1 (by rw [← e1, ← e2, hh]) _ _ _ _ _ _ _ _ _ hS hx hl hv hz hc hs) (fun hh => K2 (fun h2 => hh (Int32.toInt_inj.mp (by rw [e1, e2]; exact h2))) _ _ _ _ _ _ _ _ _ hS hx hl hv hz hc hs)
theorem r_icmp_ne (hC : s_C p s m args meth c R q b tt L sb xs nL) {off : Int} {tg : Nat} {x y : Int} (ht : (pc : Int) + off = (tg : Int)) (hdg : decode q.2.1 pc = .ok (.if_icmp .ne off, 3))
    (K1 : x = y → s_G D b tt L sb xs s ρ0 nL zc zs mc ms m (fun H locs cells slots g => W p l e R s m args below meth c H locs cells slots Q g) (pc + 3) ls r h) (K2 : ¬ x = y → s_G D b tt L sb xs s ρ0 nL zc zs mc ms m (fun H locs cells slots g => W p l e R s m args below meth c H locs cells slots Q g) tg ls r h) : s_G D b tt L sb xs s ρ0 nL zc zs mc ms m (fun H locs cells slots g => W p l e R s m args below meth c H locs cells slots Q g) pc ls (jI y :: jI x :: r) h := by
  intro H locs cells slots ws tys lsR rl stR hS hx hl hv hst hc hs
  obtain ⟨w1, w2, z, rfl, ⟨n1, rfl, e1⟩, ⟨n2, rfl, e2⟩, hz⟩ := s_st2 hst
  exact lv_icmp_ne hC.1 hC.2.1 hdg ht (fun hh => K2 (fun h2 => hh (Int32.toInt_inj.mp (by rw [e1, e2]; exact h2))) _ _ _ _ _ _ _ _ _ hS hx hl hv hz hc hs) (fun hh => K1 (by rw [← e1, ← e2, hh]) _ _ _ _ _ _ _ _ _ hS hx hl hv hz hc hs)
theorem r_icmp_lt (hC : s_C p s m args meth c R q b tt L sb xs nL) {off : Int} {tg : Nat} {x y : Int} (ht : (pc : Int) + off = (tg : Int)) (hdg : decode q.2.1 pc = .ok (.if_icmp .lt off, 3))
    (K1 : x < y → s_G D b tt L sb xs s ρ0 nL zc zs mc ms m (fun H locs cells slots g => W p l e R s m args below meth c H locs cells slots Q g) tg ls r h) (K2 : ¬ x < y → s_G D b tt L sb xs s ρ0 nL zc zs mc ms m (fun H locs cells slots g => W p l e R s m args below meth c H locs cells slots Q g) (pc + 3) ls r h) : s_G D b tt L sb xs s ρ0 nL zc zs mc ms m (fun H locs cells slots g => W p l e R s m args below meth c H locs cells slots Q g) pc ls (jI y :: jI x :: r) h := by
  intro H locs cells slots ws tys lsR rl stR hS hx hl hv hst hc hs
  obtain ⟨w1, w2, z, rfl, ⟨n1, rfl, e1⟩, ⟨n2, rfl, e2⟩, hz⟩ := s_st2 hst
  exact lv_icmp_lt hC.1 hC.2.1 hdg ht (fun hh => K1 (by rw [← e1, ← e2]; exact Int32.lt_iff_toInt_lt.mp hh) _ _ _ _ _ _ _ _ _ hS hx hl hv hz hc hs) (fun hh => K2 (fun h2 => hh (Int32.lt_iff_toInt_lt.mpr (by rw [e1, e2]; exact h2))) _ _ _ _ _ _ _ _ _ hS hx hl hv hz hc hs)
theorem r_icmp_ge (hC : s_C p s m args meth c R q b tt L sb xs nL) {off : Int} {tg : Nat} {x y : Int} (ht : (pc : Int) + off = (tg : Int)) (hdg : decode q.2.1 pc = .ok (.if_icmp .ge off, 3))
    (K1 : x < y → s_G D b tt L sb xs s ρ0 nL zc zs mc ms m (fun H locs cells slots g => W p l e R s m args below meth c H locs cells slots Q g) (pc + 3) ls r h) (K2 : ¬ x < y → s_G D b tt L sb xs s ρ0 nL zc zs mc ms m (fun H locs cells slots g => W p l e R s m args below meth c H locs cells slots Q g) tg ls r h) : s_G D b tt L sb xs s ρ0 nL zc zs mc ms m (fun H locs cells slots g => W p l e R s m args below meth c H locs cells slots Q g) pc ls (jI y :: jI x :: r) h := by
  intro H locs cells slots ws tys lsR rl stR hS hx hl hv hst hc hs
  obtain ⟨w1, w2, z, rfl, ⟨n1, rfl, e1⟩, ⟨n2, rfl, e2⟩, hz⟩ := s_st2 hst
  exact lv_icmp_ge hC.1 hC.2.1 hdg ht (fun hh => K2 (fun h2 => absurd (Int32.le_iff_toInt_le.mp hh) (by rw [e1, e2]; exact Int.not_le.mpr h2)) _ _ _ _ _ _ _ _ _ hS hx hl hv hz hc hs) (fun hh => K1 (by rw [← e1, ← e2]; exact Int.not_le.mp (fun h2 => hh (Int32.le_iff_toInt_le.mpr h2))) _ _ _ _ _ _ _ _ _ hS hx hl hv hz hc hs)
theorem r_icmp_gt (hC : s_C p s m args meth c R q b tt L sb xs nL) {off : Int} {tg : Nat} {x y : Int} (ht : (pc : Int) + off = (tg : Int)) (hdg : decode q.2.1 pc = .ok (.if_icmp .gt off, 3))
    (K1 : y < x → s_G D b tt L sb xs s ρ0 nL zc zs mc ms m (fun H locs cells slots g => W p l e R s m args below meth c H locs cells slots Q g) tg ls r h) (K2 : ¬ y < x → s_G D b tt L sb xs s ρ0 nL zc zs mc ms m (fun H locs cells slots g => W p l e R s m args below meth c H locs cells slots Q g) (pc + 3) ls r h) : s_G D b tt L sb xs s ρ0 nL zc zs mc ms m (fun H locs cells slots g => W p l e R s m args below meth c H locs cells slots Q g) pc ls (jI y :: jI x :: r) h := by
  intro H locs cells slots ws tys lsR rl stR hS hx hl hv hst hc hs
  obtain ⟨w1, w2, z, rfl, ⟨n1, rfl, e1⟩, ⟨n2, rfl, e2⟩, hz⟩ := s_st2 hst
  exact lv_icmp_gt hC.1 hC.2.1 hdg ht (fun hh => K1 (by rw [← e1, ← e2]; exact Int32.lt_iff_toInt_lt.mp hh) _ _ _ _ _ _ _ _ _ hS hx hl hv hz hc hs) (fun hh => K2 (fun h2 => hh (Int32.lt_iff_toInt_lt.mpr (by rw [e1, e2]; exact h2))) _ _ _ _ _ _ _ _ _ hS hx hl hv hz hc hs)
theorem r_icmp_le (hC : s_C p s m args meth c R q b tt L sb xs nL) {off : Int} {tg : Nat} {x y : Int} (ht : (pc : Int) + off = (tg : Int)) (hdg : decode q.2.1 pc = .ok (.if_icmp .le off, 3))
    (K1 : y < x → s_G D b tt L sb xs s ρ0 nL zc zs mc ms m (fun H locs cells slots g => W p l e R s m args below meth c H locs cells slots Q g) (pc + 3) ls r h) (K2 : ¬ y < x → s_G D b tt L sb xs s ρ0 nL zc zs mc ms m (fun H locs cells slots g => W p l e R s m args below meth c H locs cells slots Q g) tg ls r h) : s_G D b tt L sb xs s ρ0 nL zc zs mc ms m (fun H locs cells slots g => W p l e R s m args below meth c H locs cells slots Q g) pc ls (jI y :: jI x :: r) h := by
  intro H locs cells slots ws tys lsR rl stR hS hx hl hv hst hc hs
  obtain ⟨w1, w2, z, rfl, ⟨n1, rfl, e1⟩, ⟨n2, rfl, e2⟩, hz⟩ := s_st2 hst
  exact lv_icmp_le hC.1 hC.2.1 hdg ht (fun hh => K2 (fun h2 => absurd (Int32.le_iff_toInt_le.mp hh) (by rw [e1, e2]; exact Int.not_le.mpr h2)) _ _ _ _ _ _ _ _ _ hS hx hl hv hz hc hs) (fun hh => K1 (by rw [← e1, ← e2]; exact Int.not_le.mp (fun h2 => hh (Int32.le_iff_toInt_le.mpr h2))) _ _ _ _ _ _ _ _ _ hS hx hl hv hz hc hs)
theorem r_tsw (hC : s_C p s m args meth c R q b tt L sb xs nL) {d lo hi : Int} {offs : Array Int} {len : Nat} {x : Int} (hdg : decode q.2.1 pc = .ok (.tableswitch d lo hi offs, len))
    (K0 : lo ≤ x → x ≤ hi → ∃ o, offs[(x - lo).toNat]? = some o) (K1 : ∀ o, lo ≤ x → x ≤ hi → offs[(x - lo).toNat]? = some o → ∃ tg : Nat, (pc : Int) + o = (tg : Int) ∧ s_G D b tt L sb xs s ρ0 nL zc zs mc ms m (fun H locs cells slots g => W p l e R s m args below meth c H locs cells slots Q g) tg ls r h) (K2 : ¬ (lo ≤ x ∧ x ≤ hi) → ∃ tg : Nat, (pc : Int) + d = (tg : Int) ∧ s_G D b tt L sb xs s ρ0 nL zc zs mc ms m (fun H locs cells slots g => W p l e R s m args below meth c H locs cells slots Q g) tg ls r h) : s_G D b tt L sb xs s ρ0 nL zc zs mc ms m (fun H locs cells slots g => W p l e R s m args below meth c H locs cells slots Q g) pc ls (jI x :: r) h := by
  intro H locs cells slots ws tys lsR rl stR hS hx hl hv hst hc hs
  obtain ⟨w1, z, rfl, ⟨n1, rfl, e1⟩, hz⟩ := s_st1 hst
  by_cases hin : lo ≤ x ∧ x ≤ hi
  · obtain ⟨o, ho⟩ := K0 hin.1 hin.2
    obtain ⟨tg, ht, K⟩ := K1 o hin.1 hin.2 ho
    exact lv_tableIn hC.1 hC.2.1 hdg (by rw [e1]; omega) (by rw [e1]; omega) (by rw [e1]; exact ho) ht (K _ _ _ _ _ _ _ _ _ hS hx hl hv hz hc hs)
  · obtain ⟨tg, ht, K⟩ := K2 hin
    exact lv_tableOut hC.1 hC.2.1 hdg (by rw [e1]; omega) ht (K _ _ _ _ _ _ _ _ _ hS hx hl hv hz hc hs)
theorem s_shl (a b : Int32) : (a <<< (b &&& 31)).toInt = j_shl a.toInt b.toInt := by
  unfold j_shl
  rw [Int32.ofInt_toInt, Int32.ofInt_toInt]
theorem s_shr (a b : Int32) : (a >>> (b &&& 31)).toInt = j_shr a.toInt b.toInt := by
  unfold j_shr
  rw [Int32.ofInt_toInt, Int32.ofInt_toInt]
theorem r_ishl (hC : s_C p s m args meth c R q b tt L sb xs nL) {x y : Int} (hdg : decode q.2.1 pc = .ok (.ishl, 1))
    (K : s_G D b tt L sb xs s ρ0 nL zc zs mc ms m (fun H locs cells slots g => W p l e R s m args below meth c H locs cells slots Q g) (pc + 1) ls (jI (j_shl x y) :: r) h) : s_G D b tt L sb xs s ρ0 nL zc zs mc ms m (fun H locs cells slots g => W p l e R s m args below meth c H locs cells slots Q g) pc ls (jI y :: jI x :: r) h := by
  intro H locs cells slots ws tys lsR rl stR hS hx hl hv hst hc hs
  obtain ⟨w1, w2, z, rfl, ⟨n1, rfl, e1⟩, ⟨n2, rfl, e2⟩, hz⟩ := s_st2 hst
  exact lv_ishl hC.1 hC.2.1 hdg (K _ _ _ _ _ _ _ _ _ hS hx hl hv ⟨⟨_, rfl, by rw [s_shl, e1, e2]⟩, hz⟩ hc hs)
theorem r_ishr (hC : s_C p s m args meth c R q b tt L sb xs nL) {x y : Int} (hdg : decode q.2.1 pc = .ok (.ishr, 1))
    (K : s_G D b tt L sb xs s ρ0 nL zc zs mc ms m (fun H locs cells slots g => W p l e R s m args below meth c H locs cells slots Q g) (pc + 1) ls (jI (j_shr x y) :: r) h) : s_G D b tt L sb xs s ρ0 nL zc zs mc ms m (fun H locs cells slots g => W p l e R s m args below meth c H locs cells slots Q g) pc ls (jI y :: jI x :: r) h := by
  intro H locs cells slots ws tys lsR rl stR hS hx hl hv hst hc hs
  obtain ⟨w1, w2, z, rfl, ⟨n1, rfl, e1⟩, ⟨n2, rfl, e2⟩, hz⟩ := s_st2 hst
  exact lv_ishr hC.1 hC.2.1 hdg (K _ _ _ _ _ _ _ _ _ hS hx hl hv ⟨⟨_, rfl, by rw [s_shr, e1, e2]⟩, hz⟩ hc hs)
theorem r_i2c (hC : s_C p s m args meth c R q b tt L sb xs nL) {x : Int} (hdg : decode q.2.1 pc = .ok (.i2c, 1))
    (K : s_G D b tt L sb xs s ρ0 nL zc zs mc ms m (fun H locs cells slots g => W p l e R s m args below meth c H locs cells slots Q g) (pc + 1) ls (jI (j_chr x) :: r) h) : s_G D b tt L sb xs s ρ0 nL zc zs mc ms m (fun H locs cells slots g => W p l e R s m args below meth c H locs cells slots Q g) pc ls (jI x :: r) h := by
  intro H locs cells slots ws tys lsR rl stR hS hx hl hv hst hc hs
  obtain ⟨w1, z, rfl, ⟨n1, rfl, e1⟩, hz⟩ := s_st1 hst
  exact lv_i2c hC.1 hC.2.1 hdg rfl (K _ _ _ _ _ _ _ _ _ hS hx hl hv ⟨⟨_, rfl, by unfold j_chr; rw [← e1, Int32.ofInt_toInt]⟩, hz⟩ hc hs)
theorem r_pop (hC : s_C p s m args meth c R q b tt L sb xs nL) {v : j_V} (hc1 : j_cat v = 1) (hdg : decode q.2.1 pc = .ok (.pop, 1))
    (K : s_G D b tt L sb xs s ρ0 nL zc zs mc ms m (fun H locs cells slots g => W p l e R s m args below meth c H locs cells slots Q g) (pc + 1) ls r h) : s_G D b tt L sb xs s ρ0 nL zc zs mc ms m (fun H locs cells slots g => W p l e R s m args below meth c H locs cells slots Q g) pc ls (v :: r) h := by
  intro H locs cells slots ws tys lsR rl stR hS hx hl hv hst hc hs
  obtain ⟨w1, z, rfl, h1, hz⟩ := s_st1 hst
  exact lv_pop hC.1 hC.2.1 hdg ((s_val_cat h1).trans hc1) (K _ _ _ _ _ _ _ _ _ hS hx hl hv hz hc hs)
theorem r_dup_x1 (hC : s_C p s m args meth c R q b tt L sb xs nL) {v u : j_V} (hc1 : j_cat v = 1) (hc2 : j_cat u = 1) (hdg : decode q.2.1 pc = .ok (.dup_x1, 1))
    (K : s_G D b tt L sb xs s ρ0 nL zc zs mc ms m (fun H locs cells slots g => W p l e R s m args below meth c H locs cells slots Q g) (pc + 1) ls (v :: u :: v :: r) h) : s_G D b tt L sb xs s ρ0 nL zc zs mc ms m (fun H locs cells slots g => W p l e R s m args below meth c H locs cells slots Q g) pc ls (v :: u :: r) h := by
  intro H locs cells slots ws tys lsR rl stR hS hx hl hv hst hc hs
  obtain ⟨w1, w2, z, rfl, h1, h2, hz⟩ := s_st2 hst
  exact lv_dup_x1 hC.1 hC.2.1 hdg ((s_val_cat h1).trans hc1) ((s_val_cat h2).trans hc2) (K _ _ _ _ _ _ _ _ _ hS hx hl hv ⟨h1, h2, h1, hz⟩ hc hs)
theorem r_ifnonnull (hC : s_C p s m args meth c R q b tt L sb xs nL) {a tgt : Nat} {off : Int} (ht : (pc : Int) + off = (tgt : Int)) (hdg : decode q.2.1 pc = .ok (.ifnonnull off, 3))
    (K : s_G D b tt L sb xs s ρ0 nL zc zs mc ms m (fun H locs cells slots g => W p l e R s m args below meth c H locs cells slots Q g) tgt ls r h) : s_G D b tt L sb xs s ρ0 nL zc zs mc ms m (fun H locs cells slots g => W p l e R s m args below meth c H locs cells slots Q g) pc ls (jR a :: r) h := by
  intro H locs cells slots ws tys lsR rl stR hS hx hl hv hst hc hs
  obtain ⟨w1, z, rfl, ⟨q1, rfl, hq⟩, hz⟩ := s_st1 hst
  exact lv_ifnonnull hC.1 hC.2.1 hdg ht (K _ _ _ _ _ _ _ _ _ hS hx hl hv hz hc hs)
theorem r_ldcS (hC : s_C p s m args meth c R q b tt L sb xs nL) {ix k : Nat} {x : Nat × String × List Nat} (hx0 : j_tx[k]? = some x) (hk : k < 10) (hix : ix = x.1) (h13 : q.2.2.2.2.1 = 13) (hdg : decode q.2.1 pc = .ok (.ldc ix, 2))
    (K : s_G D b tt L sb xs s ρ0 nL zc zs mc ms m (fun H locs cells slots g => W p l e R s m args below meth c H locs cells slots Q g) (pc + 2) ls (jR (1000000 + 2 * k) :: r) h) : s_G D b tt L sb xs s ρ0 nL zc zs mc ms m (fun H locs cells slots g => W p l e R s m args below meth c H locs cells slots Q g) pc ls r h := by
  intro H locs cells slots ws tys lsR rl stR hS hx hl hv hst hc hs
  have hRO := hC.2.2.2.2.2.2.2.2
  have hR := hRO.2.2.2.2.2.2.2.1.2.2.2.2.2.2.1 k x hx0
  have hown : s.vm.findClass "WholePacksLaw" = some m.cls := by have := hC.2.2.2.1; rw [h13] at this; exact this
  rw [← hix] at hR
  have ha : s_ρ b tt ws (1000000 + 2 * k) = some (tt (1 + 2 * k)) := by
    have h7 := hS.1.2.2.2.2.2.2.1
    rw [s_ρ_out (by have := hS.1.1; omega)]
    unfold s_kρ
    rw [if_pos (by omega), show 1000000 + 2 * k - 999999 = 1 + 2 * k by omega]
  exact va_ldcS hC.1 hC.2.1 hown hR hdg (K _ _ _ _ _ _ _ _ _ hS hx hl hv ⟨⟨_, rfl, ha⟩, hst⟩ hc hs)
theorem r_getsC (hC : s_C p s m args meth c R q b tt L sb xs nL) {ix : Nat} (hlink : Cond.fieldLink (j_cnm q.2.2.2.2.1) ix "java/lang/String" "COMPACT_STRINGS" "Z" ∈ lwW) (hw : ∀ w ∈ lwW, w.before args s = true) (hdg : decode q.2.1 pc = .ok (.getstatic ix, 3))
    (K : s_G D b tt L sb xs s ρ0 nL zc zs mc ms m (fun H locs cells slots g => W p l e R s m args below meth c H locs cells slots Q g) (pc + 3) ls (jI 1 :: r) h) : s_G D b tt L sb xs s ρ0 nL zc zs mc ms m (fun H locs cells slots g => W p l e R s m args below meth c H locs cells slots Q g) pc ls r h := by
  intro H locs cells slots ws tys lsR rl stR hS hx hl hv hst hc hs
  have hRO := hC.2.2.2.2.2.2.2.2
  exact va_gets hC.1 hC.2.1 hRO.2.2.2.2.2.2.2.1.2.1 hS.2.2.2.2 hC.2.2.2.1 (hw _ hlink) (fun x hx => hx) hdg (K _ _ _ _ _ _ _ _ _ hS hx hl hv ⟨⟨1, rfl, rfl⟩, hst⟩ hc hs)
theorem r_getsO (hC : s_C p s m args meth c R q b tt L sb xs nL) {ix : Nat} (hlink : Cond.fieldLink (j_cnm q.2.2.2.2.1) ix "java/lang/Integer" "DigitOnes" "[B" ∈ lwW) (hw : ∀ w ∈ lwW, w.before args s = true) (hdg : decode q.2.1 pc = .ok (.getstatic ix, 3))
    (K : s_G D b tt L sb xs s ρ0 nL zc zs mc ms m (fun H locs cells slots g => W p l e R s m args below meth c H locs cells slots Q g) (pc + 3) ls (jR 1000020 :: r) h) : s_G D b tt L sb xs s ρ0 nL zc zs mc ms m (fun H locs cells slots g => W p l e R s m args below meth c H locs cells slots Q g) pc ls r h := by
  intro H locs cells slots ws tys lsR rl stR hS hx hl hv hst hc hs
  have hRO := hC.2.2.2.2.2.2.2.2
  have ha : s_ρ b tt ws 1000020 = some (tt 21) := by
    have h7 := hS.1.2.2.2.2.2.2.1
    rw [s_ρ_out (by have := hS.1.1; omega)]
    rfl
  exact va_gets hC.1 hC.2.1 hRO.2.2.2.2.2.2.2.1.2.2.1 hS.2.2.2.2 hC.2.2.2.1 (hw _ hlink) (fun x hx => hx) hdg (K _ _ _ _ _ _ _ _ _ hS hx hl hv ⟨⟨_, rfl, ha⟩, hst⟩ hc hs)
theorem r_getsT (hC : s_C p s m args meth c R q b tt L sb xs nL) {ix : Nat} (hlink : Cond.fieldLink (j_cnm q.2.2.2.2.1) ix "java/lang/Integer" "DigitTens" "[B" ∈ lwW) (hw : ∀ w ∈ lwW, w.before args s = true) (hdg : decode q.2.1 pc = .ok (.getstatic ix, 3))
    (K : s_G D b tt L sb xs s ρ0 nL zc zs mc ms m (fun H locs cells slots g => W p l e R s m args below meth c H locs cells slots Q g) (pc + 3) ls (jR 1000021 :: r) h) : s_G D b tt L sb xs s ρ0 nL zc zs mc ms m (fun H locs cells slots g => W p l e R s m args below meth c H locs cells slots Q g) pc ls r h := by
  intro H locs cells slots ws tys lsR rl stR hS hx hl hv hst hc hs
  have hRO := hC.2.2.2.2.2.2.2.2
  have ha : s_ρ b tt ws 1000021 = some (tt 22) := by
    have h7 := hS.1.2.2.2.2.2.2.1
    rw [s_ρ_out (by have := hS.1.1; omega)]
    rfl
  exact va_gets hC.1 hC.2.1 hRO.2.2.2.2.2.2.2.1.2.2.2.1 hS.2.2.2.2 hC.2.2.2.1 (hw _ hlink) (fun x hx => hx) hdg (K _ _ _ _ _ _ _ _ _ hS hx hl hv ⟨⟨_, rfl, ha⟩, hst⟩ hc hs)
end SR
end
section
/-! Rows of memory: elements, fields, what is made. -/
theorem j_w_mem {k : Nat} {w : Cond} (h : j_w k w = true) : w ∈ lwW := by
  unfold j_w at h
  rw [Bool.and_eq_true] at h
  exact List.mem_filter.mpr ⟨List.mem_of_getElem? (of_decide_eq_true h.1), h.2⟩
theorem j_any_mem {w : Cond} (h : lw_tb2.any (fun v => decide (v = w)) = true) : w ∈ lw_tb2 := by
  obtain ⟨v, h1, h2⟩ := List.any_eq_true.mp h
  exact of_decide_eq_true h2 ▸ h1
theorem j_has_mem {w : Cond} (h : j_has w = true) : w ∈ lwW := by
  unfold j_has at h
  rw [Bool.and_eq_true] at h
  exact List.mem_filter.mpr ⟨j_any_mem h.1, h.2⟩
theorem s_cl {ci : Nat} {r : vw_C} (h : vwCl[ci]? = some r) : (∀ w ∈ u_ws r.1 r.2.1 r.2.2, w ∈ lwW) ∧ (∀ k, k < r.2.2 → parseFieldDescriptor (r.2.1 k).2.2.1 = some (j_tf ci k)) ∧ (∀ k, k < r.2.2 → (r.2.1 k).1 = r.1 ∨ ci = 1) ∧ (∀ k, k < r.2.2 → j_tf ci k = .int ∨ j_tf ci k = .long ∨ (j_tf ci k = .boolean ∨ j_tf ci k = .byte) ∨ (∃ n, j_tf ci k = .object n) ∨ ∃ n, j_tf ci k = .array n) ∧ (∀ a, a < r.2.2 → ∀ b, b < r.2.2 → a ≠ b → (r.2.1 a).2.1 ≠ (r.2.1 b).2.1) ∧ Cond.instantiable r.1 r.2.2 ∈ lwW ∧ Cond.initialized r.1 ∈ lwW ∧ j_cnm ci = r.1 := by
  have h0 : j_clk ci = true := List.all_eq_true.mp j_cl_ok ci (List.mem_range.mpr (vwCl_lt h))
  unfold j_clk at h0
  rw [h] at h0
  simp only [Bool.and_eq_true] at h0
  obtain ⟨h1, h2, h3, h4, h5, h6, h7, h8, h9⟩ := h0
  have key : ∀ k, k < r.2.2 → _ := fun k hk => List.all_eq_true.mp h2 k (List.mem_range.mpr hk)
  refine ⟨fun w hw => ?_, fun k hk => ?_, fun k hk => ?_, fun k hk => ?_, fun a ha b hb hab => ?_, List.mem_filter.mpr ⟨j_any_mem h4, h5⟩, List.mem_filter.mpr ⟨j_any_mem h6, h7⟩, of_decide_eq_true h8⟩
  · have := List.all_eq_true.mp h1 w hw
    rw [Bool.and_eq_true] at this
    exact List.mem_filter.mpr ⟨j_any_mem this.1, this.2⟩
  · have := key k hk
    simp only [Bool.and_eq_true] at this
    exact of_decide_eq_true this.1
  · have := key k hk
    simp only [Bool.and_eq_true, Bool.or_eq_true, decide_eq_true_eq, beq_iff_eq] at this
    exact this.2.1
  · have := key k hk
    simp only [Bool.and_eq_true] at this
    have h9 := this.2.2
    generalize j_tf ci k = ty at h9
    cases ty <;> simp_all
  · have := List.all_eq_true.mp (List.all_eq_true.mp h3 a (List.mem_range.mpr ha)) b (List.mem_range.mpr hb)
    rw [Bool.or_eq_true] at this
    rcases this with h10 | h10
    · exact absurd (by simpa using h10) hab
    · exact of_decide_eq_true h10
theorem j_ty_tf (ci k : Nat) : j_ty ci k = j_tc (j_tf ci k) := by
  match ci with
  | 0 => rfl
  | 1 => rfl
  | 2 => rfl
  | 3 => rfl
  | 4 => rfl
  | 5 => rfl
  | 6 => rfl
  | 7 => rfl
  | 8 => rfl
  | 9 => rfl
  | 10 => rfl
  | 11 => rfl
  | n + 12 => rfl
theorem s_st4 {ρ : j_P} {v u t x : j_V} {r : List j_V} {k : List Value} (h : s_st ρ (v :: u :: t :: x :: r) k) : ∃ w1 w2 w3 w4 z, k = w1 :: w2 :: w3 :: w4 :: z ∧ s_val ρ v w1 ∧ s_val ρ u w2 ∧ s_val ρ t w3 ∧ s_val ρ x w4 ∧ s_st ρ r z := by
  obtain ⟨w1, w2, w3, z, rfl, h1, h2, h3, h4⟩ := s_st3 h
  obtain ⟨w4, z, rfl, h5, h6⟩ := s_st1 h4
  exact ⟨w1, w2, w3, w4, z, rfl, h1, h2, h3, h5, h6⟩
theorem s_at0 {b : Nat} {tt : Nat → Nat} {A k : Nat} {ws : va_W} {q : Nat} {e : va_E} (hA : A = k + 2) (hk : ws[k]? = some (q, e)) : s_ρ b tt ws A = some q := by
  subst hA
  rw [s_ρ_in (by have := (List.getElem?_eq_some_iff.mp hk).1; omega)]
  show (ws.map (fun q => q.1))[k]? = some q
  rw [List.getElem?_map, hk]
  rfl
section SM
variable {p : Program} {l : Launch} {e : Env} {R : Room} {s : State} {m : MethodId} {args : Array Value} {below : List Frame} {meth : Method} {c : Code} {Q : State → Prop} {D : va_G} {b : Nat} {tt : Nat → Nat} {L sb nL zc zs mc ms pc : Nat} {xs : Nat → Int32} {ρ0 : j_P} {q : j_M} {ls : j_L} {r : List j_V} {h : j_H}
theorem s_words (hC : s_C p s m args meth c R q b tt L sb xs nL) : ∀ w ∈ lwW, w.before args s = true := fun w hw => hC.2.2.2.2.1 w (List.mem_filter.mp hw).1 (List.mem_filter.mp hw).2
theorem s_kd {a c n : Nat} (e : j_kd h a = some (c, n)) : h.1[a]? = some (c, n) ∨ (h.1[a]? = none ∧ j_kc a = some (c, n)) := by
  unfold j_kd at e
  cases hl : h.1[a]? with
  | some x => rw [hl] at e; exact Or.inl e
  | none => rw [hl] at e; exact Or.inr ⟨rfl, e⟩
theorem s_kc_all : ∀ i : Nat, i < 22 → ∀ c n : Nat, j_kc (1000000 + i) = some (c, n) → (c = 34 ∧ n ≤ 100 ∧ (i < 20 → i % 2 = 1)) ∨ (c = 0 ∧ i % 2 = 0 ∧ i < 20) := by
  intro i hi c n e
  have h22 : i = 0 ∨ i = 1 ∨ i = 2 ∨ i = 3 ∨ i = 4 ∨ i = 5 ∨ i = 6 ∨ i = 7 ∨ i = 8 ∨ i = 9 ∨ i = 10 ∨ i = 11 ∨ i = 12 ∨ i = 13 ∨ i = 14 ∨ i = 15 ∨ i = 16 ∨ i = 17 ∨ i = 18 ∨ i = 19 ∨ i = 20 ∨ i = 21 := by omega
  rcases h22 with rfl | rfl | rfl | rfl | rfl | rfl | rfl | rfl | rfl | rfl | rfl | rfl | rfl | rfl | rfl | rfl | rfl | rfl | rfl | rfl | rfl | rfl <;> (cases e; decide)
theorem s_kc_in {a : Nat} {q : Nat × Nat} (e : j_kc a = some q) : ∃ i, i < 22 ∧ a = 1000000 + i := by
  unfold j_kc at e
  split at e
  · cases e
  · split at e
    · exact ⟨a - 1000000, by omega, by omega⟩
    · split at e
      · exact ⟨a - 1000000, by omega, by omega⟩
      · cases e
theorem s_kc {a c n : Nat} (e : j_kc a = some (c, n)) (hc : 32 ≤ c) : c = 34 ∧ n ≤ 100000 := by
  obtain ⟨i, hi, rfl⟩ := s_kc_in e
  rcases s_kc_all i hi c n e with h1 | h1 <;> omega
theorem s_kc0 {a c n : Nat} (e : j_kc a = some (c, n)) (hc : c < 13) : c = 0 ∧ ∃ i, i < 10 ∧ a = 1000000 + 2 * i := by
  obtain ⟨i, hi, rfl⟩ := s_kc_in e
  rcases s_kc_all i hi c n e with h1 | h1
  · omega
  · exact ⟨h1.1, i / 2, by omega, by omega⟩
theorem s_kb_r (a i : Nat) (hi : i < 100) : -128 ≤ s_kb a i ∧ s_kb a i ≤ 127 := by
  unfold s_kb
  split
  · omega
  · split
    · omega
    · split
      · omega
      · have key : ∀ t ∈ j_tx, ∀ x ∈ t.2.2, x < 128 := by decide
        split
        · rename_i t ht
          have h1 := key t (List.mem_of_getElem? ht)
          rw [List.getD_eq_getElem?_getD]
          cases hx : t.2.2[i]? with
          | none => simp
          | some x =>
            have := h1 x (List.mem_of_getElem? hx)
            simp only [Option.getD_some]
            omega
        · omega
theorem s_kb_i (a i : Nat) (hi : i < 100) : (Int32.ofInt (s_kb a i)).toInt = s_kb a i := by
  have := s_kb_r a i hi
  exact Int32.toInt_ofInt_of_le (by omega) (by omega)
theorem r_iaload (hC : s_C p s m args meth c R q b tt L sb xs nL) {a N : Nat} {i : Int} (hA : h.1[a]? = some (32, N)) (hi : 0 ≤ i ∧ i < N) (hdg : decode q.2.1 pc = .ok (.iaload, 1))
    (K : s_G D b tt L sb xs s ρ0 nL zc zs mc ms m (fun H locs cells slots g => W p l e R s m args below meth c H locs cells slots Q g) (pc + 1) ls (jI (h.2.2 a i.toNat) :: r) h) : s_G D b tt L sb xs s ρ0 nL zc zs mc ms m (fun H locs cells slots g => W p l e R s m args below meth c H locs cells slots Q g) pc ls (jI i :: jR a :: r) h := by
  intro H locs cells slots ws tys lsR rl stR hS hx hl hv hst hc hs
  obtain ⟨w1, w2, z, rfl, ⟨n1, rfl, e1⟩, ⟨q1, rfl, hq⟩, hz⟩ := s_st2 hst
  have hin : vp_in n1 N := vp_in_iff.mpr (by rw [e1]; exact hi)
  have hk : n1.toNatClampNeg = i.toNat := by rw [← e1]; rfl
  have hlt : i.toNat < N := by omega
  have hRO := hC.2.2.2.2.2.2.2.2
  rcases Nat.lt_or_ge a 2 with ha | ha
  · have h01 : a = 0 ∨ a = 1 := by omega
    rcases h01 with rfl | rfl
    · have hN := hS.1.2.2.1
      have eN : N = L := by have := hN.1.symm.trans hA; cases this; rfl
      subst eN
      have eb : b = q1 := Option.some.inj hq
      subst eb
      exact va_ti hC.1 hC.2.1 hRO.1 hS.2.2.2.2 hin rfl hdg (K _ _ _ _ _ _ _ _ _ hS hx hl hv ⟨⟨_, rfl, by rw [hk]; exact hN.2 _ hlt⟩, hz⟩ hc hs)
    · have hN := hS.1.2.2.2.1
      have eN : N = 6 := by have := hN.1.symm.trans hA; cases this; rfl
      subst eN
      have eb : tt 0 = q1 := Option.some.inj hq
      subst eb
      exact va_ti hC.1 hC.2.1 hRO.2.2.1 hS.2.2.2.2 hin rfl hdg (K _ _ _ _ _ _ _ _ _ hS hx hl hv ⟨⟨_, rfl, by rw [hk]; exact hN.2 _ hlt⟩, hz⟩ hc hs)
  · obtain ⟨k, cA, f, rfl, hw, ht, hf⟩ := s_w_int hS.1 hA ha (Or.inl rfl) hq
    have ht : (cA, FieldType.int) ∈ tys := by rcases ht with h | h | h <;> first | exact h.2 | (exact absurd h.1 (by decide))
    obtain ⟨t0, ht0⟩ := List.getElem?_of_mem ht
    exact va_iald hC.1 hC.2.1 hS.2.2.1 hS.2.1 k t0 hw ht0 hin hdg (K _ _ _ _ _ _ _ _ _ hS hx hl hv ⟨⟨_, rfl, by rw [hk]; exact hf _ hlt⟩, hz⟩ hc hs)
theorem r_laload (hC : s_C p s m args meth c R q b tt L sb xs nL) {a N : Nat} {i : Int} (hA : h.1[a]? = some (33, N)) (hi : 0 ≤ i ∧ i < N) (hdg : decode q.2.1 pc = .ok (.laload, 1))
    (K : s_G D b tt L sb xs s ρ0 nL zc zs mc ms m (fun H locs cells slots g => W p l e R s m args below meth c H locs cells slots Q g) (pc + 1) ls (jL (h.2.2 a i.toNat) :: r) h) : s_G D b tt L sb xs s ρ0 nL zc zs mc ms m (fun H locs cells slots g => W p l e R s m args below meth c H locs cells slots Q g) pc ls (jI i :: jR a :: r) h := by
  intro H locs cells slots ws tys lsR rl stR hS hx hl hv hst hc hs
  obtain ⟨w1, w2, z, rfl, ⟨n1, rfl, e1⟩, ⟨q1, rfl, hq⟩, hz⟩ := s_st2 hst
  have hin : vp_in n1 N := vp_in_iff.mpr (by rw [e1]; exact hi)
  have hk : n1.toNatClampNeg = i.toNat := by rw [← e1]; rfl
  have hlt : i.toNat < N := by omega
  obtain ⟨k, cA, f, rfl, hw, ht, hf⟩ := s_w_long hS.1 hA hq
  obtain ⟨t0, ht0⟩ := List.getElem?_of_mem ht
  exact va_lald hC.1 hC.2.1 hS.2.2.1 hS.2.1 k t0 hw ht0 hin hdg (K _ _ _ _ _ _ _ _ _ hS hx hl hv ⟨⟨_, rfl, by rw [hk]; exact hf _ hlt⟩, hz⟩ hc hs)
theorem r_baload (hC : s_C p s m args meth c R q b tt L sb xs nL) {a cc N : Nat} {i : Int} (hA0 : j_kd h a = some (cc, N)) (hcc : cc = 34 ∨ cc = 35) (hi : 0 ≤ i ∧ i < N) (hdg : decode q.2.1 pc = .ok (.baload, 1))
    (K : s_G D b tt L sb xs s ρ0 nL zc zs mc ms m (fun H locs cells slots g => W p l e R s m args below meth c H locs cells slots Q g) (pc + 1) ls (jI (h.2.2 a i.toNat) :: r) h) : s_G D b tt L sb xs s ρ0 nL zc zs mc ms m (fun H locs cells slots g => W p l e R s m args below meth c H locs cells slots Q g) pc ls (jI i :: jR a :: r) h := by
  intro H locs cells slots ws tys lsR rl stR hS hx hl hv hst hc hs
  obtain ⟨w1, w2, z, rfl, ⟨n1, rfl, e1⟩, ⟨q1, rfl, hq⟩, hz⟩ := s_st2 hst
  have hin : vp_in n1 N := vp_in_iff.mpr (by rw [e1]; exact hi)
  have hk : n1.toNatClampNeg = i.toNat := by rw [← e1]; rfl
  have hlt : i.toNat < N := by omega
  rcases s_kd hA0 with hA | ⟨hA, hkc⟩
  · obtain ⟨k, cA, f, rfl, hw, ht, hf⟩ := s_w_int hS.1 hA (s_w_two hS.1 hA (by omega)) (Or.inr hcc) hq
    rcases hcc with rfl | rfl
    · have ht : (cA, FieldType.byte) ∈ tys := by rcases ht with h | h | h <;> first | exact h.2 | (exact absurd h.1 (by decide))
      obtain ⟨t0, ht0⟩ := List.getElem?_of_mem ht
      exact va_bald hC.1 hC.2.1 hS.2.2.1 hS.2.1 k t0 hw ht0 hin hdg (K _ _ _ _ _ _ _ _ _ hS hx hl hv ⟨⟨_, rfl, by rw [hk]; exact hf _ hlt⟩, hz⟩ hc hs)
    · have ht : (cA, FieldType.boolean) ∈ tys := by rcases ht with h | h | h <;> first | exact h.2 | (exact absurd h.1 (by decide))
      obtain ⟨t0, ht0⟩ := List.getElem?_of_mem ht
      exact va_zald hC.1 hC.2.1 hS.2.2.1 hS.2.1 k t0 hw ht0 hin hdg (K _ _ _ _ _ _ _ _ _ hS hx hl hv ⟨⟨_, rfl, by rw [hk]; exact hf _ hlt⟩, hz⟩ hc hs)
  · have hRO := hC.2.2.2.2.2.2.2.2
    obtain ⟨-, rfl, hm⟩ := s_w_k hS.1 hA hq
    obtain ⟨rfl, h100⟩ := s_kc hkc (by omega)
    have hN : N ≤ 100 := by
      obtain ⟨i0, hi0, rfl⟩ := s_kc_in hkc
      rcases s_kc_all i0 hi0 _ _ hkc with h1 | h1 <;> omega
    exact va_tb hC.1 hC.2.1 (hRO.2.2.2.2.2.2.2.1.2.2.2.2.1 _ _ hkc) hS.2.2.2.2 hin rfl hdg (K _ _ _ _ _ _ _ _ _ hS hx hl hv ⟨⟨_, rfl, by rw [hk, hm]; exact s_kb_i _ _ (by omega)⟩, hz⟩ hc hs)
theorem va_aldA {cc : ByteArray} {cl : List vw_C} {a : Nat} {tys : List (ClassId × FieldType)} {ws : va_W} {ls : Array Slot} {rest : List Value} {H : Heap} {locs : List Loc} {cells slots : Nat} (hexec : p.tables.exec = Jvm.exec) (hb : c.code = cc) (hK : va_K D cl tys s) (hP : va_P D cl ws H) (q0 t0 : Nat) {cA : ClassId} {ty : FieldType} {n : Nat} {f : Nat → Option Nat} (ha : ws[q0]? = some (a, .inl (cA, n, .inr (.inr (.inr (.inr f)))))) (ht : tys[t0]? = some (cA, .array ty)) {i : Int32} (hin : vp_in i n) (hdg : decode cc pc = .ok (.aaload, 1))
    (kk : W p l e R s m args below meth c H locs cells slots Q (F0 m (pc + 1) ls (va_rf (f i.toNatClampNeg) :: rest))) : W p l e R s m args below meth c H locs cells slots Q (F0 m pc ls (.int i :: .ref a :: rest)) := by
  have hlt : i.toNatClampNeg < n := Nat.not_le.mp fun q => hin (Or.inr q)
  exact W.aald (v := va_rf (f i.toNatClampNeg)) (ty := .array ty) hexec hb (hP q0 _ ha) ((hK.2 t0 _ ht).1 n (fun j => va_rf (f j))) rfl (fun q => by cases q) (by show ¬ (i < 0 ∨ (arrV _ _ _).slots.size ≤ _); rw [arrV_size]; exact hin) (by show (arrV _ _ _).slots[_]? = _; rw [arrV_read _ _ hlt]) rfl rfl hdg kk
theorem r_aaload (hC : s_C p s m args meth c R q b tt L sb xs nL) {a N A : Nat} {i : Int} (hA : h.1[a]? = some (36, N)) (hi : 0 ≤ i ∧ i < N) (hrf : j_rf h a i.toNat = some A) (hdg : decode q.2.1 pc = .ok (.aaload, 1))
    (K : s_G D b tt L sb xs s ρ0 nL zc zs mc ms m (fun H locs cells slots g => W p l e R s m args below meth c H locs cells slots Q g) (pc + 1) ls (jR A :: r) h) : s_G D b tt L sb xs s ρ0 nL zc zs mc ms m (fun H locs cells slots g => W p l e R s m args below meth c H locs cells slots Q g) pc ls (jI i :: jR a :: r) h := by
  intro H locs cells slots ws tys lsR rl stR hS hx hl hv hst hc hs
  obtain ⟨w1, w2, z, rfl, ⟨n1, rfl, e1⟩, ⟨q1, rfl, hq⟩, hz⟩ := s_st2 hst
  have hin : vp_in n1 N := vp_in_iff.mpr (by rw [e1]; exact hi)
  have hk : n1.toNatClampNeg = i.toNat := by rw [← e1]; rfl
  have hlt : i.toNat < N := by omega
  obtain ⟨k, cA, f, rfl, hw, ht, hf⟩ := s_w_refs hS.1 hA hq
  obtain ⟨t0, ht0⟩ := List.getElem?_of_mem ht
  have h1 := hf _ hlt
  rw [hrf] at h1
  obtain ⟨q2, h2, h3⟩ := h1
  refine va_aldA hC.1 hC.2.1 hS.2.2.1 hS.2.1 k t0 hw ht0 hin hdg ?_
  rw [hk, h2]
  exact K _ _ _ _ _ _ _ _ _ hS hx hl hv ⟨⟨_, rfl, h3⟩, hz⟩ hc hs
theorem r_iastore (hC : s_C p s m args meth c R q b tt L sb xs nL) {a N : Nat} {i x : Int} (h2 : 2 ≤ a) (hA : h.1[a]? = some (32, N)) (hi : 0 ≤ i ∧ i < N)  (hdg : decode q.2.1 pc = .ok (.iastore, 1))
    (K : s_G D b tt L sb xs s ρ0 nL zc zs mc ms m (fun H locs cells slots g => W p l e R s m args below meth c H locs cells slots Q g) (pc + 1) ls r (h.1, h.2.1, j_up h.2.2 a i.toNat x)) : s_G D b tt L sb xs s ρ0 nL zc zs mc ms m (fun H locs cells slots g => W p l e R s m args below meth c H locs cells slots Q g) pc ls (jI x :: jI i :: jR a :: r) h := by
  intro H locs cells slots ws tys lsR rl stR hS hx hl hv hst hc hs
  obtain ⟨w0, w1, w2, z, rfl, ⟨n0, rfl, e0⟩, ⟨n1, rfl, e1⟩, ⟨q1, rfl, hq⟩, hz⟩ := s_st3 hst
  have hin : vp_in n1 N := vp_in_iff.mpr (by rw [e1]; exact hi)
  have hk : n1.toNatClampNeg = i.toNat := by rw [← e1]; rfl
  have hlt : i.toNat < N := by omega
  obtain ⟨k, cA, f, rfl, hw, ht, hf⟩ := s_w_int hS.1 hA h2 (by omega) hq
  have ht : (cA, FieldType.int) ∈ tys := by rcases ht with h | h | h <;> first | exact h.2 | (exact absurd h.1 (by decide))
  obtain ⟨t0, ht0⟩ := List.getElem?_of_mem ht
  have hcell : s_cell tys (s_ρ b tt ws) (h.1, h.2.1, j_up h.2.2 (k + 2) i.toNat x) (k + 2) (.inl (cA, N, .inl (upd f n1.toNatClampNeg n0))) := by
    refine ⟨32, hA, Or.inl ⟨rfl, ht⟩, fun j hj => ?_⟩
    show (upd f n1.toNatClampNeg n0 j).toInt = j_up h.2.2 (k + 2) i.toNat _ (k + 2) j
    unfold j_up upd
    rw [if_pos rfl, hk]
    split
    · exact e0
    · exact hf j hj
  refine va_iast hC.1 hC.2.1 hS.2.2.1 hS.2.1 hS.2.2.2.1 hS.2.2.2.2 k t0 hw ht0 hin hdg (fun H1 locs1 hP1 hD1 hS1 => ?_)
  refine K H1 locs1 cells slots _ tys lsR rl z ⟨s_w_upd hS.1 hw rfl rfl (fun j hj => ⟨fun i2 => ?_, fun _ => rfl⟩) hcell, hP1, hS.2.2.1, hD1, hS1⟩ (by rw [s_ρ_set hw]; exact hx) (by rw [s_ρ_set hw]; exact hl) hv (by rw [s_ρ_set hw]; exact hz) hc hs
  show j_up h.2.2 (k + 2) i.toNat _ j i2 = h.2.2 j i2
  unfold j_up
  rw [if_neg hj]
theorem r_bastore_b (hC : s_C p s m args meth c R q b tt L sb xs nL) {a N : Nat} {i x : Int} (h2 : 2 ≤ a) (hA : h.1[a]? = some (34, N)) (hi : 0 ≤ i ∧ i < N)  (hdg : decode q.2.1 pc = .ok (.bastore, 1))
    (K : s_G D b tt L sb xs s ρ0 nL zc zs mc ms m (fun H locs cells slots g => W p l e R s m args below meth c H locs cells slots Q g) (pc + 1) ls r (h.1, h.2.1, j_up h.2.2 a i.toNat (w8 x))) : s_G D b tt L sb xs s ρ0 nL zc zs mc ms m (fun H locs cells slots g => W p l e R s m args below meth c H locs cells slots Q g) pc ls (jI x :: jI i :: jR a :: r) h := by
  intro H locs cells slots ws tys lsR rl stR hS hx hl hv hst hc hs
  obtain ⟨w0, w1, w2, z, rfl, ⟨n0, rfl, e0⟩, ⟨n1, rfl, e1⟩, ⟨q1, rfl, hq⟩, hz⟩ := s_st3 hst
  have hin : vp_in n1 N := vp_in_iff.mpr (by rw [e1]; exact hi)
  have hk : n1.toNatClampNeg = i.toNat := by rw [← e1]; rfl
  have hlt : i.toNat < N := by omega
  obtain ⟨k, cA, f, rfl, hw, ht, hf⟩ := s_w_int hS.1 hA h2 (by omega) hq
  have ht : (cA, FieldType.byte) ∈ tys := by rcases ht with h | h | h <;> first | exact h.2 | (exact absurd h.1 (by decide))
  obtain ⟨t0, ht0⟩ := List.getElem?_of_mem ht
  have hcell : s_cell tys (s_ρ b tt ws) (h.1, h.2.1, j_up h.2.2 (k + 2) i.toNat (w8 x)) (k + 2) (.inl (cA, N, .inl (upd f n1.toNatClampNeg (vp_nar .byte n0)))) := by
    refine ⟨34, hA, Or.inr (Or.inl ⟨rfl, ht⟩), fun j hj => ?_⟩
    show (upd f n1.toNatClampNeg (vp_nar .byte n0) j).toInt = j_up h.2.2 (k + 2) i.toNat _ (k + 2) j
    unfold j_up upd
    rw [if_pos rfl, hk]
    split
    · rw [vp_nar_byte, Int8.toInt_toInt32, Int32.toInt_toInt8, e0]; rfl
    · exact hf j hj
  refine va_bast hC.1 hC.2.1 hS.2.2.1 hS.2.1 hS.2.2.2.1 hS.2.2.2.2 k t0 hw ht0 hin hdg (fun H1 locs1 hP1 hD1 hS1 => ?_)
  refine K H1 locs1 cells slots _ tys lsR rl z ⟨s_w_upd hS.1 hw rfl rfl (fun j hj => ⟨fun i2 => ?_, fun _ => rfl⟩) hcell, hP1, hS.2.2.1, hD1, hS1⟩ (by rw [s_ρ_set hw]; exact hx) (by rw [s_ρ_set hw]; exact hl) hv (by rw [s_ρ_set hw]; exact hz) hc hs
  show j_up h.2.2 (k + 2) i.toNat _ j i2 = h.2.2 j i2
  unfold j_up
  rw [if_neg hj]
theorem r_bastore_z (hC : s_C p s m args meth c R q b tt L sb xs nL) {a N : Nat} {i x : Int} (h2 : 2 ≤ a) (hA : h.1[a]? = some (35, N)) (hi : 0 ≤ i ∧ i < N) (hx01 : x = 0 ∨ x = 1) (hdg : decode q.2.1 pc = .ok (.bastore, 1))
    (K : s_G D b tt L sb xs s ρ0 nL zc zs mc ms m (fun H locs cells slots g => W p l e R s m args below meth c H locs cells slots Q g) (pc + 1) ls r (h.1, h.2.1, j_up h.2.2 a i.toNat x)) : s_G D b tt L sb xs s ρ0 nL zc zs mc ms m (fun H locs cells slots g => W p l e R s m args below meth c H locs cells slots Q g) pc ls (jI x :: jI i :: jR a :: r) h := by
  intro H locs cells slots ws tys lsR rl stR hS hx hl hv hst hc hs
  obtain ⟨w0, w1, w2, z, rfl, ⟨n0, rfl, e0⟩, ⟨n1, rfl, e1⟩, ⟨q1, rfl, hq⟩, hz⟩ := s_st3 hst
  have hin : vp_in n1 N := vp_in_iff.mpr (by rw [e1]; exact hi)
  have hk : n1.toNatClampNeg = i.toNat := by rw [← e1]; rfl
  have hlt : i.toNat < N := by omega
  obtain ⟨k, cA, f, rfl, hw, ht, hf⟩ := s_w_int hS.1 hA h2 (by omega) hq
  have ht : (cA, FieldType.boolean) ∈ tys := by rcases ht with h | h | h <;> first | exact h.2 | (exact absurd h.1 (by decide))
  obtain ⟨t0, ht0⟩ := List.getElem?_of_mem ht
  have hcell : s_cell tys (s_ρ b tt ws) (h.1, h.2.1, j_up h.2.2 (k + 2) i.toNat x) (k + 2) (.inl (cA, N, .inl (upd f n1.toNatClampNeg (vp_nar .boolean n0)))) := by
    refine ⟨35, hA, Or.inr (Or.inr ⟨rfl, ht⟩), fun j hj => ?_⟩
    show (upd f n1.toNatClampNeg (vp_nar .boolean n0) j).toInt = j_up h.2.2 (k + 2) i.toNat _ (k + 2) j
    unfold j_up upd
    rw [if_pos rfl, hk]
    split
    · rw [← e0]; rcases hx01 with h01 | h01
      · rw [show n0 = 0 from Int32.toInt_inj.mp (e0.trans h01)]; rfl
      · rw [show n0 = 1 from Int32.toInt_inj.mp (e0.trans h01)]; rfl
    · exact hf j hj
  refine va_zast hC.1 hC.2.1 hS.2.2.1 hS.2.1 hS.2.2.2.1 hS.2.2.2.2 k t0 hw ht0 hin hdg (fun H1 locs1 hP1 hD1 hS1 => ?_)
  refine K H1 locs1 cells slots _ tys lsR rl z ⟨s_w_upd hS.1 hw rfl rfl (fun j hj => ⟨fun i2 => ?_, fun _ => rfl⟩) hcell, hP1, hS.2.2.1, hD1, hS1⟩ (by rw [s_ρ_set hw]; exact hx) (by rw [s_ρ_set hw]; exact hl) hv (by rw [s_ρ_set hw]; exact hz) hc hs
  show j_up h.2.2 (k + 2) i.toNat _ j i2 = h.2.2 j i2
  unfold j_up
  rw [if_neg hj]
theorem r_lastore (hC : s_C p s m args meth c R q b tt L sb xs nL) {a N : Nat} {i x : Int} (h2 : 2 ≤ a) (hA : h.1[a]? = some (33, N)) (hi : 0 ≤ i ∧ i < N)  (hdg : decode q.2.1 pc = .ok (.lastore, 1))
    (K : s_G D b tt L sb xs s ρ0 nL zc zs mc ms m (fun H locs cells slots g => W p l e R s m args below meth c H locs cells slots Q g) (pc + 1) ls r (h.1, h.2.1, j_up h.2.2 a i.toNat x)) : s_G D b tt L sb xs s ρ0 nL zc zs mc ms m (fun H locs cells slots g => W p l e R s m args below meth c H locs cells slots Q g) pc ls (jL x :: jI i :: jR a :: r) h := by
  intro H locs cells slots ws tys lsR rl stR hS hx hl hv hst hc hs
  obtain ⟨w0, w1, w2, z, rfl, ⟨n0, rfl, e0⟩, ⟨n1, rfl, e1⟩, ⟨q1, rfl, hq⟩, hz⟩ := s_st3 hst
  have hin : vp_in n1 N := vp_in_iff.mpr (by rw [e1]; exact hi)
  have hk : n1.toNatClampNeg = i.toNat := by rw [← e1]; rfl
  have hlt : i.toNat < N := by omega
  obtain ⟨k, cA, f, rfl, hw, ht, hf⟩ := s_w_long hS.1 hA hq
  obtain ⟨t0, ht0⟩ := List.getElem?_of_mem ht
  have hcell : s_cell tys (s_ρ b tt ws) (h.1, h.2.1, j_up h.2.2 (k + 2) i.toNat x) (k + 2) (.inl (cA, N, .inr (.inl (vp_updL f n1.toNatClampNeg n0)))) := by
    refine ⟨hA, ht, fun j hj => ?_⟩
    show (vp_updL f n1.toNatClampNeg n0 j).toInt = j_up h.2.2 (k + 2) i.toNat _ (k + 2) j
    unfold j_up vp_updL
    rw [if_pos rfl, hk]
    split
    · exact e0
    · exact hf j hj
  refine va_last hC.1 hC.2.1 hS.2.2.1 hS.2.1 hS.2.2.2.1 hS.2.2.2.2 k t0 hw ht0 hin hdg (fun H1 locs1 hP1 hD1 hS1 => ?_)
  refine K H1 locs1 cells slots _ tys lsR rl z ⟨s_w_upd hS.1 hw rfl rfl (fun j hj => ⟨fun i2 => ?_, fun _ => rfl⟩) hcell, hP1, hS.2.2.1, hD1, hS1⟩ (by rw [s_ρ_set hw]; exact hx) (by rw [s_ρ_set hw]; exact hl) hv (by rw [s_ρ_set hw]; exact hz) hc hs
  show j_up h.2.2 (k + 2) i.toNat _ j i2 = h.2.2 j i2
  unfold j_up
  rw [if_neg hj]
theorem s_big {b : Nat} {tt : Nat → Nat} {L : Nat} {xs : Nat → Int32} {tys : List (ClassId × FieldType)} {h : j_H} {ws : va_W} {A c n : Nat} (H : s_w b tt L xs tys h ws) (hA : h.1[A]? = some (c, n)) : n ≤ 100000 := H.2.2.2.2.2.1 (c, n) (List.mem_of_getElem? hA)
theorem s_nat {n : Nat} (h : n ≤ 100000) : (Int32.ofNat n).toInt = n := Int32.toInt_ofNat_of_lt (by omega)
theorem r_alen (hC : s_C p s m args meth c R q b tt L sb xs nL) {a cc N : Nat} (hA0 : j_kd h a = some (cc, N)) (hcc : 32 ≤ cc) (hdg : decode q.2.1 pc = .ok (.arraylength, 1))
    (K : s_G D b tt L sb xs s ρ0 nL zc zs mc ms m (fun H locs cells slots g => W p l e R s m args below meth c H locs cells slots Q g) (pc + 1) ls (jI N :: r) h) : s_G D b tt L sb xs s ρ0 nL zc zs mc ms m (fun H locs cells slots g => W p l e R s m args below meth c H locs cells slots Q g) pc ls (jR a :: r) h := by
  intro H locs cells slots ws tys lsR rl stR hS hx hl hv hst hc hs
  obtain ⟨w1, z, rfl, ⟨q1, rfl, hq⟩, hz⟩ := s_st1 hst
  have hRO := hC.2.2.2.2.2.2.2.2
  rcases s_kd hA0 with hA | ⟨hA, hkc⟩
  rotate_left
  · obtain ⟨-, rfl, hm⟩ := s_w_k hS.1 hA hq
    obtain ⟨rfl, h100⟩ := s_kc hkc hcc
    exact va_tlen hC.1 hC.2.1 (hRO.2.2.2.2.2.2.2.1.2.2.2.2.1 _ _ hkc) hS.2.2.2.2 rfl hdg (K _ _ _ _ _ _ _ _ _ hS hx hl hv ⟨⟨_, rfl, s_nat h100⟩, hz⟩ hc hs)
  have hN := s_nat (s_big hS.1 hA)
  rcases Nat.lt_or_ge a 2 with ha | ha
  · have h01 : a = 0 ∨ a = 1 := by omega
    rcases h01 with rfl | rfl
    · have eN : N = L := by have := hS.1.2.2.1.1.symm.trans hA; cases this; rfl
      subst eN
      have eb : b = q1 := Option.some.inj hq
      subst eb
      exact va_tlen hC.1 hC.2.1 hRO.1 hS.2.2.2.2 rfl hdg (K _ _ _ _ _ _ _ _ _ hS hx hl hv ⟨⟨_, rfl, hN⟩, hz⟩ hc hs)
    · have eN : N = 6 := by have := hS.1.2.2.2.1.1.symm.trans hA; cases this; rfl
      subst eN
      have eb : tt 0 = q1 := Option.some.inj hq
      subst eb
      exact va_tlen hC.1 hC.2.1 hRO.2.2.1 hS.2.2.2.2 rfl hdg (K _ _ _ _ _ _ _ _ _ hS hx hl hv ⟨⟨_, rfl, hN⟩, hz⟩ hc hs)
  · obtain ⟨k, e, rfl, hw, he⟩ := s_w_cell hS.1 (List.getElem?_eq_some_iff.mp hA).1 ha hq
    have key : ∃ (cA : ClassId) (x : vp_A) (ty : FieldType), e = .inl (cA, x) ∧ (cA, ty) ∈ tys ∧ x.1 = N := by
      match e, he with
      | .inr (ci, fs), ⟨r, a1, a2, a3, a4⟩ =>
        rw [hA] at a2
        cases a2
        have := vwCl_lt a1
        omega
      | .inl (cA, n', .inl f), ⟨t, a1, a2, a3⟩ =>
        rw [hA] at a1
        cases a1
        rcases a2 with a2 | a2 | a2 <;> exact ⟨cA, _, _, rfl, a2.2, rfl⟩
      | .inl (cA, n', .inr (.inl f)), ⟨a1, a2, a3⟩ =>
        rw [hA] at a1
        cases a1
        exact ⟨cA, _, _, rfl, a2, rfl⟩
      | .inl (cA, n', .inr (.inr (.inr (.inr f)))), ⟨a1, a2, a3⟩ =>
        rw [hA] at a1
        cases a1
        exact ⟨cA, _, _, rfl, a2, rfl⟩
    obtain ⟨cA, x, ty, rfl, ht, hxN⟩ := key
    obtain ⟨t0, ht0⟩ := List.getElem?_of_mem ht
    exact va_alen hC.1 hC.2.1 hS.2.2.1 hS.2.1 k t0 hw ht0 (congrArg Int32.ofNat hxN) hdg (K _ _ _ _ _ _ _ _ _ hS hx hl hv ⟨⟨_, rfl, hN⟩, hz⟩ hc hs)
def j_gv (h : j_H) (a c k : Nat) : Option j_V := match j_ty c k with
  | 0 => some (jI (h.2.2 a k))
  | 1 => some (jL (h.2.2 a k))
  | 2 => some (jI (h.2.2 a k))
  | _ => (j_rk1 h a k).map jR
theorem s_fld_gv {ρ : j_P} {h : j_H} {a c k : Nat} {v : j_V} {w : Value} {y : Nat × Nat} (hA : h.1[a]? = some y) (hf : s_fld ρ h a c k w) (hv : j_gv h a c k = some v) : s_val ρ v w := by
  have e9 : j_rk1 h a k = j_rf h a k := by unfold j_rk1; rw [hA]
  unfold s_fld at hf
  unfold j_gv at hv
  rw [e9] at hv
  split at hf
  · rename_i e; rw [e] at hv; cases hv; exact hf
  · rename_i e; rw [e] at hv; cases hv; exact hf
  · rename_i e; rw [e] at hv; cases hv; exact hf
  · rename_i e0 e1 e2
    have hv : (j_rf h a k).map jR = some v := by
      split at hv
      · exact absurd (by assumption) e0
      · exact absurd (by assumption) e1
      · exact absurd (by assumption) e2
      · exact hv
    cases hr : j_rf h a k with
    | none => rw [hr] at hv; cases hv
    | some A =>
      rw [hr] at hv hf
      cases hv
      exact hf
theorem r_getf (hC : s_C p s m args meth c R q b tt L sb xs nL) {a c0 N k ix : Nat} {v : j_V} {r0 : vw_C} (hA0 : j_kd h a = some (c0, N)) (hr : vwCl[c0]? = some r0) (hk : k < r0.2.2) (hk1 : h.1[a]? = none → k ≤ 1) (hlink : Cond.fieldLink (j_cnm q.2.2.2.2.1) ix (r0.2.1 k).1 (r0.2.1 k).2.1 (r0.2.1 k).2.2.1 ∈ lwW ∨ ((∃ host, (Cond.fieldLinkNest (j_cnm q.2.2.2.2.1) ix (r0.2.1 k).1 (r0.2.1 k).2.1 (r0.2.1 k).2.2.1 host).before args s = true) ∧ c0 ≠ 0)) (hv0 : j_gv h a c0 k = some v) (hdg : decode q.2.1 pc = .ok (.getfield ix, 3))
    (K : s_G D b tt L sb xs s ρ0 nL zc zs mc ms m (fun H locs cells slots g => W p l e R s m args below meth c H locs cells slots Q g) (pc + 3) ls (v :: r) h) : s_G D b tt L sb xs s ρ0 nL zc zs mc ms m (fun H locs cells slots g => W p l e R s m args below meth c H locs cells slots Q g) pc ls (jR a :: r) h := by
  intro H locs cells slots ws tys lsR rl stR hS hx hl hv hst hc hs
  obtain ⟨w1, z, rfl, ⟨q1, rfl, hq⟩, hz⟩ := s_st1 hst
  rcases s_kd hA0 with hA | ⟨hA, hkc⟩
  · obtain ⟨k2, fs, r1, rfl, hw, hr1, hlen, hf⟩ := s_w_obj hS.1 hA (by have := vwCl_lt hr; omega) hq
    cases hr.symm.trans hr1
    have hkl : k < fs.length := by omega
    have hfk : fs[k]? = some fs[k] := List.getElem?_eq_getElem hkl
    have hval := s_fld_gv hA (hf k _ hfk) hv0
    obtain ⟨z1, z2, z3, z4, z5, z6, z7, z8⟩ := s_cl hr
    rcases hlink with h1 | ⟨⟨host, h1⟩, -⟩
    · exact va_get hC.1 hC.2.1 (s_words hC) z1 hC.2.2.2.1 hS.2.2.1 hS.2.1 k2 hw hr k hk (s_words hC _ h1) (fun x hx => hx) hfk hdg (K _ _ _ _ _ _ _ _ _ hS hx hl hv ⟨hval, hz⟩ hc hs)
    · exact va_getN hC.1 hC.2.1 (s_words hC) z1 hC.2.2.2.1 hS.2.2.1 hS.2.1 k2 hw hr k hk h1 (fun x hx => hx) hfk hdg (K _ _ _ _ _ _ _ _ _ hS hx hl hv ⟨hval, hz⟩ hc hs)
  · have hRO := hC.2.2.2.2.2.2.2.2
    obtain ⟨ha1, rfl, hm⟩ := s_w_k hS.1 hA hq
    obtain ⟨rfl, i, hi, rfl⟩ := s_kc0 hkc (vwCl_lt hr)
    cases (show some (RJ0, TJ0, 4) = some r0 from hr)
    have hT := hRO.2.2.2.2.2.2.2.1.2.2.2.2.2.1 i hi
    rw [show 1000000 + 2 * i - 999999 = 1 + 2 * i by omega]
    rcases hlink with h1 | ⟨-, h1⟩
    rotate_left
    · exact absurd rfl h1
    have hk2 := hk1 hA
    obtain rfl | rfl : k = 0 ∨ k = 1 := by omega
    · unfold j_gv at hv0
      have e1 : j_ty 0 0 = 3 := rfl
      have e2 : j_rk1 h (1000000 + 2 * i) 0 = some (1000000 + 2 * i + 1) := by
        unfold j_rk1
        rw [hA]
        show (if 1000000 ≤ 1000000 + 2 * i ∧ 0 = 0 then some (1000000 + 2 * i + 1) else none) = _
        rw [if_pos ⟨by omega, rfl⟩]
      rw [e1, e2] at hv0
      cases hv0
      have ha2 : s_ρ b tt ws (1000000 + 2 * i + 1) = some (tt (2 + 2 * i)) := by
        have h9 : ws.length + 2 ≤ 1000000 + 2 * i := by rw [← hS.1.1]; exact List.getElem?_eq_none_iff.mp hA
        rw [s_ρ_out (by omega)]
        unfold s_kρ
        rw [if_pos (by omega), show 1000000 + 2 * i + 1 - 999999 = 2 + 2 * i by omega]
      exact vk_getf hC.1 hC.2.1 hT.2.2 hS.2.2.2.2 hC.2.2.2.1 (s_words hC _ h1) (fun x hx => hx) hdg (K _ _ _ _ _ _ _ _ _ hS hx hl hv ⟨⟨_, rfl, ha2⟩, hz⟩ hc hs)
    · unfold j_gv at hv0
      have e1 : j_ty 0 1 = 2 := rfl
      have e2 : h.2.2 (1000000 + 2 * i) 1 = 0 := by
        rw [hm]
        unfold s_kb
        rw [if_neg (by omega), if_neg (by omega), if_pos (by omega)]
      rw [e1] at hv0
      simp only [e2] at hv0
      cases hv0
      exact vk_getf hC.1 hC.2.1 hT.2.1 hS.2.2.2.2 hC.2.2.2.1 (s_words hC _ h1) (fun x hx => hx) hdg (K _ _ _ _ _ _ _ _ _ hS hx hl hv ⟨⟨0, rfl, rfl⟩, hz⟩ hc hs)
def j_pv (h : j_H) (q c k : Nat) (v : j_V) : Option j_H := j_put h q c k v none some
theorem j_srf_ne {h : j_H} {a k q j i : Nat} {m : j_M0} (hj : j ≠ a) : j_rf (h.1, j_srf h a k q, m) j i = j_rf h j i := by
  unfold j_rf j_srf
  simp only [List.getD_eq_getElem?_getD, List.getElem?_set]
  rw [if_neg (fun e => hj e.symm)]
theorem j_srf_eq {h : j_H} {a k q i : Nat} {m : j_M0} (hi : i ≠ k) : j_rf (h.1, j_srf h a k q, m) a i = j_rf h a i := by
  unfold j_rf j_srf
  simp only [List.getD_eq_getElem?_getD, List.getElem?_set]
  split
  · split
    · simp only [Option.getD_some, List.getElem?_set]
      rw [if_neg (fun e => hi e.symm)]
    · rename_i h1 h2
      rw [List.getElem?_eq_none (Nat.not_lt.mp h2)]
  · rename_i h1
    exact absurd trivial h1
theorem j_srf_at {h : j_H} {a k q A : Nat} {m : j_M0} (e : j_rf (h.1, j_srf h a k q, m) a k = some A) : A = q ∨ j_rf h a k = some A := by
  unfold j_rf j_srf at e
  simp only [List.getD_eq_getElem?_getD, List.getElem?_set] at e
  split at e
  · split at e
    · simp only [Option.getD_some, List.getElem?_set] at e
      split at e
      · split at e
        · simp at e
          exact Or.inl e.symm
        · simp at e
      · rename_i h1
        exact absurd trivial h1
    · simp at e
  · rename_i h1
    exact absurd trivial h1
theorem j_srf_dom {h : j_H} {a k q : Nat} {m : j_M0} {A : Nat} (e : j_rf (h.1, j_srf h a k q, m) a k = some A) : A = q := by
  unfold j_rf j_srf at e
  simp only [List.getD_eq_getElem?_getD, List.getElem?_set] at e
  split at e
  · split at e
    · simp only [Option.getD_some, List.getElem?_set] at e
      split at e
      · split at e
        · simp at e
          exact e.symm
        · simp at e
      · rename_i h1
        exact absurd trivial h1
    · simp at e
  · rename_i h1
    exact absurd trivial h1
theorem s_put_cell {ρ : j_P} {tys : List (ClassId × FieldType)} {h g : j_H} {a c0 k N : Nat} {v : j_V} {w : Value} {fs : List Value} {r0 : vw_C} (hA : h.1[a]? = some (c0, N)) (hN : N = r0.2.2) (hr : vwCl[c0]? = some r0) (hk : k < r0.2.2) (hlen : fs.length = r0.2.2) (hf : ∀ (j : Nat) (v : Value), fs[j]? = some v → s_fld ρ h a c0 j v) (hv : s_val ρ v w) (hp : j_pv h a c0 k v = some g) :
    narrow (j_tf c0 k) w = w ∧ Jvm.fits (j_tf c0 k) w = true ∧ g.1 = h.1 ∧ g.2.1.length = h.2.1.length ∧ (∀ j, j ≠ a → (∀ i, g.2.2 j i = h.2.2 j i) ∧ ∀ i, j_rf g j i = j_rf h j i) ∧ s_cell tys ρ g a (.inr (c0, fs.set k w)) := by
  have hcell : ∀ g : j_H, g.1 = h.1 → (∀ i, i ≠ k → g.2.2 a i = h.2.2 a i ∧ j_rf g a i = j_rf h a i) → s_fld ρ g a c0 k w → s_cell tys ρ g a (.inr (c0, fs.set k w)) := by
    intro g h1 h2 h3
    refine ⟨r0, hr, by rw [h1, hA, hN], by rw [List.length_set]; exact hlen, fun j v hj => ?_⟩
    rw [List.getElem?_set] at hj
    by_cases e : k = j
    · subst e
      rw [if_pos rfl, if_pos (by omega)] at hj
      cases hj
      exact h3
    · rw [if_neg e] at hj
      exact s_fld_mono (fun _ _ h => h) (h2 j (fun q => e q.symm)).1 (h2 j (fun q => e q.symm)).2 (hf j v hj)
  have hup : ∀ (x : Int) (j : Nat), j ≠ a → ∀ i, j_up h.2.2 a k x j i = h.2.2 j i := fun x j hj i => by unfold j_up; rw [if_neg hj]
  have hup2 : ∀ (x : Int) (i : Nat), i ≠ k → j_up h.2.2 a k x a i = h.2.2 a i := fun x i hi => by unfold j_up; rw [if_pos rfl, if_neg hi]
  have hup3 : ∀ (x : Int), j_up h.2.2 a k x a k = x := fun x => by unfold j_up; rw [if_pos rfl, if_pos rfl]
  have hty := j_ty_tf c0 k
  unfold j_pv j_put at hp
  rcases (s_cl hr).2.2.2.1 k hk with e | e | (e | e) | ⟨n, e⟩ | ⟨n, e⟩
  · rw [e] at hty
    rw [hty] at hp
    simp only [j_tc] at hp
    split at hp
    · cases hp
      obtain ⟨n, rfl, e1⟩ := hv
      rw [e]
      refine ⟨rfl, rfl, rfl, rfl, fun j hj => ⟨hup _ j hj, fun _ => rfl⟩, hcell _ rfl (fun i hi => ⟨hup2 _ i hi, rfl⟩) ?_⟩
      unfold s_fld
      rw [hty]
      exact ⟨n, rfl, e1.trans (hup3 _).symm⟩
    · cases hp
  · rw [e] at hty
    rw [hty] at hp
    simp only [j_tc] at hp
    split at hp
    · cases hp
      obtain ⟨n, rfl, e1⟩ := hv
      rw [e]
      refine ⟨rfl, rfl, rfl, rfl, fun j hj => ⟨hup _ j hj, fun _ => rfl⟩, hcell _ rfl (fun i hi => ⟨hup2 _ i hi, rfl⟩) ?_⟩
      unfold s_fld
      rw [hty]
      exact ⟨n, rfl, e1.trans (hup3 _).symm⟩
    · cases hp
  · rw [e] at hty
    rw [hty] at hp
    simp only [j_tc] at hp
    split at hp
    · split at hp
      · rename_i hx
        cases hp
        obtain ⟨n, rfl, e1⟩ := hv
        rw [e]
        have hn : n = 0 ∨ n = 1 := by
          rcases hx with hx | hx
          · exact Or.inl (Int32.toInt_inj.mp (e1.trans hx))
          · exact Or.inr (Int32.toInt_inj.mp (e1.trans hx))
        refine ⟨by rcases hn with rfl | rfl <;> rfl, by rcases hn with rfl | rfl <;> rfl, rfl, rfl, fun j hj => ⟨hup _ j hj, fun _ => rfl⟩, hcell _ rfl (fun i hi => ⟨hup2 _ i hi, rfl⟩) ?_⟩
        unfold s_fld
        rw [hty]
        exact ⟨n, rfl, e1.trans (hup3 _).symm⟩
      · cases hp
    · cases hp
  · rw [e] at hty
    rw [hty] at hp
    simp only [j_tc] at hp
    split at hp
    · split at hp
      · rename_i hx
        cases hp
        obtain ⟨n, rfl, e1⟩ := hv
        rw [e]
        have hn : n = 0 ∨ n = 1 := by
          rcases hx with hx | hx
          · exact Or.inl (Int32.toInt_inj.mp (e1.trans hx))
          · exact Or.inr (Int32.toInt_inj.mp (e1.trans hx))
        refine ⟨by rcases hn with rfl | rfl <;> rfl, by rcases hn with rfl | rfl <;> rfl, rfl, rfl, fun j hj => ⟨hup _ j hj, fun _ => rfl⟩, hcell _ rfl (fun i hi => ⟨hup2 _ i hi, rfl⟩) ?_⟩
        unfold s_fld
        rw [hty]
        exact ⟨n, rfl, e1.trans (hup3 _).symm⟩
      · cases hp
    · cases hp
  · rw [e] at hty
    rw [hty] at hp
    simp only [j_tc] at hp
    split at hp
    · cases hp
      obtain ⟨q, rfl, e1⟩ := hv
      rw [e]
      refine ⟨rfl, rfl, rfl, by simp [j_srf], fun j hj => ⟨fun _ => rfl, fun i => j_srf_ne hj⟩, hcell _ rfl (fun i hi => ⟨rfl, j_srf_eq hi⟩) ?_⟩
      unfold s_fld
      rw [hty]
      simp only [j_tc]
      cases hA2 : j_rf (h.1, j_srf h a k _, h.2.2) a k with
      | none => trivial
      | some A =>
        have := j_srf_dom hA2
        subst this
        exact ⟨q, rfl, e1⟩
    · cases hp
  · rw [e] at hty
    rw [hty] at hp
    simp only [j_tc] at hp
    split at hp
    · cases hp
      obtain ⟨q, rfl, e1⟩ := hv
      rw [e]
      refine ⟨rfl, rfl, rfl, by simp [j_srf], fun j hj => ⟨fun _ => rfl, fun i => j_srf_ne hj⟩, hcell _ rfl (fun i hi => ⟨rfl, j_srf_eq hi⟩) ?_⟩
      unfold s_fld
      rw [hty]
      simp only [j_tc]
      cases hA2 : j_rf (h.1, j_srf h a k _, h.2.2) a k with
      | none => trivial
      | some A =>
        have := j_srf_dom hA2
        subst this
        exact ⟨q, rfl, e1⟩
    · cases hp
theorem r_putf (hC : s_C p s m args meth c R q b tt L sb xs nL) {a c0 N k ix : Nat} {v : j_V} {g : j_H} {r0 : vw_C} (hA : h.1[a]? = some (c0, N)) (hr : vwCl[c0]? = some r0) (hk : k < r0.2.2) (hlink : (Cond.fieldLink (j_cnm q.2.2.2.2.1) ix (r0.2.1 k).1 (r0.2.1 k).2.1 (r0.2.1 k).2.2.1 ∈ lwW ∧ ((r0.2.1 k).2.2.2 = false ∨ (q.2.2.2.2.2.1 = 2 ∧ j_cnm q.2.2.2.2.1 = (r0.2.1 k).1 ∧ (r0.2.1 k).2.2.2 = true))) ∨ ((∃ host, (Cond.fieldLinkNest (j_cnm q.2.2.2.2.1) ix (r0.2.1 k).1 (r0.2.1 k).2.1 (r0.2.1 k).2.2.1 host).before args s = true) ∧ (r0.2.1 k).2.2.2 = false)) (hp : j_pv h a c0 k v = some g) (hdg : decode q.2.1 pc = .ok (.putfield ix, 3))
    (K : s_G D b tt L sb xs s ρ0 nL zc zs mc ms m (fun H locs cells slots g => W p l e R s m args below meth c H locs cells slots Q g) (pc + 3) ls r g) : s_G D b tt L sb xs s ρ0 nL zc zs mc ms m (fun H locs cells slots g => W p l e R s m args below meth c H locs cells slots Q g) pc ls (v :: jR a :: r) h := by
  intro H locs cells slots ws tys lsR rl stR hS hx hl hv hst hc hs
  obtain ⟨w0, w1, z, rfl, hv0, ⟨q1, rfl, hq⟩, hz⟩ := s_st2 hst
  obtain ⟨k2, fs, r1, rfl, hw, hr1, hlen, hf⟩ := s_w_obj hS.1 hA (by have := vwCl_lt hr; omega) hq
  cases hr.symm.trans hr1
  have hkl : k < fs.length := by omega
  have hN : N = r0.2.2 := by
    obtain ⟨k3, e, e1, e2, e3⟩ := s_w_cell hS.1 (List.getElem?_eq_some_iff.mp hA).1 (by omega) hq
    cases (show k2 = k3 by omega)
    cases hw.symm.trans e2
    obtain ⟨r1, a1, a2, a3, a4⟩ := e3
    cases hr.symm.trans a1
    rw [hA] at a2
    cases a2
    rfl
  obtain ⟨p1, p2, p3, p4, p5, p6⟩ := s_put_cell (tys := tys) hA hN hr hk hlen hf hv0 hp
  obtain ⟨z1, z2, z3, z4, z5, z6, z7, z8⟩ := s_cl hr
  have fin : ∀ (H1 : Heap) (locs1 : List Loc), va_P D vwCl (ws.set k2 (q1, .inr (c0, fs.set k w0))) H1 → va_D (s_A sb) (ws.set k2 (q1, .inr (c0, fs.set k w0))) → va_S (s_A sb) s.heap H1 locs1 → W p l e R s m args below meth c H1 locs1 cells slots Q (F0 m (pc + 3) lsR z) := fun H1 locs1 hP1 hD1 hS1 =>
    K H1 locs1 cells slots _ tys lsR rl z ⟨s_w_upd hS.1 hw p3 p4 (fun j hj => p5 j hj) p6, hP1, hS.2.2.1, hD1, hS1⟩ (by rw [s_ρ_set hw]; exact hx) (by rw [s_ρ_set hw]; exact hl) hv (by rw [s_ρ_set hw]; exact hz) (by rw [p3]; exact hc) (by unfold s_sl; rw [p3]; exact hs)
  rcases hlink with ⟨h1, h2 | ⟨h2, h3, h4⟩⟩ | ⟨⟨host, h1⟩, h2⟩
  · exact va_put hC.1 hC.2.1 (s_words hC) z1 (j_tf c0) z2 z5 hC.2.2.2.1 hS.2.2.1 hS.2.1 hS.2.2.2.1 hS.2.2.2.2 k2 hw hr k hk (s_words hC _ h1) (fun x hx => hx) h2 (z2 k hk) p1 p2 hkl hdg fin
  · exact va_putF hC.1 hC.2.1 (s_words hC) z1 (j_tf c0) z2 z5 hC.2.2.2.1 hS.2.2.1 hS.2.1 hS.2.2.2.1 hS.2.2.2.2 k2 hw hr k hk (s_words hC _ h1) (fun x hx => hx) h4 (hC.2.2.2.2.2.1 h2) h3.symm (z2 k hk) p1 p2 hkl hdg fin
  · exact va_putN hC.1 hC.2.1 (s_words hC) z1 (j_tf c0) z2 z5 hC.2.2.2.1 hS.2.2.1 hS.2.1 hS.2.2.2.1 hS.2.2.2.2 k2 hw hr k hk h1 (fun x hx => hx) h2 (z2 k hk) p1 p2 hkl hdg fin
theorem r_gets (hC : s_C p s m args meth c R q b tt L sb xs nL) {ix : Nat} (hlink : Cond.fieldLink (j_cnm q.2.2.2.2.1) ix "WholePacks" "TENS" "[I" ∈ lwW ∨ ∃ host, (Cond.fieldLinkNest (j_cnm q.2.2.2.2.1) ix "WholePacks" "TENS" "[I" host).before args s = true) (hdg : decode q.2.1 pc = .ok (.getstatic ix, 3))
    (K : s_G D b tt L sb xs s ρ0 nL zc zs mc ms m (fun H locs cells slots g => W p l e R s m args below meth c H locs cells slots Q g) (pc + 3) ls (jR 1 :: r) h) : s_G D b tt L sb xs s ρ0 nL zc zs mc ms m (fun H locs cells slots g => W p l e R s m args below meth c H locs cells slots Q g) pc ls r h := by
  intro H locs cells slots ws tys lsR rl stR hS hx hl hv hst hc hs
  have hRO := hC.2.2.2.2.2.2.2.2
  rcases hlink with h1 | ⟨host, h1⟩
  · exact va_gets hC.1 hC.2.1 hRO.2.2.2.1 hS.2.2.2.2 hC.2.2.2.1 (s_words hC _ h1) (fun x hx => hx) hdg (K _ _ _ _ _ _ _ _ _ hS hx hl hv ⟨⟨tt 0, rfl, rfl⟩, hst⟩ hc hs)
  · exact va_getsN hC.1 hC.2.1 hRO.2.2.2.1 hS.2.2.2.2 hC.2.2.2.1 h1 (fun x hx => hx) hdg (K _ _ _ _ _ _ _ _ _ hS hx hl hv ⟨⟨tt 0, rfl, rfl⟩, hst⟩ hc hs)
end SM
end
section
/-! What is made; copies. -/
theorem s_ρ_last {b : Nat} {tt : Nat → Nat} {ws : va_W} {x : Nat × va_E} {k : Nat} (hk : k = ws.length + 2) : s_ρ b tt (ws ++ [x]) k = some x.1 := by
  subst hk
  rw [s_ρ_in (by simp)]
  show ((ws ++ [x]).map (fun q => q.1))[ws.length]? = some x.1
  simp
theorem j_rf_last {h : j_H} {k c i n : Nat} {m : j_M0} (hk : k = h.2.1.length) : j_rf (h.1 ++ [(c, n)], h.2.1 ++ [List.replicate i none], m) k = fun _ => none := by
  subst hk
  funext j
  unfold j_rf
  simp only [List.getD_eq_getElem?_getD]
  rw [List.getElem?_append_right (Nat.le_refl _), Nat.sub_self]
  simp only [List.getElem?_cons_zero, Option.getD_some, List.getElem?_replicate]
  split <;> rfl
theorem s_w_new {b : Nat} {tt : Nat → Nat} {L : Nat} {xs : Nat → Int32} {tys tys' : List (ClassId × FieldType)} {h : j_H} {ws : va_W} {x : Nat × va_E} {c n : Nat} (H : s_w b tt L xs tys h ws) (ht : ∀ q, q ∈ tys → q ∈ tys') (hn : n ≤ 100000) (hlt : h.1.length < 900000) (hc : s_cell tys' (s_ρ b tt (ws ++ [x])) (j_new h c n) h.1.length x.2) : s_w b tt L xs tys' (j_new h c n) (ws ++ [x]) := by
  refine s_w_app H ht ⟨_, rfl, rfl, fun q hq => by cases List.mem_singleton.mp hq; exact hn⟩ ⟨_, rfl, rfl⟩ (fun j hj i => ?_) (fun k q hq => ?_) (by show (h.1 ++ [(c, n)]).length ≤ _; rw [List.length_append, List.length_singleton]; omega) (fun a i g1 g2 => ?_)
  · show j_zero h.2.2 h.1.length j i = _
    unfold j_zero
    rw [if_neg (by omega)]
  · cases k with
    | zero => cases hq; exact hc
    | succ k => simp at hq
  · show j_zero h.2.2 h.1.length a i = _
    unfold j_zero
    rw [if_neg (by omega)]
    exact H.2.2.2.2.2.2.2 a i g1 g2
theorem s_hb {b : Nat} {tt : Nat → Nat} {L : Nat} {xs : Nat → Int32} {tys : List (ClassId × FieldType)} {h : j_H} {ws : va_W} (H : s_w b tt L xs tys h ws) (hlt : h.1.length < 900000) {x : Nat × va_E} : ws.length + [x].length + 2 ≤ 1000000 := by
  have := H.1
  rw [List.length_singleton]
  omega
theorem s_new_cnt {h : j_H} {c n : Nat} : (j_new h c n).1.length = h.1.length + 1 ∧ s_sl (j_new h c n) = s_sl h + n := by
  refine ⟨by simp [j_new], ?_⟩
  unfold s_sl j_new
  simp
theorem j_new_at {h : j_H} {c n : Nat} : (j_new h c n).1[h.1.length]? = some (c, n) := by
  show (h.1 ++ [(c, n)])[h.1.length]? = _
  simp
theorem j_new_z {h : j_H} {c n i : Nat} : (j_new h c n).2.2 h.1.length i = 0 := by
  show j_zero h.2.2 h.1.length h.1.length i = 0
  unfold j_zero
  rw [if_pos rfl]
theorem j_new_rf {b : Nat} {tt : Nat → Nat} {L : Nat} {xs : Nat → Int32} {tys : List (ClassId × FieldType)} {h : j_H} {ws : va_W} {c n i : Nat} (H : s_w b tt L xs tys h ws) : j_rf (j_new h c n) h.1.length i = none := congrFun (j_rf_last (H.1.trans H.2.1.symm)) i
section SN
variable {p : Program} {l : Launch} {e : Env} {R : Room} {s : State} {m : MethodId} {args : Array Value} {below : List Frame} {meth : Method} {c : Code} {Q : State → Prop} {D : va_G} {b : Nat} {tt : Nat → Nat} {L sb nL zc zs mc ms pc : Nat} {xs : Nat → Int32} {ρ0 : j_P} {q : j_M} {ls : j_L} {r : List j_V} {h : j_H}
theorem r_new (hC : s_C p s m args meth c R q b tt L sb xs nL) {ix c0 : Nat} {r0 : vw_C} (hr : vwCl[c0]? = some r0) (hcl : Cond.classLink (j_cnm q.2.2.2.2.1) ix r0.1 ∈ lwW) (hlt : h.1.length < 900000) (hcz : h.1.length + 1 ≤ zc) (hsz : s_sl h + r0.2.2 ≤ zs) (hRc : mc ≤ R.cells) (hRs : ms ≤ R.slots) (hdg : decode q.2.1 pc = .ok (.new ix, 3))
    (K : s_G D b tt L sb xs s ρ0 nL zc zs mc ms m (fun H locs cells slots g => W p l e R s m args below meth c H locs cells slots Q g) (pc + 3) ls (jR h.1.length :: r) (j_new h c0 r0.2.2)) : s_G D b tt L sb xs s ρ0 nL zc zs mc ms m (fun H locs cells slots g => W p l e R s m args below meth c H locs cells slots Q g) pc ls r h := by
  intro H locs cells slots ws tys lsR rl stR hS hx hl hv hst hc hs
  obtain ⟨z1, z2, z3, z4, z5, z6, z7, z8⟩ := s_cl hr
  have hRO := hC.2.2.2.2.2.2.2.2
  have hw := s_words hC
  have hlen : ((List.range r0.2.2).map (fun j => defaultValue (j_tf c0 j))).length = r0.2.2 := by simp
  refine va_new (ci := c0) (fs := (List.range r0.2.2).map (fun j => defaultValue (j_tf c0 j))) hC.1 hC.2.1 hw z1 (j_tf c0) z2 hC.2.2.2.1 (hw _ hcl) (hw _ z6) (hw _ z7) hS.2.2.1 hS.2.1 hS.2.2.2.1 hS.2.2.2.2 (fun q hq => Nat.le_trans hRO.2.2.2.2.2.2.2.2 hq) hr ?_ (by omega) (by omega) hdg (fun q1 H1 hP1 hD1 hS1 => ?_)
  · intro j hj
    unfold vp_V
    rw [List.getD_eq_getElem?_getD, List.getElem?_map, List.getElem?_range hj]
    rfl
  · have hlast : s_ρ b tt (ws ++ [(q1, .inr (c0, (List.range r0.2.2).map (fun j => defaultValue (j_tf c0 j))))]) (h.1.length) = some q1 := s_ρ_last hS.1.1
    obtain ⟨n1, n2⟩ := s_new_cnt (h := h) (c := c0) (n := r0.2.2)
    refine K H1 locs _ _ _ tys lsR rl (.ref q1 :: stR) ⟨s_w_new hS.1 (fun _ h => h) ?_ hlt ?_, hP1, hS.2.2.1, hD1, hS1⟩ (fun a q hq => s_ρ_app (s_hb hS.1 hlt) a q (hx a q hq)) (s_lo_mono (s_ρ_app (s_hb hS.1 hlt)) hl) hv ⟨⟨q1, rfl, hlast⟩, s_st_mono (s_ρ_app (s_hb hS.1 hlt)) hst⟩ (by rw [n1]; omega) (by rw [n2]; omega)
    · have h0 : j_clk c0 = true := List.all_eq_true.mp j_cl_ok c0 (List.mem_range.mpr (vwCl_lt hr))
      unfold j_clk at h0
      rw [hr] at h0
      simp only [Bool.and_eq_true] at h0
      have := of_decide_eq_true h0.2.2.2.2.2.2.2.2
      omega
    · refine ⟨r0, hr, j_new_at, hlen, fun j v hj => ?_⟩
      rw [List.getElem?_map] at hj
      have hjN : j < r0.2.2 := by
        rcases Nat.lt_or_ge j r0.2.2 with h1 | h1
        · exact h1
        · rw [List.getElem?_eq_none (by simpa using h1)] at hj
          cases hj
      rw [List.getElem?_range hjN] at hj
      cases hj
      change s_fld _ _ _ _ _ (defaultValue (j_tf c0 j))
      unfold s_fld
      rw [j_ty_tf, j_new_rf hS.1, j_new_z]
      rcases z4 j hjN with e1 | e1 | (e1 | e1) | ⟨n, e1⟩ | ⟨n, e1⟩ <;> rw [e1]
      · exact ⟨0, rfl, rfl⟩
      · exact ⟨0, rfl, rfl⟩
      · exact ⟨0, rfl, rfl⟩
      · exact ⟨0, rfl, rfl⟩
      · exact trivial
      · exact trivial
theorem r_newa_int (hC : s_C p s m args meth c R q b tt L sb xs nL) {n : Int} (hw0 : Cond.arrayClass .int ∈ lwW) (hn : 0 ≤ n ∧ n ≤ 100000) (hlt : h.1.length < 900000) (hcz : h.1.length + 1 ≤ zc) (hsz : s_sl h + n.toNat ≤ zs) (hRc : mc ≤ R.cells) (hRs : ms ≤ R.slots) (hdg : decode q.2.1 pc = .ok (.newarray .int, 2))
    (K : s_G D b tt L sb xs s ρ0 nL zc zs mc ms m (fun H locs cells slots g => W p l e R s m args below meth c H locs cells slots Q g) (pc + 2) ls (jR h.1.length :: r) (j_new h 32 n.toNat)) : s_G D b tt L sb xs s ρ0 nL zc zs mc ms m (fun H locs cells slots g => W p l e R s m args below meth c H locs cells slots Q g) pc ls (jI n :: r) h := by
  intro H locs cells slots ws tys lsR rl stR hS hx hl hv hst hc hs
  obtain ⟨w1, z, rfl, ⟨n1, rfl, e1⟩, hz⟩ := s_st1 hst
  have hRO := hC.2.2.2.2.2.2.2.2
  have hw := s_words hC
  have hk : n1.toNatClampNeg = n.toNat := by rw [← e1]; rfl
  have hb4 : n.toNat * componentBytes FieldType.int ≤ 536870912 := Nat.le_trans (Nat.mul_le_mul_right _ (show n.toNat ≤ 100000 by omega)) (by decide)
  refine va_newa (atype := .int) (N' := n.toNat) (a0 := (n.toNat, .inl (fun _ => 0))) hC.1 hC.2.1 (hw _ hw0) (ty := .int) rfl hS.2.2.1 hS.2.1 hS.2.2.2.1 hS.2.2.2.2 (fun q hq => Nat.le_trans hRO.2.2.2.2.2.2.2.2 hq) (fun _ => rfl) (fun h1 => ?_) hk hb4 (by omega) (by omega) hdg (fun q1 cA H1 hK1 hP1 hD1 hS1 => ?_)
  · have := Int32.lt_iff_toInt_lt.mp h1
    rw [e1] at this
    have h0 : (0 : Int32).toInt = 0 := rfl
    omega
  · obtain ⟨n1, n2⟩ := s_new_cnt (h := h) (c := 32) (n := n.toNat)
    have hcell : s_cell (tys ++ [(cA, FieldType.int)]) (s_ρ b tt (ws ++ [(q1, .inl (cA, n.toNat, .inl (fun _ => 0)))])) (j_new h 32 n.toNat) h.1.length (.inl (cA, n.toNat, .inl (fun _ => 0))) := ⟨32, j_new_at, Or.inl ⟨rfl, List.mem_append_right _ (List.mem_singleton.mpr rfl)⟩, fun i hi => j_new_z.symm⟩
    exact K H1 locs _ _ _ _ lsR rl (.ref q1 :: z) ⟨s_w_new hS.1 (fun _ h => List.mem_append_left _ h) (by omega) hlt hcell, hP1, hK1, hD1, hS1⟩ (fun a q hq => s_ρ_app (s_hb hS.1 hlt) a q (hx a q hq)) (s_lo_mono (s_ρ_app (s_hb hS.1 hlt)) hl) hv ⟨⟨q1, rfl, s_ρ_last hS.1.1⟩, s_st_mono (s_ρ_app (s_hb hS.1 hlt)) hz⟩ (by rw [n1]; omega) (by rw [n2]; omega)
theorem r_newa_long (hC : s_C p s m args meth c R q b tt L sb xs nL) {n : Int} (hw0 : Cond.arrayClass .long ∈ lwW) (hn : 0 ≤ n ∧ n ≤ 100000) (hlt : h.1.length < 900000) (hcz : h.1.length + 1 ≤ zc) (hsz : s_sl h + n.toNat ≤ zs) (hRc : mc ≤ R.cells) (hRs : ms ≤ R.slots) (hdg : decode q.2.1 pc = .ok (.newarray .long, 2))
    (K : s_G D b tt L sb xs s ρ0 nL zc zs mc ms m (fun H locs cells slots g => W p l e R s m args below meth c H locs cells slots Q g) (pc + 2) ls (jR h.1.length :: r) (j_new h 33 n.toNat)) : s_G D b tt L sb xs s ρ0 nL zc zs mc ms m (fun H locs cells slots g => W p l e R s m args below meth c H locs cells slots Q g) pc ls (jI n :: r) h := by
  intro H locs cells slots ws tys lsR rl stR hS hx hl hv hst hc hs
  obtain ⟨w1, z, rfl, ⟨n1, rfl, e1⟩, hz⟩ := s_st1 hst
  have hRO := hC.2.2.2.2.2.2.2.2
  have hw := s_words hC
  have hk : n1.toNatClampNeg = n.toNat := by rw [← e1]; rfl
  have hb4 : n.toNat * componentBytes FieldType.long ≤ 536870912 := Nat.le_trans (Nat.mul_le_mul_right _ (show n.toNat ≤ 100000 by omega)) (by decide)
  refine va_newa (atype := .long) (N' := n.toNat) (a0 := (n.toNat, .inr (.inl (fun _ => 0)))) hC.1 hC.2.1 (hw _ hw0) (ty := .long) rfl hS.2.2.1 hS.2.1 hS.2.2.2.1 hS.2.2.2.2 (fun q hq => Nat.le_trans hRO.2.2.2.2.2.2.2.2 hq) (fun _ => rfl) (fun h1 => ?_) hk hb4 (by omega) (by omega) hdg (fun q1 cA H1 hK1 hP1 hD1 hS1 => ?_)
  · have := Int32.lt_iff_toInt_lt.mp h1
    rw [e1] at this
    have h0 : (0 : Int32).toInt = 0 := rfl
    omega
  · obtain ⟨n1, n2⟩ := s_new_cnt (h := h) (c := 33) (n := n.toNat)
    have hcell : s_cell (tys ++ [(cA, FieldType.long)]) (s_ρ b tt (ws ++ [(q1, .inl (cA, n.toNat, .inr (.inl (fun _ => 0))))])) (j_new h 33 n.toNat) h.1.length (.inl (cA, n.toNat, .inr (.inl (fun _ => 0)))) := ⟨j_new_at, List.mem_append_right _ (List.mem_singleton.mpr rfl), fun i hi => j_new_z.symm⟩
    exact K H1 locs _ _ _ _ lsR rl (.ref q1 :: z) ⟨s_w_new hS.1 (fun _ h => List.mem_append_left _ h) (by omega) hlt hcell, hP1, hK1, hD1, hS1⟩ (fun a q hq => s_ρ_app (s_hb hS.1 hlt) a q (hx a q hq)) (s_lo_mono (s_ρ_app (s_hb hS.1 hlt)) hl) hv ⟨⟨q1, rfl, s_ρ_last hS.1.1⟩, s_st_mono (s_ρ_app (s_hb hS.1 hlt)) hz⟩ (by rw [n1]; omega) (by rw [n2]; omega)
theorem r_newa_byte (hC : s_C p s m args meth c R q b tt L sb xs nL) {n : Int} (hw0 : Cond.arrayClass .byte ∈ lwW) (hn : 0 ≤ n ∧ n ≤ 100000) (hlt : h.1.length < 900000) (hcz : h.1.length + 1 ≤ zc) (hsz : s_sl h + n.toNat ≤ zs) (hRc : mc ≤ R.cells) (hRs : ms ≤ R.slots) (hdg : decode q.2.1 pc = .ok (.newarray .byte, 2))
    (K : s_G D b tt L sb xs s ρ0 nL zc zs mc ms m (fun H locs cells slots g => W p l e R s m args below meth c H locs cells slots Q g) (pc + 2) ls (jR h.1.length :: r) (j_new h 34 n.toNat)) : s_G D b tt L sb xs s ρ0 nL zc zs mc ms m (fun H locs cells slots g => W p l e R s m args below meth c H locs cells slots Q g) pc ls (jI n :: r) h := by
  intro H locs cells slots ws tys lsR rl stR hS hx hl hv hst hc hs
  obtain ⟨w1, z, rfl, ⟨n1, rfl, e1⟩, hz⟩ := s_st1 hst
  have hRO := hC.2.2.2.2.2.2.2.2
  have hw := s_words hC
  have hk : n1.toNatClampNeg = n.toNat := by rw [← e1]; rfl
  have hb4 : n.toNat * componentBytes FieldType.byte ≤ 536870912 := Nat.le_trans (Nat.mul_le_mul_right _ (show n.toNat ≤ 100000 by omega)) (by decide)
  refine va_newa (atype := .byte) (N' := n.toNat) (a0 := (n.toNat, .inl (fun _ => 0))) hC.1 hC.2.1 (hw _ hw0) (ty := .byte) rfl hS.2.2.1 hS.2.1 hS.2.2.2.1 hS.2.2.2.2 (fun q hq => Nat.le_trans hRO.2.2.2.2.2.2.2.2 hq) (fun _ => rfl) (fun h1 => ?_) hk hb4 (by omega) (by omega) hdg (fun q1 cA H1 hK1 hP1 hD1 hS1 => ?_)
  · have := Int32.lt_iff_toInt_lt.mp h1
    rw [e1] at this
    have h0 : (0 : Int32).toInt = 0 := rfl
    omega
  · obtain ⟨n1, n2⟩ := s_new_cnt (h := h) (c := 34) (n := n.toNat)
    have hcell : s_cell (tys ++ [(cA, FieldType.byte)]) (s_ρ b tt (ws ++ [(q1, .inl (cA, n.toNat, .inl (fun _ => 0)))])) (j_new h 34 n.toNat) h.1.length (.inl (cA, n.toNat, .inl (fun _ => 0))) := ⟨34, j_new_at, Or.inr (Or.inl ⟨rfl, List.mem_append_right _ (List.mem_singleton.mpr rfl)⟩), fun i hi => j_new_z.symm⟩
    exact K H1 locs _ _ _ _ lsR rl (.ref q1 :: z) ⟨s_w_new hS.1 (fun _ h => List.mem_append_left _ h) (by omega) hlt hcell, hP1, hK1, hD1, hS1⟩ (fun a q hq => s_ρ_app (s_hb hS.1 hlt) a q (hx a q hq)) (s_lo_mono (s_ρ_app (s_hb hS.1 hlt)) hl) hv ⟨⟨q1, rfl, s_ρ_last hS.1.1⟩, s_st_mono (s_ρ_app (s_hb hS.1 hlt)) hz⟩ (by rw [n1]; omega) (by rw [n2]; omega)
theorem r_newa_boolean (hC : s_C p s m args meth c R q b tt L sb xs nL) {n : Int} (hw0 : Cond.arrayClass .boolean ∈ lwW) (hn : 0 ≤ n ∧ n ≤ 100000) (hlt : h.1.length < 900000) (hcz : h.1.length + 1 ≤ zc) (hsz : s_sl h + n.toNat ≤ zs) (hRc : mc ≤ R.cells) (hRs : ms ≤ R.slots) (hdg : decode q.2.1 pc = .ok (.newarray .boolean, 2))
    (K : s_G D b tt L sb xs s ρ0 nL zc zs mc ms m (fun H locs cells slots g => W p l e R s m args below meth c H locs cells slots Q g) (pc + 2) ls (jR h.1.length :: r) (j_new h 35 n.toNat)) : s_G D b tt L sb xs s ρ0 nL zc zs mc ms m (fun H locs cells slots g => W p l e R s m args below meth c H locs cells slots Q g) pc ls (jI n :: r) h := by
  intro H locs cells slots ws tys lsR rl stR hS hx hl hv hst hc hs
  obtain ⟨w1, z, rfl, ⟨n1, rfl, e1⟩, hz⟩ := s_st1 hst
  have hRO := hC.2.2.2.2.2.2.2.2
  have hw := s_words hC
  have hk : n1.toNatClampNeg = n.toNat := by rw [← e1]; rfl
  have hb4 : n.toNat * componentBytes FieldType.boolean ≤ 536870912 := Nat.le_trans (Nat.mul_le_mul_right _ (show n.toNat ≤ 100000 by omega)) (by decide)
  refine va_newa (atype := .boolean) (N' := n.toNat) (a0 := (n.toNat, .inl (fun _ => 0))) hC.1 hC.2.1 (hw _ hw0) (ty := .boolean) rfl hS.2.2.1 hS.2.1 hS.2.2.2.1 hS.2.2.2.2 (fun q hq => Nat.le_trans hRO.2.2.2.2.2.2.2.2 hq) (fun _ => rfl) (fun h1 => ?_) hk hb4 (by omega) (by omega) hdg (fun q1 cA H1 hK1 hP1 hD1 hS1 => ?_)
  · have := Int32.lt_iff_toInt_lt.mp h1
    rw [e1] at this
    have h0 : (0 : Int32).toInt = 0 := rfl
    omega
  · obtain ⟨n1, n2⟩ := s_new_cnt (h := h) (c := 35) (n := n.toNat)
    have hcell : s_cell (tys ++ [(cA, FieldType.boolean)]) (s_ρ b tt (ws ++ [(q1, .inl (cA, n.toNat, .inl (fun _ => 0)))])) (j_new h 35 n.toNat) h.1.length (.inl (cA, n.toNat, .inl (fun _ => 0))) := ⟨35, j_new_at, Or.inr (Or.inr ⟨rfl, List.mem_append_right _ (List.mem_singleton.mpr rfl)⟩), fun i hi => j_new_z.symm⟩
    exact K H1 locs _ _ _ _ lsR rl (.ref q1 :: z) ⟨s_w_new hS.1 (fun _ h => List.mem_append_left _ h) (by omega) hlt hcell, hP1, hK1, hD1, hS1⟩ (fun a q hq => s_ρ_app (s_hb hS.1 hlt) a q (hx a q hq)) (s_lo_mono (s_ρ_app (s_hb hS.1 hlt)) hl) hv ⟨⟨q1, rfl, s_ρ_last hS.1.1⟩, s_st_mono (s_ρ_app (s_hb hS.1 hlt)) hz⟩ (by rw [n1]; omega) (by rw [n2]; omega)
theorem r_cpy_int (hC : s_C p s m args meth c R q b tt L sb xs nL) {ix a0 b0 n0 n1 : Nat} {sp dp n : Int} (hw0 : Cond.methodLink (j_cnm q.2.2.2.2.1) ix arraycopyName ∈ lwW) (hnat : Cond.native arraycopyName ∈ lwW) (hstt : Cond.static arraycopyName ∈ lwW) (hini : Cond.initialized "java/lang/System" ∈ lwW) (ha2 : 2 ≤ a0) (hb2 : 2 ≤ b0) (hA : h.1[a0]? = some (32, n0)) (hB : h.1[b0]? = some (32, n1)) (hi : 0 ≤ n ∧ 0 ≤ sp ∧ 0 ≤ dp ∧ sp + n ≤ n0 ∧ dp + n ≤ n1) (hcat : (r.map j_cat).sum ≤ 8) (hdg : decode q.2.1 pc = .ok (.invokestatic ix, 3))
    (K : s_G D b tt L sb xs s ρ0 nL zc zs mc ms m (fun H locs cells slots g => W p l e R s m args below meth c H locs cells slots Q g) (pc + 3) ls r (h.1, h.2.1, j_cpy h.2.2 a0 sp.toNat b0 dp.toNat n.toNat)) : s_G D b tt L sb xs s ρ0 nL zc zs mc ms m (fun H locs cells slots g => W p l e R s m args below meth c H locs cells slots Q g) pc ls (jI n :: jI dp :: jR b0 :: jI sp :: jR a0 :: r) h := by
  intro H locs cells slots ws tys lsR rl stR hS hx hl hv hst hc hs
  obtain ⟨w1, w2, w3, w4, z, rfl, ⟨m1, rfl, e1⟩, ⟨m2, rfl, e2⟩, ⟨q1, rfl, hq1⟩, ⟨m3, rfl, e3⟩, hz⟩ := s_st4 hst
  obtain ⟨w5, z2, rfl, ⟨q0, rfl, hq0⟩, hz2⟩ := s_st1 hz
  have hw := s_words hC
  have k1 : m1.toNatClampNeg = n.toNat := by rw [← e1]; rfl
  have k2 : m2.toNatClampNeg = dp.toNat := by rw [← e2]; rfl
  have k3 : m3.toNatClampNeg = sp.toNat := by rw [← e3]; rfl
  have neg : ∀ (x : Int32) (y : Int), x.toInt = y → 0 ≤ y → ¬ x < 0 := fun x y hxy hy h1 => by
    have := Int32.lt_iff_toInt_lt.mp h1
    have h0 : (0 : Int32).toInt = 0 := rfl
    omega
  obtain ⟨ka, cA, f, rfl, hwa, hta, hfa⟩ := s_w_int hS.1 hA ha2 (Or.inl rfl) hq0
  obtain ⟨kb, cB, g, rfl, hwb, htb, hfb⟩ := s_w_int hS.1 hB hb2 (Or.inl rfl) hq1
  have hta : (cA, FieldType.int) ∈ tys := by rcases hta with h | h | h <;> first | exact h.2 | (exact absurd h.1 (by decide))
  have htb : (cB, FieldType.int) ∈ tys := by rcases htb with h | h | h <;> first | exact h.2 | (exact absurd h.1 (by decide))
  obtain ⟨t0, ht0⟩ := List.getElem?_of_mem hta
  obtain ⟨t1, ht1⟩ := List.getElem?_of_mem htb
  have hcell : s_cell tys (s_ρ b tt ws) (h.1, h.2.1, j_cpy h.2.2 (ka + 2) sp.toNat (kb + 2) dp.toNat n.toNat) (kb + 2) (.inl (cB, n1, .inl (va_cpy f g m3.toNatClampNeg m2.toNatClampNeg m1.toNatClampNeg))) := by
    refine ⟨32, hB, Or.inl ⟨rfl, htb⟩, fun j hj => ?_⟩
    show (va_cpy f g m3.toNatClampNeg m2.toNatClampNeg m1.toNatClampNeg j).toInt = j_cpy h.2.2 (ka + 2) sp.toNat (kb + 2) dp.toNat n.toNat (kb + 2) j
    unfold va_cpy j_cpy
    rw [if_pos rfl, k1, k2, k3]
    split
    · exact hfa _ (by omega)
    · exact hfb _ hj
  refine va_copyi hC.1 hC.2.1 (hC.2.2.1.trans hv.1.symm) hC.2.2.2.1 (hw _ hw0) (hw _ hnat) (hw _ hstt) (hw _ hini) hS.2.2.1 hS.2.1 hS.2.2.2.1 hS.2.2.2.2 ka kb t0 t1 hwa hwb ht0 ht1 rfl (neg _ _ e3 hi.2.1) (neg _ _ e2 hi.2.2.1) (neg _ _ e1 hi.1) (by omega) (by omega) (fun _ _ => rfl) hC.2.2.2.2.2.2.2.1 ?_ hdg (fun H1 locs1 hP1 hD1 hS1 => ?_)
  · have h8 := s_st_cat hz2
    have h40 := hC.2.2.2.2.2.2.1
    have hnf : nativeFrameWords "java/lang/System" "arraycopy" 5 = 7 := by decide +kernel
    omega
  · refine K H1 locs1 cells slots _ tys lsR rl z2 ⟨s_w_upd hS.1 hwb rfl rfl (fun j hj => ⟨fun i2 => ?_, fun _ => rfl⟩) hcell, hP1, hS.2.2.1, hD1, hS1⟩ (by rw [s_ρ_set hwb]; exact hx) (by rw [s_ρ_set hwb]; exact hl) hv (by rw [s_ρ_set hwb]; exact hz2) hc hs
    show j_cpy h.2.2 (ka + 2) sp.toNat (kb + 2) dp.toNat n.toNat j i2 = h.2.2 j i2
    unfold j_cpy
    rw [if_neg hj]
theorem r_cpy_long (hC : s_C p s m args meth c R q b tt L sb xs nL) {ix a0 b0 n0 n1 : Nat} {sp dp n : Int} (hw0 : Cond.methodLink (j_cnm q.2.2.2.2.1) ix arraycopyName ∈ lwW) (hnat : Cond.native arraycopyName ∈ lwW) (hstt : Cond.static arraycopyName ∈ lwW) (hini : Cond.initialized "java/lang/System" ∈ lwW) (ha2 : 2 ≤ a0) (hb2 : 2 ≤ b0) (hA : h.1[a0]? = some (33, n0)) (hB : h.1[b0]? = some (33, n1)) (hi : 0 ≤ n ∧ 0 ≤ sp ∧ 0 ≤ dp ∧ sp + n ≤ n0 ∧ dp + n ≤ n1) (hcat : (r.map j_cat).sum ≤ 8) (hdg : decode q.2.1 pc = .ok (.invokestatic ix, 3))
    (K : s_G D b tt L sb xs s ρ0 nL zc zs mc ms m (fun H locs cells slots g => W p l e R s m args below meth c H locs cells slots Q g) (pc + 3) ls r (h.1, h.2.1, j_cpy h.2.2 a0 sp.toNat b0 dp.toNat n.toNat)) : s_G D b tt L sb xs s ρ0 nL zc zs mc ms m (fun H locs cells slots g => W p l e R s m args below meth c H locs cells slots Q g) pc ls (jI n :: jI dp :: jR b0 :: jI sp :: jR a0 :: r) h := by
  intro H locs cells slots ws tys lsR rl stR hS hx hl hv hst hc hs
  obtain ⟨w1, w2, w3, w4, z, rfl, ⟨m1, rfl, e1⟩, ⟨m2, rfl, e2⟩, ⟨q1, rfl, hq1⟩, ⟨m3, rfl, e3⟩, hz⟩ := s_st4 hst
  obtain ⟨w5, z2, rfl, ⟨q0, rfl, hq0⟩, hz2⟩ := s_st1 hz
  have hw := s_words hC
  have k1 : m1.toNatClampNeg = n.toNat := by rw [← e1]; rfl
  have k2 : m2.toNatClampNeg = dp.toNat := by rw [← e2]; rfl
  have k3 : m3.toNatClampNeg = sp.toNat := by rw [← e3]; rfl
  have neg : ∀ (x : Int32) (y : Int), x.toInt = y → 0 ≤ y → ¬ x < 0 := fun x y hxy hy h1 => by
    have := Int32.lt_iff_toInt_lt.mp h1
    have h0 : (0 : Int32).toInt = 0 := rfl
    omega
  obtain ⟨ka, cA, f, rfl, hwa, hta, hfa⟩ := s_w_long hS.1 hA hq0
  obtain ⟨kb, cB, g, rfl, hwb, htb, hfb⟩ := s_w_long hS.1 hB hq1
  obtain ⟨t0, ht0⟩ := List.getElem?_of_mem hta
  obtain ⟨t1, ht1⟩ := List.getElem?_of_mem htb
  have hcell : s_cell tys (s_ρ b tt ws) (h.1, h.2.1, j_cpy h.2.2 (ka + 2) sp.toNat (kb + 2) dp.toNat n.toNat) (kb + 2) (.inl (cB, n1, .inr (.inl (va_cpy f g m3.toNatClampNeg m2.toNatClampNeg m1.toNatClampNeg)))) := by
    refine ⟨hB, htb, fun j hj => ?_⟩
    show (va_cpy f g m3.toNatClampNeg m2.toNatClampNeg m1.toNatClampNeg j).toInt = j_cpy h.2.2 (ka + 2) sp.toNat (kb + 2) dp.toNat n.toNat (kb + 2) j
    unfold va_cpy j_cpy
    rw [if_pos rfl, k1, k2, k3]
    split
    · exact hfa _ (by omega)
    · exact hfb _ hj
  refine va_copyl hC.1 hC.2.1 (hC.2.2.1.trans hv.1.symm) hC.2.2.2.1 (hw _ hw0) (hw _ hnat) (hw _ hstt) (hw _ hini) hS.2.2.1 hS.2.1 hS.2.2.2.1 hS.2.2.2.2 ka kb t0 t1 hwa hwb ht0 ht1 rfl (neg _ _ e3 hi.2.1) (neg _ _ e2 hi.2.2.1) (neg _ _ e1 hi.1) (by omega) (by omega) (fun _ _ => rfl) hC.2.2.2.2.2.2.2.1 ?_ hdg (fun H1 locs1 hP1 hD1 hS1 => ?_)
  · have h8 := s_st_cat hz2
    have h40 := hC.2.2.2.2.2.2.1
    have hnf : nativeFrameWords "java/lang/System" "arraycopy" 5 = 7 := by decide +kernel
    omega
  · refine K H1 locs1 cells slots _ tys lsR rl z2 ⟨s_w_upd hS.1 hwb rfl rfl (fun j hj => ⟨fun i2 => ?_, fun _ => rfl⟩) hcell, hP1, hS.2.2.1, hD1, hS1⟩ (by rw [s_ρ_set hwb]; exact hx) (by rw [s_ρ_set hwb]; exact hl) hv (by rw [s_ρ_set hwb]; exact hz2) hc hs
    show j_cpy h.2.2 (ka + 2) sp.toNat (kb + 2) dp.toNat n.toNat j i2 = h.2.2 j i2
    unfold j_cpy
    rw [if_neg hj]
theorem s_fitb {v : Int32} (h : -128 ≤ v.toInt ∧ v.toInt ≤ 127) : fits .byte (.int v) = true := by
  show (decide ((-128 : Int32) ≤ v) && decide (v ≤ (127 : Int32))) = true
  rw [Bool.and_eq_true, decide_eq_true_iff, decide_eq_true_iff, Int32.le_iff_toInt_le, Int32.le_iff_toInt_le]
  exact h
theorem r_cpy_byte (hC : s_C p s m args meth c R q b tt L sb xs nL) {ix a0 b0 n0 n1 : Nat} {sp dp n : Int} (hw0 : Cond.methodLink (j_cnm q.2.2.2.2.1) ix arraycopyName ∈ lwW) (hnat : Cond.native arraycopyName ∈ lwW) (hstt : Cond.static arraycopyName ∈ lwW) (hini : Cond.initialized "java/lang/System" ∈ lwW) (ha2 : 2 ≤ a0) (hb2 : 2 ≤ b0) (hA0 : j_kd h a0 = some (34, n0)) (hB : h.1[b0]? = some (34, n1)) (hbt : j_byt h.2.2 a0 sp.toNat n.toNat = true) (hi : 0 ≤ n ∧ 0 ≤ sp ∧ 0 ≤ dp ∧ sp + n ≤ n0 ∧ dp + n ≤ n1) (hcat : (r.map j_cat).sum ≤ 8) (hdg : decode q.2.1 pc = .ok (.invokestatic ix, 3))
    (K : s_G D b tt L sb xs s ρ0 nL zc zs mc ms m (fun H locs cells slots g => W p l e R s m args below meth c H locs cells slots Q g) (pc + 3) ls r (h.1, h.2.1, j_cpy h.2.2 a0 sp.toNat b0 dp.toNat n.toNat)) : s_G D b tt L sb xs s ρ0 nL zc zs mc ms m (fun H locs cells slots g => W p l e R s m args below meth c H locs cells slots Q g) pc ls (jI n :: jI dp :: jR b0 :: jI sp :: jR a0 :: r) h := by
  intro H locs cells slots ws tys lsR rl stR hS hx hl hv hst hc hs
  obtain ⟨w1, w2, w3, w4, z, rfl, ⟨m1, rfl, e1⟩, ⟨m2, rfl, e2⟩, ⟨q1, rfl, hq1⟩, ⟨m3, rfl, e3⟩, hz⟩ := s_st4 hst
  obtain ⟨w5, z2, rfl, ⟨q0, rfl, hq0⟩, hz2⟩ := s_st1 hz
  have hw := s_words hC
  have k1 : m1.toNatClampNeg = n.toNat := by rw [← e1]; rfl
  have k2 : m2.toNatClampNeg = dp.toNat := by rw [← e2]; rfl
  have k3 : m3.toNatClampNeg = sp.toNat := by rw [← e3]; rfl
  have neg : ∀ (x : Int32) (y : Int), x.toInt = y → 0 ≤ y → ¬ x < 0 := fun x y hxy hy h1 => by
    have := Int32.lt_iff_toInt_lt.mp h1
    have h0 : (0 : Int32).toInt = 0 := rfl
    omega
  have hRO := hC.2.2.2.2.2.2.2.2
  have hby : ∀ i, i < n.toNat → -128 ≤ h.2.2 a0 (sp.toNat + i) ∧ h.2.2 a0 (sp.toNat + i) ≤ 127 := fun i hi3 => by
    unfold j_byt at hbt
    exact of_decide_eq_true (List.all_eq_true.mp hbt i (List.mem_range.mpr hi3))
  rcases s_kd hA0 with hA | ⟨hA, hkc⟩
  · obtain ⟨ka, cA, f, rfl, hwa, hta, hfa⟩ := s_w_int hS.1 hA ha2 (Or.inr (Or.inl rfl)) hq0
    obtain ⟨kb, cB, g, rfl, hwb, htb, hfb⟩ := s_w_int hS.1 hB hb2 (Or.inr (Or.inl rfl)) hq1
    have hta : (cA, FieldType.byte) ∈ tys := by rcases hta with h | h | h <;> first | exact h.2 | (exact absurd h.1 (by decide))
    have htb : (cB, FieldType.byte) ∈ tys := by rcases htb with h | h | h <;> first | exact h.2 | (exact absurd h.1 (by decide))
    obtain ⟨t0, ht0⟩ := List.getElem?_of_mem hta
    obtain ⟨t1, ht1⟩ := List.getElem?_of_mem htb
    have hcell : s_cell tys (s_ρ b tt ws) (h.1, h.2.1, j_cpy h.2.2 (ka + 2) sp.toNat (kb + 2) dp.toNat n.toNat) (kb + 2) (.inl (cB, n1, .inl (va_cpy f g m3.toNatClampNeg m2.toNatClampNeg m1.toNatClampNeg))) := by
      refine ⟨34, hB, Or.inr (Or.inl ⟨rfl, htb⟩), fun j hj => ?_⟩
      show (va_cpy f g m3.toNatClampNeg m2.toNatClampNeg m1.toNatClampNeg j).toInt = j_cpy h.2.2 (ka + 2) sp.toNat (kb + 2) dp.toNat n.toNat (kb + 2) j
      unfold va_cpy j_cpy
      rw [if_pos rfl, k1, k2, k3]
      split
      · exact hfa _ (by omega)
      · exact hfb _ hj
    refine va_copyi hC.1 hC.2.1 (hC.2.2.1.trans hv.1.symm) hC.2.2.2.1 (hw _ hw0) (hw _ hnat) (hw _ hstt) (hw _ hini) hS.2.2.1 hS.2.1 hS.2.2.2.1 hS.2.2.2.2 ka kb t0 t1 hwa hwb ht0 ht1 rfl (neg _ _ e3 hi.2.1) (neg _ _ e2 hi.2.2.1) (neg _ _ e1 hi.1) (by omega) (by omega) (fun i hi3 => s_fitb (by rw [hfa _ (by omega), k3]; exact (hby i (by omega)))) hC.2.2.2.2.2.2.2.1 ?_ hdg (fun H1 locs1 hP1 hD1 hS1 => ?_)
    · have h8 := s_st_cat hz2
      have h40 := hC.2.2.2.2.2.2.1
      have hnf : nativeFrameWords "java/lang/System" "arraycopy" 5 = 7 := by decide +kernel
      omega
    · refine K H1 locs1 cells slots _ tys lsR rl z2 ⟨s_w_upd hS.1 hwb rfl rfl (fun j hj => ⟨fun i2 => ?_, fun _ => rfl⟩) hcell, hP1, hS.2.2.1, hD1, hS1⟩ (by rw [s_ρ_set hwb]; exact hx) (by rw [s_ρ_set hwb]; exact hl) hv (by rw [s_ρ_set hwb]; exact hz2) hc hs
      show j_cpy h.2.2 (ka + 2) sp.toNat (kb + 2) dp.toNat n.toNat j i2 = h.2.2 j i2
      unfold j_cpy
      rw [if_neg hj]
  · obtain ⟨hak, rfl, hm⟩ := s_w_k hS.1 hA hq0
    have hN0 : n0 ≤ 100 := by
      obtain ⟨i0, hi0, rfl⟩ := s_kc_in hkc
      rcases s_kc_all i0 hi0 _ _ hkc with h1 | h1 <;> omega
    have hfa : ∀ i, i < n0 → (Int32.ofInt (s_kb a0 i)).toInt = h.2.2 a0 i := fun i hi3 => by rw [hm]; exact s_kb_i _ _ (by omega)
    obtain ⟨kb, cB, g, rfl, hwb, htb, hfb⟩ := s_w_int hS.1 hB hb2 (Or.inr (Or.inl rfl)) hq1
    have htb : (cB, FieldType.byte) ∈ tys := by rcases htb with h | h | h <;> first | exact h.2 | (exact absurd h.1 (by decide))
    obtain ⟨t1, ht1⟩ := List.getElem?_of_mem htb
    have hcell : s_cell tys (s_ρ b tt ws) (h.1, h.2.1, j_cpy h.2.2 a0 sp.toNat (kb + 2) dp.toNat n.toNat) (kb + 2) (.inl (cB, n1, .inl (va_cpy (fun j => Int32.ofInt (s_kb a0 j)) g m3.toNatClampNeg m2.toNatClampNeg m1.toNatClampNeg))) := by
      refine ⟨34, hB, Or.inr (Or.inl ⟨rfl, htb⟩), fun j hj => ?_⟩
      show (va_cpy (fun j => Int32.ofInt (s_kb a0 j)) g m3.toNatClampNeg m2.toNatClampNeg m1.toNatClampNeg j).toInt = j_cpy h.2.2 a0 sp.toNat (kb + 2) dp.toNat n.toNat (kb + 2) j
      unfold va_cpy j_cpy
      rw [if_pos rfl, k1, k2, k3]
      split
      · exact hfa _ (by omega)
      · exact hfb _ hj
    refine vk_copyt hC.1 hC.2.1 (hC.2.2.1.trans hv.1.symm) hC.2.2.2.1 (hw _ hw0) (hw _ hnat) (hw _ hstt) (hw _ hini) hS.2.2.1 hS.2.1 hS.2.2.2.1 hS.2.2.2.2 (hRO.2.2.2.2.2.2.2.1.2.2.2.2.1 _ _ hkc) kb t1 hwb ht1 (neg _ _ e3 hi.2.1) (neg _ _ e2 hi.2.2.1) (neg _ _ e1 hi.1) (by omega) (by omega) (fun i hi3 => s_fitb (by rw [hfa _ (by omega), k3]; exact (hby i (by omega)))) hC.2.2.2.2.2.2.2.1 ?_ hdg (fun H1 locs1 hP1 hD1 hS1 => ?_)
    · have h8 := s_st_cat hz2
      have h40 := hC.2.2.2.2.2.2.1
      have hnf : nativeFrameWords "java/lang/System" "arraycopy" 5 = 7 := by decide +kernel
      omega
    · refine K H1 locs1 cells slots _ tys lsR rl z2 ⟨s_w_upd hS.1 hwb rfl rfl (fun j hj => ⟨fun i2 => ?_, fun _ => rfl⟩) hcell, hP1, hS.2.2.1, hD1, hS1⟩ (by rw [s_ρ_set hwb]; exact hx) (by rw [s_ρ_set hwb]; exact hl) hv (by rw [s_ρ_set hwb]; exact hz2) hc hs
      show j_cpy h.2.2 a0 sp.toNat (kb + 2) dp.toNat n.toNat j i2 = h.2.2 j i2
      unfold j_cpy
      rw [if_neg hj]
theorem r_castB (hC : s_C p s m args meth c R q b tt L sb xs nL) {a N ix : Nat} (hA : h.1[a]? = some (34, N)) (hlk : Cond.classLink (j_cnm q.2.2.2.2.1) ix "[B" ∈ lwW) (hdg : decode q.2.1 pc = .ok (.checkcast ix, 3))
    (K : s_G D b tt L sb xs s ρ0 nL zc zs mc ms m (fun H locs cells slots g => W p l e R s m args below meth c H locs cells slots Q g) (pc + 3) ls (jR a :: r) h) : s_G D b tt L sb xs s ρ0 nL zc zs mc ms m (fun H locs cells slots g => W p l e R s m args below meth c H locs cells slots Q g) pc ls (jR a :: r) h := by
  intro H locs cells slots ws tys lsR rl stR hS hx hl hv hst hc hs
  have hst0 := hst
  obtain ⟨w1, z, rfl, ⟨q1, rfl, hq⟩, hz⟩ := s_st1 hst
  obtain ⟨k, cA, f, rfl, hw, ht, hf⟩ := s_w_int hS.1 hA (s_w_two hS.1 hA (by omega)) (Or.inr (Or.inl rfl)) hq
  have ht : (cA, FieldType.byte) ∈ tys := by rcases ht with h | h | h <;> first | exact h.2 | (exact absurd h.1 (by decide))
  obtain ⟨t0, ht0⟩ := List.getElem?_of_mem ht
  exact va_castA hC.1 hC.2.1 hC.2.2.2.1 (s_words hC _ hlk) hS.2.1 k hw (hS.2.2.1.2 t0 _ ht0).2 hdg (K _ _ _ _ _ _ _ _ _ hS hx hl hv hst0 hc hs)
theorem r_clone (hC : s_C p s m args meth c R q b tt L sb xs nL) {a N ix : Nat} (hA : h.1[a]? = some (34, N)) (hbt : j_byt h.2.2 a 0 N = true) (hlt : h.1.length < 900000) (hcat : (r.map j_cat).sum ≤ 8) (m1 : Cond.methodLink (j_cnm q.2.2.2.2.1) ix ⟨"[B", "clone", "()Ljava/lang/Object;"⟩ ∈ lwW) (m2 : Cond.sameMethod "[B" "java/lang/Object" "clone" "()Ljava/lang/Object;" ∈ lwW) (m3 : Cond.native ⟨"java/lang/Object", "clone", "()Ljava/lang/Object;"⟩ ∈ lwW) (m4 : Cond.instanceMethod ⟨"java/lang/Object", "clone", "()Ljava/lang/Object;"⟩ ∈ lwW) (m5 : Cond.selects "[B" ⟨"[B", "clone", "()Ljava/lang/Object;"⟩ ⟨"java/lang/Object", "clone", "()Ljava/lang/Object;"⟩ ∈ lwW) (hcz : h.1.length + 1 ≤ zc) (hsz : s_sl h + N ≤ zs) (hRc : mc ≤ R.cells) (hRs : ms ≤ R.slots) (hdg : decode q.2.1 pc = .ok (.invokevirtual ix, 3))
    (K : s_G D b tt L sb xs s ρ0 nL zc zs mc ms m (fun H locs cells slots g => W p l e R s m args below meth c H locs cells slots Q g) (pc + 3) ls (jR h.1.length :: r) (j_cln h a N)) : s_G D b tt L sb xs s ρ0 nL zc zs mc ms m (fun H locs cells slots g => W p l e R s m args below meth c H locs cells slots Q g) pc ls (jR a :: r) h := by
  intro H locs cells slots ws tys lsR rl stR hS hx hl hv hst hc hs
  obtain ⟨w1, z, rfl, ⟨q1, rfl, hq⟩, hz⟩ := s_st1 hst
  have hRO := hC.2.2.2.2.2.2.2.2
  have hw := s_words hC
  obtain ⟨k, cA, f, rfl, hwk, ht, hf⟩ := s_w_int hS.1 hA (s_w_two hS.1 hA (by omega)) (Or.inr (Or.inl rfl)) hq
  have ht : (cA, FieldType.byte) ∈ tys := by rcases ht with h | h | h <;> first | exact h.2 | (exact absurd h.1 (by decide))
  obtain ⟨t0, ht0⟩ := List.getElem?_of_mem ht
  have hlk : k + 2 < h.1.length := (List.getElem?_eq_some_iff.mp hA).1
  have hN := s_big hS.1 hA
  have hby : ∀ i, i < N → -128 ≤ h.2.2 (k + 2) i ∧ h.2.2 (k + 2) i ≤ 127 := fun i hi3 => by
    unfold j_byt at hbt
    have h1 := of_decide_eq_true (List.all_eq_true.mp hbt i (List.mem_range.mpr hi3))
    rw [Nat.zero_add] at h1
    exact h1
  refine va_clone hC.1 hC.2.1 (hC.2.2.1.trans hv.1.symm) hC.2.2.2.1 (hw _ m1) (hw _ m2) (hw _ m3) (hw _ m4) (hw _ m5) hRO.2.2.2.2.2.2.2.1.2.2.2.2.2.2.2.1 hS.2.2.1 hS.2.1 hS.2.2.2.1 hS.2.2.2.2 (fun q hq => Nat.le_trans hRO.2.2.2.2.2.2.2.2 hq) k t0 hwk ht0 (hS.2.2.1.2 t0 _ ht0).2 (fun i v hiv => ?_) hC.2.2.2.2.2.2.2.1 ?_ (by omega) (by show slots + N ≤ _; omega) hdg (fun q2 H1 hK1 hP1 hD1 hS1 => ?_)
  · have hiv : (arrV cA N (fun j => .int (f j))).slots[i]? = some v := hiv
    have hi : i < N := by
      have h1 := (Array.getElem?_eq_some_iff.mp hiv).1
      rw [arrV_size] at h1
      exact h1
    rw [arrV_read _ _ hi] at hiv
    cases hiv
    exact s_fitb (by rw [hf i hi]; exact hby i hi)
  · have h8 := s_st_cat hz
    have h40 := hC.2.2.2.2.2.2.1
    omega
  · have hm2 : ∀ i, i < N → (j_cln h (k + 2) N).2.2 h.1.length i = h.2.2 (k + 2) i := fun i hi => by
      show (if h.1.length = h.1.length then (if 0 ≤ i ∧ i < 0 + N then j_zero h.2.2 h.1.length (k + 2) (0 + (i - 0)) else _) else _) = _
      rw [if_pos rfl, if_pos (by omega), Nat.zero_add, Nat.sub_zero]
      unfold j_zero
      rw [if_neg (by omega)]
    have hmo : ∀ j, j ≠ h.1.length → ∀ i, (j_cln h (k + 2) N).2.2 j i = h.2.2 j i := fun j hj i => by
      show (if j = h.1.length then _ else j_zero h.2.2 h.1.length j i) = _
      rw [if_neg hj]
      unfold j_zero
      rw [if_neg hj]
    have hcell : s_cell (tys ++ [(cA, FieldType.byte)]) (s_ρ b tt (ws ++ [(q2, .inl (cA, N, .inl f))])) (j_cln h (k + 2) N) h.1.length (.inl (cA, N, .inl f)) := by
      refine ⟨34, ?_, Or.inr (Or.inl ⟨rfl, List.mem_append_left _ ht⟩), fun i hi => by rw [hm2 i hi]; exact hf i hi⟩
      show (h.1 ++ [(34, N)])[h.1.length]? = _
      simp
    have hW : s_w b tt L xs (tys ++ [(cA, FieldType.byte)]) (j_cln h (k + 2) N) (ws ++ [(q2, .inl (cA, N, .inl f))]) := by
      refine s_w_app hS.1 (fun _ h => List.mem_append_left _ h) ⟨_, rfl, rfl, fun q hq => by cases List.mem_singleton.mp hq; exact hN⟩ ⟨_, rfl, rfl⟩ (fun j hj i => hmo j (by omega) i) (fun k2 q hq => ?_) (by show (h.1 ++ [(34, N)]).length ≤ _; rw [List.length_append, List.length_singleton]; omega) (fun a i g1 g2 => (hmo a (by omega) i).trans (hS.1.2.2.2.2.2.2.2 a i g1 g2))
      cases k2 with
      | zero => cases hq; exact hcell
      | succ k2 => simp at hq
    have c1 : (j_cln h (k + 2) N).1.length = h.1.length + 1 := by
      show (h.1 ++ [(34, N)]).length = _
      simp
    have c2 : s_sl (j_cln h (k + 2) N) = s_sl h + N := by
      unfold s_sl j_cln
      simp
    exact K H1 locs _ _ _ _ lsR rl (.ref q2 :: z) ⟨hW, hP1, hK1, hD1, hS1⟩ (fun a q hq => s_ρ_app (s_hb hS.1 hlt) a q (hx a q hq)) (s_lo_mono (s_ρ_app (s_hb hS.1 hlt)) hl) hv ⟨⟨q2, rfl, s_ρ_last hS.1.1⟩, s_st_mono (s_ρ_app (s_hb hS.1 hlt)) hz⟩ (by rw [c1]; omega) (by rw [c2]; show slots + N + zs = _; omega)
end SN
end
section
/-! new T[k][n]; calls; returns. -/
theorem j_mul_1 {g : j_H} {n : Nat} : ∀ k, (j_mul g n k).1 = g.1 ++ List.replicate k (33, n)
  | 0 => by simp [j_mul]
  | k + 1 => by
    show (j_mul g n k).1 ++ [(33, n)] = _
    rw [j_mul_1 k, List.append_assoc, ← List.replicate_succ']
theorem j_mul_2 {g : j_H} {n : Nat} : ∀ k, (j_mul g n k).2.1 = g.2.1 ++ List.replicate k []
  | 0 => by simp [j_mul]
  | k + 1 => by
    show (j_mul g n k).2.1 ++ [[]] = _
    rw [j_mul_2 k, List.append_assoc, ← List.replicate_succ']
theorem j_mul_3 {g : j_H} {n i : Nat} : ∀ k j, (j < g.1.length → (j_mul g n k).2.2 j i = g.2.2 j i) ∧ (g.1.length ≤ j → j < g.1.length + k → (j_mul g n k).2.2 j i = 0)
  | 0, j => ⟨fun _ => rfl, fun h1 h2 => by omega⟩
  | k + 1, j => by
    have e : (j_mul g n (k + 1)).2.2 j i = j_zero (j_mul g n k).2.2 (g.1.length + k) j i := by
      show j_zero (j_mul g n k).2.2 (j_mul g n k).1.length j i = _
      rw [j_mul_1]
      simp
    rw [e]
    unfold j_zero
    constructor
    · intro h1
      rw [if_neg (by omega)]
      exact (j_mul_3 k j).1 h1
    · intro h1 h2
      split
      · rfl
      · exact (j_mul_3 k j).2 h1 (by omega)
theorem j_mul_4 {g : j_H} {n i : Nat} : ∀ k j, g.1.length + k ≤ j → (j_mul g n k).2.2 j i = g.2.2 j i
  | 0, j, _ => rfl
  | k + 1, j, h => by
    have e : (j_mul g n (k + 1)).2.2 j i = j_zero (j_mul g n k).2.2 (g.1.length + k) j i := by
      show j_zero (j_mul g n k).2.2 (j_mul g n k).1.length j i = _
      rw [j_mul_1]
      simp
    rw [e]
    unfold j_zero
    rw [if_neg (by omega)]
    exact j_mul_4 k j (by omega)
section SC
variable {p : Program} {l : Launch} {e : Env} {R : Room} {s : State} {m : MethodId} {args : Array Value} {below : List Frame} {meth : Method} {c : Code} {Q : State → Prop} {D : va_G} {b : Nat} {tt : Nat → Nat} {L sb nL zc zs mc ms pc : Nat} {xs : Nat → Int32} {ρ0 : j_P} {q : j_M} {ls : j_L} {r : List j_V} {h : j_H}
theorem r_mna (hC : s_C p s m args meth c R q b tt L sb xs nL) {n k : Int} (h6 : q.2.2.2.2.1 = 8) (hw0 : Cond.classLink RX6 18 ("[" ++ (FieldType.array FieldType.long).toString) ∈ lwW) (hw1 : Cond.arrayClass .long ∈ lwW) (hn : 0 ≤ n ∧ n ≤ 1000 ∧ 0 ≤ k ∧ k ≤ 1000) (hlt : h.1.length < 900000) (hany : h.1.any (fun q => q.1 == 33) = true) (hcz : h.1.length + (1 + k.toNat) ≤ zc) (hsz : s_sl h + (k.toNat + k.toNat * n.toNat) ≤ zs) (hRc : mc ≤ R.cells) (hRs : ms ≤ R.slots) (hdg : decode q.2.1 pc = .ok (.multianewarray 18 2, 4))
    (K : s_G D b tt L sb xs s ρ0 nL zc zs mc ms m (fun H locs cells slots g => W p l e R s m args below meth c H locs cells slots Q g) (pc + 4) ls (jR h.1.length :: r) (j_mna h k.toNat n.toNat)) : s_G D b tt L sb xs s ρ0 nL zc zs mc ms m (fun H locs cells slots g => W p l e R s m args below meth c H locs cells slots Q g) pc ls (jI n :: jI k :: r) h := by
  intro H locs cells slots ws tys lsR rl stR hS hx hl hv hst hc hs
  obtain ⟨w1, w2, z, rfl, ⟨n1, rfl, e1⟩, ⟨n2, rfl, e2⟩, hz⟩ := s_st2 hst
  have hRO := hC.2.2.2.2.2.2.2.2
  have hw := s_words hC
  obtain ⟨cy, hcy0, hcy⟩ : ∃ cy, (cy, FieldType.long) ∈ tys ∧ s.vm.findClass (FieldType.array FieldType.long).toString = some cy := by
    obtain ⟨x, hx1, hx2⟩ := List.any_eq_true.mp hany
    obtain ⟨A, hA⟩ := List.getElem?_of_mem hx1
    have hx3 : x.1 = 33 := by simpa using hx2
    have hA2 : h.1[A]? = some (33, x.2) := by rw [hA, ← hx3]
    have h2 := s_w_two hS.1 hA2 (by omega)
    have hlt := (List.getElem?_eq_some_iff.mp hA2).1
    have hl1 := hS.1.1
    obtain ⟨q1, hq1⟩ : ∃ q1, s_ρ b tt ws A = some q1 := ⟨_, (s_ρ_in (by omega)).trans (List.getElem?_eq_getElem (by simp; omega))⟩
    obtain ⟨k3, cA, f, -, -, ht, -⟩ := s_w_long hS.1 hA2 hq1
    obtain ⟨t0, ht0⟩ := List.getElem?_of_mem ht
    exact ⟨cA, ht, (hS.2.2.1.2 t0 _ ht0).2⟩
  have k1 : n1.toNatClampNeg = n.toNat := by rw [← e1]; rfl
  have k2 : n2.toNatClampNeg = k.toNat := by rw [← e2]; rfl
  have neg : ∀ (x : Int32) (y : Int), x.toInt = y → 0 ≤ y → ¬ x < 0 := fun x y hxy hy h1 => by
    have := Int32.lt_iff_toInt_lt.mp h1
    have h0 : (0 : Int32).toInt = 0 := rfl
    omega
  have hown : s.vm.findClass RX6 = some m.cls := by have := hC.2.2.2.1; rw [h6] at this; exact this
  have hP0 : va_P D vwCl (ws ++ va_pl [] (fun _ => .inr (0, []))) H := by rw [show va_pl [] (fun _ => (.inr (0, []) : va_E)) = [] from rfl, List.append_nil]; exact hS.2.1
  have hD0 : va_D (s_A sb) (ws ++ va_pl [] (fun _ => .inr (0, []))) := by rw [show va_pl [] (fun _ => (.inr (0, []) : va_E)) = [] from rfl, List.append_nil]; exact hS.2.2.2.1
  refine va_mna (z := (n.toNat, .inr (.inl (fun _ => 0)))) hC.1 hC.2.1 hown (hw _ hw0) hRO.2.2.2.2.2.2.2.1.1 (hw _ hw1) hcy hS.2.2.1 hP0 hD0 hS.2.2.2.2 (fun q hq => Nat.le_trans hRO.2.2.2.2.2.2.2.2 hq) (neg _ _ e2 hn.2.2.1) (neg _ _ e1 hn.1) k2 k1 (by omega) (Nat.le_trans (Nat.mul_le_mul_right _ (show n.toNat ≤ 1000 by omega)) (by decide)) (by omega) rfl rfl (by omega) (by omega) (fun c => ?_) hdg (fun q1 rr cA H1 hinj hnl hK1 hP1 hD1 hS1 => ?_)
  · show ({ cls := c, slots := Array.replicate n.toNat (.long 0), vm := .none } : Cell) = _
    rw [arrV_new]
    rfl
  · have hl1 := hS.1.1
    have hl2 := hS.1.2.1
    have hrows : ∀ i : Nat, i < k.toNat → (va_pl ([] ++ (List.range k.toNat).map rr) (vr_up (fun _ => (.inr (0, []) : va_E)) ((List.range k.toNat).map rr) (.inl (cy, (n.toNat, .inr (.inl (fun _ => 0)))))))[i]? = some (rr i, .inl (cy, (n.toNat, .inr (.inl (fun _ => 0))))) := by
      intro i hi
      unfold va_pl
      rw [List.nil_append, List.getElem?_map, List.getElem?_map, List.getElem?_range hi]
      show some (rr i, _) = _
      rw [vr_up_in (List.mem_map.mpr ⟨i, List.mem_range.mpr hi, rfl⟩)]
    generalize hrw : va_pl ([] ++ (List.range k.toNat).map rr) (vr_up (fun _ => (.inr (0, []) : va_E)) ((List.range k.toNat).map rr) (.inl (cy, (n.toNat, .inr (.inl (fun _ => 0)))))) = rows at hP1 hD1 hrows
    have hrl : rows.length = k.toNat := by rw [← hrw]; simp [va_pl]
    rw [List.append_assoc] at hP1 hD1
    have hm1 : (j_mna h k.toNat n.toNat).1 = h.1 ++ ((36, k.toNat) :: List.replicate k.toNat (33, n.toNat)) := by
      unfold j_mna
      rw [j_mul_1]
      simp
    have hm2 : (j_mna h k.toNat n.toNat).2.1 = h.2.1 ++ ((List.range k.toNat).map (fun i => some (h.1.length + 1 + i)) :: List.replicate k.toNat []) := by
      unfold j_mna
      rw [j_mul_2]
      simp
    have hgl : (h.1 ++ [(36, k.toNat)]).length = h.1.length + 1 := by simp
    have hm3 : ∀ j, j < h.1.length → ∀ i, (j_mna h k.toNat n.toNat).2.2 j i = h.2.2 j i := by
      intro j hj i
      unfold j_mna
      rw [(j_mul_3 k.toNat j).1 (by rw [hgl]; omega)]
      show j_zero h.2.2 h.1.length j i = _
      unfold j_zero
      rw [if_neg (by omega)]
    have hm4 : ∀ j, h.1.length + 1 ≤ j → j < h.1.length + 1 + k.toNat → ∀ i, (j_mna h k.toNat n.toNat).2.2 j i = 0 := by
      intro j h1 h2 i
      unfold j_mna
      exact (j_mul_3 k.toNat j).2 (by rw [hgl]; omega) (by rw [hgl]; omega)
    have hρ1 : s_ρ b tt (ws ++ ([(q1, .inl (cA, (k.toNat, .inr (.inr (.inr (.inr (fun i => if i < k.toNat then some (rr i) else none)))))))] ++ rows)) (h.1.length) = some q1 := by
      rw [hl1, s_ρ_in (by simp)]
      show ((ws ++ _).map (fun q => q.1))[ws.length]? = some q1
      simp
    have hρ2 : ∀ i, i < k.toNat → s_ρ b tt (ws ++ ([(q1, .inl (cA, (k.toNat, .inr (.inr (.inr (.inr (fun i => if i < k.toNat then some (rr i) else none)))))))] ++ rows)) (h.1.length + 1 + i) = some (rr i) := by
      intro i hi
      rw [hl1, show ws.length + 2 + 1 + i = (ws.length + (1 + i)) + 2 by omega, s_ρ_in (by simp [hrl]; omega)]
      show ((ws ++ _).map (fun q => q.1))[ws.length + (1 + i)]? = some (rr i)
      rw [List.map_append, List.getElem?_append_right (by simp)]
      simp only [List.length_map, Nat.add_sub_cancel_left]
      rw [List.map_append, List.getElem?_append_right (by simp)]
      simp [hrows i hi]
    have hW2 : s_w b tt L xs (tys ++ [(cA, FieldType.array .long)]) (j_mna h k.toNat n.toNat) (ws ++ ([(q1, .inl (cA, (k.toNat, .inr (.inr (.inr (.inr (fun i => if i < k.toNat then some (rr i) else none)))))))] ++ rows)) := by
      refine s_w_app hS.1 (fun _ h => List.mem_append_left _ h) ⟨_, hm1, by simp [hrl], fun q hq => ?_⟩ ⟨_, hm2, by simp [hrl]⟩ hm3 (fun i x hx => ?_) (by rw [hm1]; simp; omega) (fun a i g1 g2 => ?_)
      · rcases List.mem_cons.mp hq with rfl | hq
        · show k.toNat ≤ 100000
          omega
        · rw [(List.mem_replicate.mp hq).2]
          show n.toNat ≤ 100000
          omega
      · cases i with
        | zero =>
          cases hx
          refine ⟨by rw [hm1]; simp, List.mem_append_right _ (List.mem_singleton.mpr rfl), fun i hi => ?_⟩
          have hrf : j_rf (j_mna h k.toNat n.toNat) (h.1.length + 0) i = some (h.1.length + 1 + i) := by
            unfold j_rf
            rw [hm2]
            simp only [Nat.add_zero, List.getD_eq_getElem?_getD]
            rw [List.getElem?_append_right (by omega), show h.1.length - h.2.1.length = 0 by omega]
            simp [List.getElem?_range hi]
          rw [hrf]
          refine ⟨rr i, ?_, hρ2 i hi⟩
          show va_rf (if i < k.toNat then some (rr i) else none) = _
          rw [if_pos hi]
          rfl
        | succ i =>
          have hx : rows[i]? = some x := by simpa using hx
          have hik : i < k.toNat := by have := (List.getElem?_eq_some_iff.mp hx).1; omega
          rw [hrows i hik] at hx
          cases hx
          refine ⟨?_, List.mem_append_left _ hcy0, fun j hj => ?_⟩
          · rw [hm1, List.getElem?_append_right (by omega), show h.1.length + (i + 1) - h.1.length = i + 1 by omega]
            simp [List.getElem?_replicate, hik]
          · rw [hm4 _ (by omega) (by omega)]
            rfl
      · have h7 := hS.1.2.2.2.2.2.2.2 a i g1 g2
        rw [← h7]
        unfold j_mna
        rw [j_mul_4 k.toNat a (by rw [hgl]; omega)]
        show j_zero h.2.2 h.1.length a i = _
        unfold j_zero
        rw [if_neg (by omega)]
    have hb : ws.length + ([(q1, (.inl (cA, (k.toNat, .inr (.inr (.inr (.inr (fun i => if i < k.toNat then some (rr i) else none)))))) : va_E))] ++ rows).length + 2 ≤ 1000000 := by
      rw [List.length_append, List.length_singleton, hrl]
      omega
    have hcnt : (j_mna h k.toNat n.toNat).1.length = h.1.length + (1 + k.toNat) := by rw [hm1]; simp; omega
    have hsl : s_sl (j_mna h k.toNat n.toNat) = s_sl h + (k.toNat + k.toNat * n.toNat) := by
      unfold s_sl
      rw [hm1]
      simp
    exact K H1 locs _ _ _ _ lsR rl (.ref q1 :: z) ⟨hW2, hP1, hK1, hD1, hS1⟩ (fun a q hq => s_ρ_app hb a q (hx a q hq)) (s_lo_mono (s_ρ_app hb) hl) hv ⟨⟨q1, rfl, hρ1⟩, s_st_mono (s_ρ_app hb) hz⟩ (by rw [hcnt]; omega) (by rw [hsl]; omega)
/-! what a method answers -/
def s_ov (ρ : j_P) (v : Option j_V) (w : Option Value) : Prop := match v, w with
  | none, none => True
  | some v, some w => s_val ρ v w
  | _, _ => False
def s_Q (D : va_G) (b : Nat) (tt : Nat → Nat) (L sb : Nat) (xs : Nat → Int32) (ρ0 : j_P) (h : j_H) (v : Option j_V) : Array Value → State → Outcome → State → Prop := fun _ st oc t =>
  (∃ (ov : Option Value) (ws : va_W) (tys : List (ClassId × FieldType)), oc = .returned ov ∧ s_ov (s_ρ b tt ws) v ov ∧ s_w b tt L xs tys h ws ∧ va_P D vwCl ws t.heap ∧ va_K D vwCl tys t ∧ va_D (s_A sb) ws ∧ ∀ a q : Nat, ρ0 a = some q → s_ρ b tt ws a = some q) ∧ va_F (s_A sb) st t
def s_Pre (D : va_G) (b : Nat) (tt : Nat → Nat) (L sb : Nat) (xs : Nat → Int32) (tys : List (ClassId × FieldType)) (ws : va_W) (U : State) : Prop := va_P D vwCl ws U.heap ∧ va_K D vwCl tys U ∧ va_D (s_A sb) ws ∧ s_RO b tt L sb xs U U.heap
def s_rm (d mc ms : Nat) : Room := { frames := d, cells := mc, slots := ms, locals := 92 + 32 * d }
def s_ws (q : j_M) : List Cond := .code q.1 q.2.1 q.2.2.1 q.2.2.2.1 :: lwW
theorem s_RK_move {s U : State} {H H1 : Heap} (h : s_RK tt sb s H) (hW : s.WarmedH U.vm) (hk : ∀ a : Nat, a < H.size → ¬ s_A sb a → H1[a]? = H[a]?) : s_RK tt sb U H1 := by
  obtain ⟨a1, a2, a3, a4, a5, a6, a7, v, a8, a9⟩ := h
  exact ⟨(a1.moved hW.alike).kept hk, (a2.moved hW.alike).kept hk, (a3.moved hW.alike).kept hk, fun a N e => ((a4 a N e).moved hW.alike).kept hk, fun k e => ⟨((a5 k e).1.moved hW.alike).kept hk, ((a5 k e).2.1.moved hW.alike).kept hk, ((a5 k e).2.2.moved hW.alike).kept hk⟩, fun k x e => vk_R.warm hW (a6 k x e), va_Nw.warmC hW a7, v, a8, (a9.moved hW.alike).kept hk⟩
theorem s_RK_same {s : State} {H : Heap} (h : s_RK tt sb s H) {U : State} (hv : U.vm = s.vm) : s_RK tt sb U H := by
  obtain ⟨a1, a2, a3, a4, a5, a6, a7, v, a8, a9⟩ := h
  have hA : s.vm.Alike U.vm := by rw [hv]; exact Vm.Alike.refl s.vm
  exact ⟨a1.moved hA, a2.moved hA, a3.moved hA, fun a N e => (a4 a N e).moved hA, fun k e => ⟨(a5 k e).1.moved hA, (a5 k e).2.1.moved hA, (a5 k e).2.2.moved hA⟩, fun k x e => vk_R.same hv (a6 k x e), va_Nw.same rfl hv.symm a7, v, a8, a9.moved hA⟩
theorem s_RO_move {s U : State} {H H1 : Heap} (h : s_RO b tt L sb xs s H) (hW : s.WarmedH U.vm) (hz : H.size ≤ H1.size) (hk : ∀ a : Nat, a < H.size → ¬ s_A sb a → H1[a]? = H[a]?) : s_RO b tt L sb xs U H1 := by
  obtain ⟨a1, a2, a3, a4, a5, a6, a7, a8, a9⟩ := h
  exact ⟨(a1.moved hW.alike).kept hk, a2, (a3.moved hW.alike).kept hk, (a4.moved hW.alike).kept hk, fun t ht => va_Nw.warmF hW (a5 t ht), fun t ht => va_Nw.warmF hW (a6 t ht), fun t ht => va_Nw.warmM hW (a7 t ht), ⟨va_AOA.moved hW.alike a8.1, s_RK_move a8.2 hW hk⟩, Nat.le_trans a9 hz⟩
theorem s_blind {D : va_G} {tys : List (ClassId × FieldType)} {ws : va_W} {was : List Value} : FrameBlind (va_Pc was (s_Pre D b tt L sb xs tys ws)) := by
  intro a U g mk ⟨h0, h1, h2, h3, a1, a2, a3, a4, a5, a6, a7, a8, a9⟩
  exact ⟨h0, h1, va_K.moved (u := U) (U := U.calling g mk a) (Vm.Alike.refl U.vm) h2, h3, a1.moved (U := U.calling g mk a) (Vm.Alike.refl U.vm), a2, a3.moved (U := U.calling g mk a) (Vm.Alike.refl U.vm), a4.moved (U := U.calling g mk a) (Vm.Alike.refl U.vm), fun t ht => va_Nw.same (U := U.calling g mk a) rfl rfl (a5 t ht), fun t ht => va_Nw.same (U := U.calling g mk a) rfl rfl (a6 t ht), fun t ht => va_Nw.same (U := U.calling g mk a) rfl rfl (a7 t ht), ⟨va_AOA.moved (U := U.calling g mk a) (Vm.Alike.refl U.vm) a8.1, s_RK_same a8.2 rfl⟩, a9⟩
theorem s_start (hC : s_C p s m args meth c R q b tt L sb xs nL) {H : Heap} {locs : List Loc} {tys : List (ClassId × FieldType)} {ws : va_W} (hS : s_St D b tt L sb xs s h H locs tys ws) {was : List Value} : ∀ U : State, U.heap = H → s.WarmedH U.vm → va_Pc was (s_Pre D b tt L sb xs tys ws) was.toArray U := by
  intro U hU hW
  obtain ⟨h1, h2, h3, h4, h5⟩ := hS
  refine ⟨rfl, by rw [hU]; exact h2, va_K.moved hW.alike h3, h4, s_RO_move hC.2.2.2.2.2.2.2.2 hW (by rw [hU]; exact h5.1) (fun a ha hn => by rw [hU]; exact h5.2.1 a ha hn)⟩
theorem r_call {k1 k2 : Nat} {H : Heap} {locs : List Loc} {cells slots : Nat} {lsR : Array Slot} {st0 rest : List Value} {a : Array Value} {g : j_H} {v : Option j_V}
    (hr : va_Run p l e R s m args below meth c H locs cells slots k1 k2 (F0 m pc lsR st0) rest (s_Q D b tt L sb xs ρ0 g v a) (s_A sb)) (hS : va_S (s_A sb) s.heap H locs)
    (kk : ∀ (ov : Option Value) (H1 : Heap) (locs1 : List Loc) (ws : va_W) (tys : List (ClassId × FieldType)), s_ov (s_ρ b tt ws) v ov → s_St D b tt L sb xs s g H1 locs1 tys ws → (∀ a q : Nat, ρ0 a = some q → s_ρ b tt ws a = some q) → W p l e R s m args below meth c H1 locs1 (cells + k1) (slots + k2) Q (F0 m (pc + 3) lsR (ov.toList ++ rest))) : W p l e R s m args below meth c H locs cells slots Q (F0 m pc lsR st0) := by
  intro T hT X
  obtain ⟨v, st₀, t, T', L, h0, X', hL, e1, e2, ⟨⟨ov, ws, tys, hv, ho, hw, hP, hK, hD, hρ⟩, hz, hk⟩, st⟩ := hr T hT X
  cases hv
  rw [h0] at hz hk
  obtain ⟨t2, a1, b1⟩ := kk v T'.heap (locs ++ L) ws tys ho
    ⟨hw, by rw [e1]; exact hP, va_K.moved (by rw [← e2]; exact X'.warmed.alike.symm) hK, hD, ⟨Nat.le_trans hS.1 (by rw [e1]; exact hz), fun q h1 h2 => by rw [e1, hk q (Nat.lt_of_lt_of_le h1 hS.1) h2]; exact hS.2.1 q h1 h2, fun q hq => by
      rcases List.mem_append.mp hq with h | h
      · exact hS.2.2 q h
      · exact hL q h⟩⟩ hρ T' rfl X'
  exact ⟨t2, st t2 a1, b1⟩
/-! returns -/
theorem r_ret {H : Heap} {locs : List Loc} {tys : List (ClassId × FieldType)} {ws : va_W} {v : Option j_V} {ov : Option Value} (hS : s_St D b tt L sb xs s h H locs tys ws) (hx : ∀ a q : Nat, ρ0 a = some q → s_ρ b tt ws a = some q) (ho : s_ov (s_ρ b tt ws) v ov) : (∀ t : State, t.heap = H → s.WarmedH t.vm → s_Q D b tt L sb xs ρ0 h v args s (.returned ov) t) ∧ ∀ q ∈ locs, s_A sb q.base := by
  obtain ⟨h1, h2, h3, h4, h5⟩ := hS
  exact ⟨fun t ht hW => ⟨⟨ov, ws, tys, rfl, ho, h1, by rw [ht]; exact h2, va_K.moved hW.alike h3, h4, hx⟩, h5.F ht⟩, h5.2.2⟩
end SC
end
section
/-! What the tables' checks say, in words; counts; the call with its arguments' room. -/
theorem x_ft {o ix a b : Nat} (h : j_ft.any (fun t => t.1 == o && t.2.1 == ix && t.2.2.1 == a && t.2.2.2.1 == b) = true) : ∃ r0 : vw_C, vwCl[a]? = some r0 ∧ b < r0.2.2 ∧ Cond.fieldLink (j_cnm o) ix (r0.2.1 b).1 (r0.2.1 b).2.1 (r0.2.1 b).2.2.1 ∈ lwW := by
  obtain ⟨t, h1, h2⟩ := List.any_eq_true.mp h
  simp only [Bool.and_eq_true, beq_iff_eq] at h2
  obtain ⟨⟨⟨e1, e2⟩, e3⟩, e4⟩ := h2
  have h3 := List.all_eq_true.mp j_ft_ok t h1
  unfold j_ftw at h3
  rw [e3, e4, e1, e2] at h3
  split at h3
  · rename_i r0 hr
    simp only [Bool.and_eq_true] at h3
    exact ⟨r0, hr, of_decide_eq_true h3.1, j_w_mem h3.2⟩
  · cases h3
theorem x_fn {o ix a b : Nat} (h : j_fn.any (fun t => t.1 == o && t.2.1 == ix && t.2.2.1 == a && t.2.2.2.1 == b) = true) : ∃ (r0 : vw_C) (t : Nat × Nat × Nat × Nat × Nat × Nat), vwCl[a]? = some r0 ∧ b < r0.2.2 ∧ t ∈ j_fn ∧ j_fnw t = Cond.fieldLinkNest (j_cnm o) ix (r0.2.1 b).1 (r0.2.1 b).2.1 (r0.2.1 b).2.2.1 (j_cnm t.2.2.2.2.1) := by
  obtain ⟨t, h1, h2⟩ := List.any_eq_true.mp h
  simp only [Bool.and_eq_true, beq_iff_eq] at h2
  obtain ⟨⟨⟨e1, e2⟩, e3⟩, e4⟩ := h2
  have h3 := List.all_eq_true.mp j_fn_ok t h1
  unfold j_fnk at h3
  rw [e3, e4] at h3
  split at h3
  · rename_i r0 hr
    simp only [Bool.and_eq_true] at h3
    refine ⟨r0, t, hr, of_decide_eq_true h3.1, h1, ?_⟩
    unfold j_fnw
    rw [e1, e2, e3, e4, of_decide_eq_true h3.2.1.2, List.getD_eq_getElem?_getD, hr, of_decide_eq_true h3.2.1.1]
    rfl
  · cases h3
theorem x_fs {o ix : Nat} (h : j_fs.any (fun t => t.1 == o && t.2.1 == ix) = true) : Cond.fieldLink (j_cnm o) ix "WholePacks" "TENS" "[I" ∈ lwW := by
  obtain ⟨t, h1, h2⟩ := List.any_eq_true.mp h
  simp only [Bool.and_eq_true, beq_iff_eq] at h2
  have h3 := j_w_mem (List.all_eq_true.mp j_fs_ok t h1)
  rw [h2.1, h2.2] at h3
  exact h3
theorem x_fsn {o ix : Nat} (h : j_fsn.any (fun t => t.1 == o && t.2.1 == ix) = true) : ∃ t, t ∈ j_fsn ∧ j_fsw t = Cond.fieldLinkNest (j_cnm o) ix "WholePacks" "TENS" "[I" (j_cnm t.2.2.1) := by
  obtain ⟨t, h1, h2⟩ := List.any_eq_true.mp h
  simp only [Bool.and_eq_true, beq_iff_eq] at h2
  refine ⟨t, h1, ?_⟩
  unfold j_fsw
  rw [h2.1, h2.2]
theorem x_mt {o ix a : Nat} (h : j_mt.any (fun t => t.1 == o && t.2.1 == ix && t.2.2.1 == a) = true) : Cond.methodLink (j_cnm o) ix (j_mnm a) ∈ lwW := by
  obtain ⟨t, h1, h2⟩ := List.any_eq_true.mp h
  simp only [Bool.and_eq_true, beq_iff_eq] at h2
  obtain ⟨⟨e1, e2⟩, e3⟩ := h2
  have h3 := j_w_mem (List.all_eq_true.mp j_mt_ok t h1)
  rw [e1, e2, e3] at h3
  exact h3
theorem x_mn {o ix a : Nat} (h : j_mn.any (fun t => t.1 == o && t.2.1 == ix && t.2.2.1 == a) = true) : ∃ t, t ∈ j_mn ∧ j_mnw t = Cond.methodLinkNest (j_cnm o) ix (j_mnm a) (j_cnm t.2.2.2.1) := by
  obtain ⟨t, h1, h2⟩ := List.any_eq_true.mp h
  simp only [Bool.and_eq_true, beq_iff_eq] at h2
  obtain ⟨⟨e1, e2⟩, e3⟩ := h2
  refine ⟨t, h1, ?_⟩
  unfold j_mnw
  rw [e1, e2, e3]
theorem x_ct {o ix a : Nat} (h : j_ct.any (fun t => t.1 == o && t.2.1 == ix && t.2.2.1 == a) = true) : ∃ r0 : vw_C, vwCl[a]? = some r0 ∧ Cond.classLink (j_cnm o) ix r0.1 ∈ lwW := by
  obtain ⟨t, h1, h2⟩ := List.any_eq_true.mp h
  simp only [Bool.and_eq_true, beq_iff_eq] at h2
  obtain ⟨⟨e1, e2⟩, e3⟩ := h2
  have h3 := List.all_eq_true.mp j_ct_ok t h1
  simp only [Bool.and_eq_true] at h3
  rw [e1, e2, e3] at h3
  have hlt : a < vwCl.length := of_decide_eq_true h3.1
  have hr := List.getElem?_eq_getElem hlt
  refine ⟨_, hr, ?_⟩
  rw [← (s_cl hr).2.2.2.2.2.2.2]
  exact j_w_mem h3.2
theorem x_kt0 {o ix : Nat} {z : Int} (h : j_kt.any (fun t => t.1 == o && t.2.1 == ix && t.2.2.1 == 0 && t.2.2.2.1 == z) = true) : Cond.constant (j_cnm o) ix (Int32.ofInt z) ∈ lwW ∧ (Int32.ofInt z).toInt = z := by
  obtain ⟨t, h1, h2⟩ := List.any_eq_true.mp h
  simp only [Bool.and_eq_true, beq_iff_eq] at h2
  obtain ⟨⟨⟨e1, e2⟩, e3⟩, e4⟩ := h2
  have h3 := List.all_eq_true.mp j_kt_ok t h1
  unfold j_ktw at h3
  rw [if_pos e3, Bool.and_eq_true, e1, e2, e4] at h3
  exact ⟨j_w_mem h3.1, of_decide_eq_true h3.2⟩
theorem x_kt1 {o ix : Nat} {z : Int} (h : j_kt.any (fun t => t.1 == o && t.2.1 == ix && t.2.2.1 == 1 && t.2.2.2.1 == z) = true) : Cond.constantLong (j_cnm o) ix (Int64.ofInt z) ∈ lwW ∧ (Int64.ofInt z).toInt = z := by
  obtain ⟨t, h1, h2⟩ := List.any_eq_true.mp h
  simp only [Bool.and_eq_true, beq_iff_eq] at h2
  obtain ⟨⟨⟨e1, e2⟩, e3⟩, e4⟩ := h2
  have h3 := List.all_eq_true.mp j_kt_ok t h1
  unfold j_ktw at h3
  rw [if_neg (by omega), Bool.and_eq_true, e1, e2, e4] at h3
  exact ⟨j_w_mem h3.1, of_decide_eq_true h3.2⟩
theorem j_mw_at {α : Type} {l : List α} {f : α → Bool} {a n k : Nat} {x : α} (h : ((l.drop a).take n).all f = true) (ha : a ≤ k) (hk : k < a + n) (hx : l[k]? = some x) : f x = true := by
  refine List.all_eq_true.mp h x (List.mem_of_getElem? (i := k - a) ?_)
  rw [List.getElem?_take_of_lt (by omega), List.getElem?_drop, show a + (k - a) = k by omega]
  exact hx
theorem j_mw_all {k : Nat} {x : (j_M × Nat × Nat × Nat × Nat) × Nat} (hk : k < 310) (hx : ((j_meth.zip j_mw).zip (List.range 310))[k]? = some x) : (x.2 == 271 || j_mok x.2 x.1.1 x.1.2) = true := by
  rcases Nat.lt_or_ge k 20 with h0 | h0
  · exact j_mw_at (l := (j_meth.zip j_mw).zip (List.range 310)) (f := fun q => q.2 == 271 || j_mok q.2 q.1.1 q.1.2) (a := 0) (n := 20) (k := k) (x := x) j_mw_0 (by omega) (by omega) hx
  rcases Nat.lt_or_ge k 40 with h1 | h1
  · exact j_mw_at (l := (j_meth.zip j_mw).zip (List.range 310)) (f := fun q => q.2 == 271 || j_mok q.2 q.1.1 q.1.2) (a := 20) (n := 20) (k := k) (x := x) j_mw_1 (by omega) (by omega) hx
  rcases Nat.lt_or_ge k 60 with h2 | h2
  · exact j_mw_at (l := (j_meth.zip j_mw).zip (List.range 310)) (f := fun q => q.2 == 271 || j_mok q.2 q.1.1 q.1.2) (a := 40) (n := 20) (k := k) (x := x) j_mw_2 (by omega) (by omega) hx
  rcases Nat.lt_or_ge k 80 with h3 | h3
  · exact j_mw_at (l := (j_meth.zip j_mw).zip (List.range 310)) (f := fun q => q.2 == 271 || j_mok q.2 q.1.1 q.1.2) (a := 60) (n := 20) (k := k) (x := x) j_mw_3 (by omega) (by omega) hx
  rcases Nat.lt_or_ge k 100 with h4 | h4
  · exact j_mw_at (l := (j_meth.zip j_mw).zip (List.range 310)) (f := fun q => q.2 == 271 || j_mok q.2 q.1.1 q.1.2) (a := 80) (n := 20) (k := k) (x := x) j_mw_4 (by omega) (by omega) hx
  rcases Nat.lt_or_ge k 120 with h5 | h5
  · exact j_mw_at (l := (j_meth.zip j_mw).zip (List.range 310)) (f := fun q => q.2 == 271 || j_mok q.2 q.1.1 q.1.2) (a := 100) (n := 20) (k := k) (x := x) j_mw_5 (by omega) (by omega) hx
  rcases Nat.lt_or_ge k 140 with h6 | h6
  · exact j_mw_at (l := (j_meth.zip j_mw).zip (List.range 310)) (f := fun q => q.2 == 271 || j_mok q.2 q.1.1 q.1.2) (a := 120) (n := 20) (k := k) (x := x) j_mw_6 (by omega) (by omega) hx
  rcases Nat.lt_or_ge k 160 with h7 | h7
  · exact j_mw_at (l := (j_meth.zip j_mw).zip (List.range 310)) (f := fun q => q.2 == 271 || j_mok q.2 q.1.1 q.1.2) (a := 140) (n := 20) (k := k) (x := x) j_mw_7 (by omega) (by omega) hx
  rcases Nat.lt_or_ge k 180 with h8 | h8
  · exact j_mw_at (l := (j_meth.zip j_mw).zip (List.range 310)) (f := fun q => q.2 == 271 || j_mok q.2 q.1.1 q.1.2) (a := 160) (n := 20) (k := k) (x := x) j_mw_8 (by omega) (by omega) hx
  rcases Nat.lt_or_ge k 200 with h9 | h9
  · exact j_mw_at (l := (j_meth.zip j_mw).zip (List.range 310)) (f := fun q => q.2 == 271 || j_mok q.2 q.1.1 q.1.2) (a := 180) (n := 20) (k := k) (x := x) j_mw_9 (by omega) (by omega) hx
  rcases Nat.lt_or_ge k 220 with h10 | h10
  · exact j_mw_at (l := (j_meth.zip j_mw).zip (List.range 310)) (f := fun q => q.2 == 271 || j_mok q.2 q.1.1 q.1.2) (a := 200) (n := 20) (k := k) (x := x) j_mw_10 (by omega) (by omega) hx
  rcases Nat.lt_or_ge k 240 with h11 | h11
  · exact j_mw_at (l := (j_meth.zip j_mw).zip (List.range 310)) (f := fun q => q.2 == 271 || j_mok q.2 q.1.1 q.1.2) (a := 220) (n := 20) (k := k) (x := x) j_mw_11 (by omega) (by omega) hx
  rcases Nat.lt_or_ge k 260 with h12 | h12
  · exact j_mw_at (l := (j_meth.zip j_mw).zip (List.range 310)) (f := fun q => q.2 == 271 || j_mok q.2 q.1.1 q.1.2) (a := 240) (n := 20) (k := k) (x := x) j_mw_12 (by omega) (by omega) hx
  rcases Nat.lt_or_ge k 280 with h13 | h13
  · exact j_mw_at (l := (j_meth.zip j_mw).zip (List.range 310)) (f := fun q => q.2 == 271 || j_mok q.2 q.1.1 q.1.2) (a := 260) (n := 20) (k := k) (x := x) j_mw_13 (by omega) (by omega) hx
  rcases Nat.lt_or_ge k 300 with h14 | h14
  · exact j_mw_at (l := (j_meth.zip j_mw).zip (List.range 310)) (f := fun q => q.2 == 271 || j_mok q.2 q.1.1 q.1.2) (a := 280) (n := 20) (k := k) (x := x) j_mw_14 (by omega) (by omega) hx
  rcases Nat.lt_or_ge k 310 with h15 | h15
  · exact j_mw_at (l := (j_meth.zip j_mw).zip (List.range 310)) (f := fun q => q.2 == 271 || j_mok q.2 q.1.1 q.1.2) (a := 300) (n := 10) (k := k) (x := x) j_mw_15 (by omega) (by omega) hx
  omega
theorem s_good {ws : List Cond} (h : ∀ w ∈ ws, w ∈ lwW) : GoodIn lwW ws := fun w hw => ⟨h w hw, good_of_word (List.mem_filter.mp (h w hw)).2⟩
/-- a method's own words -/
theorem s_mok {k : Nat} {mq : j_M} (h : j_meth[k]? = some mq) (hk : k ≠ 271) (h3 : mq.2.2.2.2.2.1 ≠ 3) : GoodIn lwW (s_ws mq) ∧ Cond.initialized mq.1.cls ∈ lwW ∧ mq.1.cls = j_cnm mq.2.2.2.2.1 ∧ (mq.1.cls ≠ "java/lang/invoke/MethodHandle" ∧ mq.1.cls ≠ "java/lang/invoke/VarHandle" ∧ (parseMethodDescriptor mq.1.desc).map (fun d => d.parameters.length) = some (mq.2.2.2.2.2.2 + if k = 277 ∨ k = 282 then 1 else 0)) ∧ mq.2.2.1 ≤ 13 ∧ (mq.2.2.2.2.2.1 = 0 → Cond.instanceMethod mq.1 ∈ lwW ∧ (mq.2.2.2.2.1 < 13 → k ≠ 287 → Cond.selects mq.1.cls mq.1 mq.1 ∈ lwW) ∧ mq.1.name ≠ "<init>" ∧ (mq.2.2.2.2.1 < 13 ∨ (mq.2.2.2.2.1 = 16 ∧ Cond.sameMethod mq.1.cls mq.1.cls mq.1.name mq.1.desc ∈ lwW))) ∧ (mq.2.2.2.2.2.1 = 1 → Cond.static mq.1 ∈ lwW) ∧ (mq.2.2.2.2.2.1 = 2 → Cond.instanceMethod mq.1 ∈ lwW ∧ mq.1.name = "<init>" ∧ mq.2.2.2.1 = none) := by
  have hlt : k < 310 := by have := (List.getElem?_eq_some_iff.mp h).1; rw [j_len.1] at this; exact this
  obtain ⟨w, hw⟩ : ∃ w, j_mw[k]? = some w := ⟨_, List.getElem?_eq_getElem (by rw [j_len.2.2]; exact hlt)⟩
  have hz : ((j_meth.zip j_mw).zip (List.range 310))[k]? = some ((mq, w), k) := by
    rw [List.getElem?_zip_eq_some, List.getElem?_zip_eq_some]
    exact ⟨⟨h, hw⟩, List.getElem?_range hlt⟩
  have hm := j_mw_all hlt hz
  unfold j_mok at hm
  simp only [Bool.or_eq_true, Bool.and_eq_true, beq_iff_eq] at hm
  rcases hm with hm | hm | hm
  · exact absurd hm hk
  · exact absurd hm h3
  obtain ⟨h1, h2, h4, h5, h6⟩ := hm
  refine ⟨s_good (fun w hw => ?_), j_w_mem h1, of_decide_eq_true h2, of_decide_eq_true h4, of_decide_eq_true h5, fun e => ?_, fun e => ?_, fun e => ?_⟩
  · unfold s_ws at hw
    rcases List.mem_cons.mp hw with rfl | hw
    · exact List.mem_filter.mpr ⟨j_cw_all k mq h hk h3, rfl⟩
    · exact hw
  · rw [e] at h6
    simp only [Bool.or_eq_true, Bool.and_eq_true, Bool.not_eq_true', Bool.and_eq_false_iff, decide_eq_true_eq, decide_eq_false_iff_not, beq_iff_eq, bne_eq_false_iff_eq] at h6
    obtain ⟨g1, g2, g3, g4⟩ := h6
    refine ⟨j_w_mem g1, fun e1 e2 => ?_, g3, ?_⟩
    · rcases g2 with (g2 | g2) | g2
      · exact absurd e1 g2
      · exact absurd g2 e2
      · exact j_w_mem g2
    · rcases g4 with g4 | ⟨g4, g5⟩
      · exact Or.inl g4
      · exact Or.inr ⟨g4, j_has_mem g5⟩
  · rw [e] at h6
    exact j_w_mem h6
  · rw [e] at h6
    simp only [Bool.and_eq_true] at h6
    exact ⟨j_w_mem h6.1, of_decide_eq_true h6.2.1, of_decide_eq_true h6.2.2⟩
theorem x_cal {a kd np : Nat} {mq : j_M} (h : j_cal a kd np = true) (hm : j_meth[a]? = some mq) : mq.2.2.2.2.2.1 = kd ∧ mq.2.2.2.2.2.2 = np ∧ a ≠ 271 ∧ a ≠ 277 ∧ a ≠ 282 := by
  unfold j_cal at h
  have h1 : j_kn[a]? = some (mq.2.2.2.2.1, mq.2.2.2.2.2.1, mq.2.2.2.2.2.2) := by rw [← j_kn_ok, List.getElem?_map, hm]; rfl
  rw [h1] at h
  simp only [Bool.and_eq_true, beq_iff_eq, bne_iff_ne] at h
  exact ⟨h.1.1, h.1.2, h.2.1, h.2.2.1, h.2.2.2⟩
theorem x_pl {a : Nat} {mq : j_M} (h : j_pl a = true) (hm : j_meth[a]? = some mq) : mq.2.2.2.2.1 < 13 ∧ a ≠ 287 := by
  unfold j_pl at h
  have h1 : j_kn[a]? = some (mq.2.2.2.2.1, mq.2.2.2.2.2.1, mq.2.2.2.2.2.2) := by rw [← j_kn_ok, List.getElem?_map, hm]; rfl
  rw [h1] at h
  simp only [Bool.and_eq_true, decide_eq_true_eq, bne_iff_ne] at h
  exact h
theorem x_sup {a : Nat} {mq : j_M} (h : j_sup a = true) (hm : j_meth[a]? = some mq) : mq.2.2.2.2.1 = 16 := by
  unfold j_sup at h
  have h1 : j_kn[a]? = some (mq.2.2.2.2.1, mq.2.2.2.2.2.1, mq.2.2.2.2.2.2) := by rw [← j_kn_ok, List.getElem?_map, hm]; rfl
  rw [h1] at h
  simpa using h
theorem x_gs {o ix a : Nat} (h : j_gs.any (fun t => t.1 == o && t.2.1 == ix && t.2.2.1 == a) = true) : (a = 98 ∧ Cond.fieldLink (j_cnm o) ix "java/lang/String" "COMPACT_STRINGS" "Z" ∈ lwW) ∨ (a = 96 ∧ Cond.fieldLink (j_cnm o) ix "java/lang/Integer" "DigitOnes" "[B" ∈ lwW) ∨ (a = 97 ∧ Cond.fieldLink (j_cnm o) ix "java/lang/Integer" "DigitTens" "[B" ∈ lwW) := by
  obtain ⟨t, h1, h2⟩ := List.any_eq_true.mp h
  simp only [Bool.and_eq_true, beq_iff_eq] at h2
  obtain ⟨⟨e1, e2⟩, e3⟩ := h2
  have h3 := List.all_eq_true.mp j_gs_ok t h1
  simp only [Bool.and_eq_true, Bool.or_eq_true, beq_iff_eq] at h3
  have h4 := j_w_mem h3.2
  unfold j_gsw at h4
  rw [e1, e2, e3] at h4
  rw [e3] at h3
  rcases h3.1 with h5 | h5 | h5
  · rw [if_pos h5] at h4; exact Or.inl ⟨h5, h4⟩
  · rw [if_neg (by omega), if_pos h5] at h4; exact Or.inr (Or.inl ⟨h5, h4⟩)
  · rw [if_neg (by omega), if_neg (by omega)] at h4; exact Or.inr (Or.inr ⟨h5, h4⟩)
theorem x_st {o ix b : Nat} (h : j_st.any (fun t => t.1 == o && t.2.1 == ix && t.2.2.1 == b) = true) : ∃ x, j_tx[b]? = some x ∧ ix = x.1 ∧ o = 13 ∧ b < 10 := by
  obtain ⟨t, h1, h2⟩ := List.any_eq_true.mp h
  simp only [Bool.and_eq_true, beq_iff_eq] at h2
  obtain ⟨⟨e1, e2⟩, e3⟩ := h2
  have h3 := List.all_eq_true.mp j_st_ok t h1
  rw [e1, e2, e3] at h3
  split at h3
  · rename_i x hx
    simp only [Bool.and_eq_true, decide_eq_true_eq, beq_iff_eq] at h3
    have h5 : j_tx.length = 10 := by decide
    have h6 := (List.getElem?_eq_some_iff.mp hx).1
    exact ⟨x, hx, h3.1, h3.2.1, by omega⟩
  · cases h3
theorem x_vu {o ix a : Nat} (h : j_vu.any (fun t => t.1 == o && t.2.1 == ix && t.2.2.1 == a) = true) : Cond.methodLink (j_cnm o) ix (j_asb (j_mnm a)) ∈ lwW ∧ Cond.selects "java/lang/StringBuilder" (j_asb (j_mnm a)) (j_mnm a) ∈ lwW ∧ Cond.sameMethod "java/lang/AbstractStringBuilder" "java/lang/AbstractStringBuilder" (j_mnm a).name (j_mnm a).desc ∈ lwW ∧ (j_mnm a = j_asb (j_mnm a) ∨ a = 287) := by
  obtain ⟨t, h1, h2⟩ := List.any_eq_true.mp h
  simp only [Bool.and_eq_true, beq_iff_eq] at h2
  obtain ⟨⟨e1, e2⟩, e3⟩ := h2
  have h3 := List.all_eq_true.mp j_vu_ok t h1
  simp only [Bool.and_eq_true, Bool.or_eq_true, beq_iff_eq, decide_eq_true_eq] at h3
  rw [e1, e2, e3] at h3
  refine ⟨j_w_mem h3.1, j_w_mem h3.2.1, j_w_mem h3.2.2.1, ?_⟩
  rcases h3.2.2.2 with h4 | h4
  · exact Or.inl h4.2
  · exact Or.inr h4.2
theorem x_cal_some {a kd np : Nat} (h : j_cal a kd np = true) : ∃ mq, j_meth[a]? = some mq := by
  unfold j_cal at h
  split at h
  · rename_i e
    have h1 := (List.getElem?_eq_some_iff.mp e).1
    rw [← j_kn_ok, List.length_map] at h1
    exact ⟨_, List.getElem?_eq_getElem h1⟩
  · cases h
theorem x_mnm {a : Nat} {mq : j_M} (hm : j_meth[a]? = some mq) : j_mnm a = mq.1 := by
  have h1 : a < 310 := by have := (List.getElem?_eq_some_iff.mp hm).1; rw [j_len.1] at this; exact this
  unfold j_mnm
  rw [if_neg (by omega), if_neg (by omega), hm]
theorem j_rt_ok : j_meth.all (fun q => match q.2.2.2.1 with | none => true | some .int => true | some .long => true | some .boolean => true | some .byte => true | some .char => true | some (.object _) => true | some (.array _) => true | _ => false) = true := by decide +kernel
theorem x_ret {y k : Nat} {q : j_M} (hq : j_meth[y]? = some q) (h : j_ret y = k) : (k = 0 → q.2.2.2.1 = none) ∧ (k = 1 → q.2.2.2.1 = some .int) ∧ (k = 2 → q.2.2.2.1 = some .long) ∧ (k = 3 → q.2.2.2.1 = some .boolean) ∧ (k = 4 → q.2.2.2.1 = some .byte) ∧ (k = 5 → q.2.2.2.1 = some .char) ∧ (k = 6 → ∃ rt, q.2.2.2.1 = some rt ∧ ((∃ n, rt = .object n) ∨ ∃ t, rt = .array t)) := by
  have h1 : j_rk[y]? = some (match q.2.2.2.1 with | none => 0 | some .int => 1 | some .long => 2 | some .boolean => 3 | some .byte => 4 | some .char => 5 | _ => 6) := by rw [← j_rk_ok, List.getElem?_map, hq]; rfl
  have h2 := List.all_eq_true.mp j_rt_ok q (List.mem_of_getElem? hq)
  unfold j_ret at h
  rw [List.getD_eq_getElem?_getD, h1, Option.getD_some] at h
  clear h1 hq
  generalize q.2.2.2.1 = o at h h2 ⊢
  cases o with
  | none => cases h; simp
  | some t => cases t <;> first | (cases h2; done) | (cases h; simp)
theorem x_dec {cc : ByteArray} {r : Nat × j_I} (h : j_dk cc r = true) : ∃ n, decode cc r.1 = .ok (r.2.1, n) ∧ j_ln r.2.1 n = true := by
  unfold j_dk at h
  split at h
  · rename_i i n e
    rw [Bool.and_eq_true] at h
    have := of_decide_eq_true h.1
    exact ⟨n, by rw [← this]; exact e, by rw [← this]; exact h.2⟩
  · cases h
theorem j_lk_mem {α : Type} : ∀ {l : List (Nat × α)} {n : Nat} {v : α}, j_lk l n = some v → (n, v) ∈ l
  | [], n, v, h => by cases h
  | (k, w) :: r, n, v, h => by
    unfold j_lk at h
    split at h
    · rename_i e
      cases h
      exact e ▸ List.mem_cons_self
    · exact List.mem_cons_of_mem _ (j_lk_mem h)
theorem x_at {y pc : Nat} {q : j_M} {i : j_I} (hsp : ¬ j_spc y) (hq : j_meth[y]? = some q) (h : j_at y pc = some i) : (∃ n, decode q.2.1 pc = .ok (i.1, n) ∧ j_ln i.1 n = true) ∧ j_ax q.2.2.2.2.1 q.2.2.2.2.2.1 (pc, i) = true := by
  unfold j_at at h
  split at h
  · rename_i c e
    have h1 : (j_dk q.2.1 (pc, i) && j_ax q.2.2.2.2.1 q.2.2.2.2.2.1 (pc, i)) = true := List.all_eq_true.mp (j_good_all y hsp q c hq e) _ (j_lk_mem h)
    have h2 := (Bool.and_eq_true _ _).mp h1
    exact ⟨x_dec (r := (pc, i)) h2.1, h2.2⟩
  · cases h
/-! counts -/
def s_ge (h g : j_H) : Prop := h.1.length ≤ g.1.length ∧ s_sl h ≤ s_sl g
theorem s_ge_rf (h : j_H) : s_ge h h := ⟨Nat.le_refl _, Nat.le_refl _⟩
theorem s_ge_tr {h g k : j_H} (h1 : s_ge h g) (h2 : s_ge g k) : s_ge h k := ⟨Nat.le_trans h1.1 h2.1, Nat.le_trans h1.2 h2.2⟩
theorem s_ge_new {h : j_H} {c n : Nat} : s_ge h (j_new h c n) := ⟨by rw [s_new_cnt.1]; omega, by rw [s_new_cnt.2]; omega⟩
theorem s_cln_cnt {h : j_H} {a n : Nat} : (j_cln h a n).1.length = h.1.length + 1 ∧ s_sl (j_cln h a n) = s_sl h + n := by
  refine ⟨by simp [j_cln], ?_⟩
  unfold s_sl j_cln
  simp
theorem s_ge_cln {h : j_H} {a n : Nat} : s_ge h (j_cln h a n) := ⟨by rw [s_cln_cnt.1]; omega, by rw [s_cln_cnt.2]; omega⟩
theorem s_mna_cnt {h : j_H} {k n : Nat} : (j_mna h k n).1.length = h.1.length + (1 + k) ∧ s_sl (j_mna h k n) = s_sl h + (k + k * n) := by
  have hm1 : (j_mna h k n).1 = h.1 ++ ((36, k) :: List.replicate k (33, n)) := by
    unfold j_mna
    rw [j_mul_1]
    simp
  refine ⟨by rw [hm1]; simp; omega, ?_⟩
  unfold s_sl
  rw [hm1]
  simp
theorem s_ge_mna {h : j_H} {k n : Nat} : s_ge h (j_mna h k n) := ⟨by rw [s_mna_cnt.1]; omega, by rw [s_mna_cnt.2]; omega⟩
set_option maxHeartbeats 4000000 in
theorem j_step_cnt (y pc : Nat) (ls : j_L) (st : List j_V) (h : j_H) : j_step y pc ls st h True (fun _ _ _ g => s_ge h g) (fun _ g => s_ge h g) (fun _ _ _ => True) := by
  unfold j_step
  cases j_at y pc with
  | none => trivial
  | some q =>
    obtain ⟨i, a, b, z⟩ := q
    simp only [j_op]
    cases i
    case ifCond c off => cases c <;> (simp only [j_if]; split <;> first | trivial | (split <;> exact s_ge_rf h))
    case if_icmp c off => cases c <;> (simp only [j_if2]; split <;> first | trivial | (split <;> exact s_ge_rf h))
    case getfield =>
      dsimp only
      split
      · have G : ∀ a0 : Nat, j_get h a0 a b True (fun _ => s_ge h h) := by
          intro a0
          unfold j_get
          split
          · exact s_ge_rf h
          · exact s_ge_rf h
          · exact s_ge_rf h
          · simp only [j_op]
            split
            · exact s_ge_rf h
            · trivial
        unfold j_obk j_fk
        split
        · split
          · split
            · exact G _
            · split
              · exact G _
              · trivial
          · trivial
        · trivial
      · trivial
    case putfield =>
      dsimp only
      split
      · unfold j_ob
        split
        · split
          · unfold j_put
            split <;> split <;> first | trivial | exact s_ge_rf h | (split <;> first | trivial | exact s_ge_rf h)
          · trivial
        · trivial
      · trivial
    case invokevirtual =>
      dsimp only
      split
      · split
        · split
          · split
            · exact s_ge_cln
            · trivial
          · trivial
        · split
          · unfold j_obk
            split
            · split
              · split <;> trivial
              · trivial
            · trivial
          · trivial
      · trivial
    case invokespecial =>
      dsimp only
      split
      · trivial
      · split
        · split
          · split
            · exact s_ge_rf h
            · unfold j_obs
              split
              · split
                · trivial
                · unfold j_obk
                  split
                  · split <;> trivial
                  · trivial
              · trivial
          · trivial
        · trivial
    case invokestatic =>
      dsimp only
      split
      · trivial
      · split
        · split
          · split
            · split
              · split
                · exact s_ge_rf h
                · trivial
              · trivial
            · trivial
          · trivial
        · split <;> trivial
    case checkcast =>
      dsimp only
      split
      · unfold j_ob
        split
        · split
          · exact s_ge_rf h
          · trivial
        · trivial
      · trivial
    all_goals dsimp only
    all_goals first | trivial | exact s_ge_rf h | exact s_ge_new | ((try simp only [j_bI, j_bL, j_uI, j_uL, j_el, j_sI, j_sL, j_rg, j_op]); repeat' (first | trivial | exact s_ge_rf h | exact s_ge_new | exact s_ge_mna | split | dsimp only))
/-! the call -/
noncomputable def c_call : Nat → Nat → List j_V → j_H → Option j_Z
  | 0, _, _, _ => none
  | d + 1, y, as, h => if (j_ent as).length ≤ j_ml y then j_fin (c_call d) y 0 (j_loc y as) [] h else none
noncomputable def c_do (n : Nat) : Nat → Nat → List j_V → j_H → Option j_Z
  | 0, _, _, _ => none
  | d + 1, y, as, h => if (j_ent as).length ≤ j_ml y then j_run (c_do n d) n y 0 (j_loc y as) [] h else none
theorem c_do_call {n d y : Nat} {as : List j_V} {h : j_H} {z : j_Z} (e : c_do n d y as h = some z) : c_call d y as h = some z := by
  induction d generalizing y as h z with
  | zero => cases e
  | succ d ih =>
    unfold c_do at e
    unfold c_call
    split at e
    · rename_i hl
      rw [if_pos hl]
      exact (j_fin_some _).mpr ⟨n, j_run_sub (fun k as h z hz => ih hz) e⟩
    · cases e
theorem c_call_mono {d y : Nat} {as : List j_V} {h : j_H} {z : j_Z} (e : c_call d y as h = some z) : c_call (d + 1) y as h = some z := by
  induction d generalizing y as h z with
  | zero => cases e
  | succ d ih =>
    unfold c_call at e ⊢
    split at e
    · rename_i hl
      rw [if_pos hl]
      obtain ⟨n, e⟩ := (j_fin_some _).mp e
      exact (j_fin_some _).mpr ⟨n, j_run_sub (fun k as h z hz => ih hz) e⟩
    · cases e
theorem j_run_cnt {C : Nat → List j_V → j_H → Option j_Z} (hCc : ∀ k as h z, C k as h = some z → s_ge h z.2) {n y pc : Nat} {ls : j_L} {st : List j_V} {h : j_H} {z : j_Z} (e : j_run C n y pc ls st h = some z) : s_ge h z.2 := by
  induction n generalizing pc ls st h with
  | zero => cases e
  | succ n ih =>
    unfold j_run at e
    have h1 := j_step_cnt y pc ls st h
    rw [j_step_by] at e h1
    generalize j_res y pc ls st h = q at e h1
    match q, h1 with
    | none, _ => cases e
    | some (.inl (a, b, c, d)), h1 => exact s_ge_tr h1 (ih e)
    | some (.inr (.inl (v, g))), h1 => cases e; exact h1
    | some (.inr (.inr (a, b, c))), h1 =>
      simp only [j_by] at e
      cases hc : C a b h with
      | none => rw [hc] at e; cases e
      | some w => rw [hc] at e; exact s_ge_tr (hCc _ _ _ _ hc) (ih e)
theorem c_call_cnt {d y : Nat} {as : List j_V} {h : j_H} {z : j_Z} (e : c_call d y as h = some z) : s_ge h z.2 := by
  induction d generalizing y as h z with
  | zero => cases e
  | succ d ih =>
    unfold c_call at e
    split at e
    · obtain ⟨n, e⟩ := (j_fin_some _).mp e
      exact j_run_cnt (fun k as h z hz => ih hz) e
    · cases e
end
section
/-! SOUNDNESS: what the abstract machine computes, the machine does. -/
section SI
variable {z : j_Z} {st : List j_V}
theorem i_bI {k : Int → Int → List j_V → Option j_Z} (e : j_bI st none k = some z) : ∃ x y r, st = jI y :: jI x :: r ∧ k x y r = some z := by
  unfold j_bI at e
  split at e
  · exact ⟨_, _, _, rfl, e⟩
  · cases e
theorem i_bL {k : Int → Int → List j_V → Option j_Z} (e : j_bL st none k = some z) : ∃ x y r, st = jL y :: jL x :: r ∧ k x y r = some z := by
  unfold j_bL at e
  split at e
  · exact ⟨_, _, _, rfl, e⟩
  · cases e
theorem i_uI {k : Int → List j_V → Option j_Z} (e : j_uI st none k = some z) : ∃ x r, st = jI x :: r ∧ k x r = some z := by
  unfold j_uI at e
  split at e
  · exact ⟨_, _, rfl, e⟩
  · cases e
theorem i_uL {k : Int → List j_V → Option j_Z} (e : j_uL st none k = some z) : ∃ x r, st = jL x :: r ∧ k x r = some z := by
  unfold j_uL at e
  split at e
  · exact ⟨_, _, rfl, e⟩
  · cases e
theorem i_el {k : Nat → Int → List j_V → Option j_Z} (e : j_el st none k = some z) : ∃ q i r, st = jI i :: jR q :: r ∧ k q i r = some z := by
  unfold j_el at e
  split at e
  · exact ⟨_, _, _, rfl, e⟩
  · cases e
theorem i_sI {k : Nat → Int → Int → List j_V → Option j_Z} (e : j_sI st none k = some z) : ∃ q i x r, st = jI x :: jI i :: jR q :: r ∧ k q i x r = some z := by
  unfold j_sI at e
  split at e
  · exact ⟨_, _, _, _, rfl, e⟩
  · cases e
theorem i_sL {k : Nat → Int → Int → List j_V → Option j_Z} (e : j_sL st none k = some z) : ∃ q i x r, st = jL x :: jI i :: jR q :: r ∧ k q i x r = some z := by
  unfold j_sL at e
  split at e
  · exact ⟨_, _, _, _, rfl, e⟩
  · cases e
theorem i_rg {h : j_H} {q kd : Nat} {i : Int} {k : Option j_Z} (e : j_rg h q kd i none k = some z) : ∃ n, h.1[q]? = some (kd, n) ∧ (0 ≤ i ∧ i < n) ∧ k = some z := by
  unfold j_rg at e
  split at e
  · rename_i c n hc
    split at e
    · rename_i hk
      split at e
      · exact ⟨n, by rw [hc, hk], by assumption, e⟩
      · cases e
    · cases e
  · cases e
theorem i_ob {h : j_H} {q c : Nat} {k : Option j_Z} (e : j_ob h q c none k = some z) : ∃ n, h.1[q]? = some (c, n) ∧ k = some z := by
  unfold j_ob at e
  split at e
  · rename_i d n hc
    split at e
    · rename_i hk
      exact ⟨n, by rw [hc, hk], e⟩
    · cases e
  · cases e
theorem i_obk {h : j_H} {q c : Nat} {k : Option j_Z} (e : j_obk h q c none k = some z) : ∃ n, j_kd h q = some (c, n) ∧ k = some z := by
  unfold j_obk at e
  split at e
  · rename_i d n hd
    split at e
    · rename_i hc
      exact ⟨n, by rw [hd, hc], e⟩
    · cases e
  · cases e
theorem i_fk {h : j_H} {a k : Nat} {g : Option j_Z} (e : j_fk h a k none g = some z) : (h.1[a]? = none → k ≤ 1) ∧ g = some z := by
  unfold j_fk at e
  split at e
  · rename_i hd
    exact ⟨fun h1 => (by rw [hd] at h1; cases h1), e⟩
  · split at e
    · rename_i hk
      exact ⟨fun _ => hk, e⟩
    · cases e
theorem i_op {β : Type} {o : Option β} {k : β → Option j_Z} (e : j_op o none k = some z) : ∃ v, o = some v ∧ k v = some z := by
  unfold j_op at e
  split at e
  · exact ⟨_, rfl, e⟩
  · cases e
theorem i_if {c : Int → Prop} [DecidablePred c] {t f : List j_V → Option j_Z} (e : j_if st none c t f = some z) : ∃ x r, st = jI x :: r ∧ (c x → t r = some z) ∧ (¬ c x → f r = some z) := by
  unfold j_if at e
  split at e
  · rename_i x r
    refine ⟨x, r, rfl, fun h => ?_, fun h => ?_⟩
    · rw [if_pos h] at e; exact e
    · rw [if_neg h] at e; exact e
  · cases e
theorem i_if2 {c : Int → Int → Prop} [∀ x y, Decidable (c x y)] {t f : List j_V → Option j_Z} (e : j_if2 st none c t f = some z) : ∃ x y r, st = jI y :: jI x :: r ∧ (c x y → t r = some z) ∧ (¬ c x y → f r = some z) := by
  unfold j_if2 at e
  split at e
  · rename_i y x r
    refine ⟨x, y, r, rfl, fun h => ?_, fun h => ?_⟩
    · rw [if_pos h] at e; exact e
    · rw [if_neg h] at e; exact e
  · cases e
theorem i_bind {C : Option j_Z} {f : j_Z → Option j_Z} (e : (C.bind f) = some z) : ∃ w, C = some w ∧ f w = some z := by
  cases C with
  | none => cases e
  | some w => exact ⟨w, rfl, e⟩
theorem i_get {h : j_H} {a c k : Nat} {g : j_V → Option j_Z} (e : j_get h a c k none g = some z) : ∃ v, j_gv h a c k = some v ∧ g v = some z := by
  unfold j_get at e
  unfold j_gv
  generalize j_ty c k = t at e ⊢
  match t, e with
  | 0, e => exact ⟨_, rfl, e⟩
  | 1, e => exact ⟨_, rfl, e⟩
  | 2, e => exact ⟨_, rfl, e⟩
  | n + 3, e =>
    obtain ⟨v, h1, h2⟩ := i_op e
    exact ⟨_, by rw [h1]; rfl, h2⟩
theorem i_put {h : j_H} {a c k : Nat} {v : j_V} {g : j_H → Option j_Z} (e : j_put h a c k v none g = some z) : ∃ h1, j_pv h a c k v = some h1 ∧ g h1 = some z := by
  unfold j_put at e
  unfold j_pv j_put
  split at e
  · split at e
    · exact ⟨_, rfl, e⟩
    · cases e
  · split at e
    · exact ⟨_, rfl, e⟩
    · cases e
  · split at e
    · split at e
      · rename_i hx
        exact ⟨_, if_pos hx, e⟩
      · cases e
    · cases e
  · split at e
    · exact ⟨_, rfl, e⟩
    · cases e
end SI
theorem s_ov_st {ρ : j_P} {v : Option j_V} {w : Option Value} {r : List j_V} {q : List Value} (h : s_ov ρ v w) (hq : s_st ρ r q) : s_st ρ (v.toList ++ r) (w.toList ++ q) := by
  match v, w, h with
  | none, none, _ => exact hq
  | some v, some w, h => exact ⟨h, hq⟩
def s_IH (l : Launch) (D : va_G) (b : Nat) (tt : Nat → Nat) (L sb : Nat) (xs : Nat → Int32) (d : Nat) : Prop := ∀ (k : Nat) (as : List j_V) (h : j_H) (z : j_Z), c_call d k as h = some z → k ≠ 271 → ∀ mq : j_M, j_meth[k]? = some mq → mq.2.2.2.2.2.1 ≠ 3 → ∀ (ws : va_W) (tys : List (ClassId × FieldType)) (was ex : List Value), (ex = [] ∧ k ≠ 277 ∧ k ≠ 282 ∨ (k = 277 ∨ k = 282) ∧ ∃ v : Value, ex = [v] ∧ v.category = 1 ∧ (j_ent as).length + 1 ≤ j_ml k) → s_w b tt L xs tys h ws → s_st (s_ρ b tt ws) as was →
  Met l mq.1 (s_ws mq) (s_rm d (z.2.1.length - h.1.length) (s_sl z.2 - s_sl h)) (va_Pc (was ++ ex) (s_Pre D b tt L sb xs tys ws)) (s_Q D b tt L sb xs (s_ρ b tt ws) z.2 z.1) (z.2.1.length - h.1.length) (s_sl z.2 - s_sl h) (s_A sb)
theorem s_lenset {ls l1 : j_L} {k nL : Nat} {v : j_V} (hn : ls.length = nL) (h : j_s1 ls k v = some l1) : l1.length = nL := by
  obtain ⟨-, -, rfl⟩ := j_s1_some h
  simpa using hn
theorem s_lenset2 {ls l1 : j_L} {k nL : Nat} {v : j_V} (hn : ls.length = nL) (h : j_s2 ls k v = some l1) : l1.length = nL := by
  obtain ⟨-, -, rfl⟩ := j_s2_some h
  simpa using hn
theorem s_kd_ne {h : j_H} {a c n : Nat} (e : j_kd h a = some (c, n)) (h34 : c ≠ 34) (h0 : c ≠ 0) : h.1[a]? = some (c, n) := by
  rcases s_kd e with h1 | ⟨-, h1⟩
  · exact h1
  · obtain ⟨i, hi, rfl⟩ := s_kc_in h1
    rcases s_kc_all i hi c n h1 with h2 | h2
    · exact absurd h2.1 h34
    · exact absurd h2.1 h0
/-- a nest mate's field is none of a text's -/
theorem j_fn_0 {t : Nat × Nat × Nat × Nat × Nat × Nat} {own : String} {ix c0 b : Nat} {host : String} {r0 : vw_C} (ht : t ∈ j_fn) (e : j_fnw t = Cond.fieldLinkNest own ix (r0.2.1 b).1 (r0.2.1 b).2.1 (r0.2.1 b).2.2.1 host) (hr : vwCl[c0]? = some r0) : c0 ≠ 0 := by
  intro h0
  subst h0
  cases (show some (RJ0, TJ0, 4) = some r0 from hr)
  have h1 : j_fn.all (fun t => match j_fnw t with | .fieldLinkNest _ _ C _ _ _ => decide (C ≠ "java/lang/String") | _ => true) = true := by decide +kernel
  have h2 := List.all_eq_true.mp h1 t ht
  rw [e] at h2
  have h3 : (TJ0 b).1 = "java/lang/String" := by
    unfold TJ0
    split <;> rfl
  have h4 : decide ((TJ0 b).1 ≠ "java/lang/String") = true := h2
  exact absurd h3 (of_decide_eq_true h4)
/-- a final field is its own class's -/
theorem x_fin {ci k : Nat} {r : vw_C} (hr : vwCl[ci]? = some r) (hk : k < r.2.2) (hf : (r.2.1 k).2.2.2 = true) : (r.2.1 k).1 = r.1 := by
  rcases (s_cl hr).2.2.1 k hk with h1 | rfl
  · exact h1
  · cases (show some (RJ4, TJ4, 4) = some r from hr)
    have h3 : (TJ4 k).2.2.2 = false := by
      unfold TJ4
      split <;> rfl
    have hf : (TJ4 k).2.2.2 = true := hf
    rw [h3] at hf
    cases hf
theorem x_vrc {a : Nat} {mq : j_M} (hm : j_meth[a]? = some mq) (h : mq.1 = j_asb mq.1 ∨ a = 287) : j_rcv mq.2.2.2.2.1 = 1 := by
  rcases h with h | h
  · have h1 : j_meth.all (fun q => decide (q.1.cls ≠ "java/lang/AbstractStringBuilder") || q.2.2.2.2.1 == 16) = true := by decide +kernel
    have h2 := List.all_eq_true.mp h1 mq (List.mem_of_getElem? hm)
    have h3 : mq.1.cls = "java/lang/AbstractStringBuilder" := by rw [h]; rfl
    rw [h3] at h2
    have h4 : mq.2.2.2.2.1 = 16 := by simpa using h2
    rw [h4]
    rfl
  · subst h
    cases (show some (yJ4_length_8abf5, cJ4_length_8abf5, 1, some .int, 1, 0, 0) = some mq from hm)
    rfl
section SS
variable {p : Program} {l : Launch} {e : Env} {R : Room} {s : State} {m : MethodId} {args : Array Value} {below : List Frame} {meth : Method} {c : Code} {Q : State → Prop} {D : va_G} {b : Nat} {tt : Nat → Nat} {L sb nL zc zs mc ms pc : Nat} {xs : Nat → Int32} {ρ0 : j_P} {q : j_M} {ls : j_L} {st r : List j_V} {h : j_H}
/-- whose method is called -/
theorem s_recv (hC : s_C p s m args meth c R q b tt L sb xs nL) {H : Heap} {locs : List Loc} {tys : List (ClassId × FieldType)} {ws : va_W} (hS : s_St D b tt L sb xs s h H locs tys ws) {A ci N q1 : Nat} (hA : j_kd h A = some (ci, N)) (hci : ci < 13) (hq : s_ρ b tt ws A = some q1) : ∃ r1 : vw_C, vwCl[ci]? = some r1 ∧ ∃ cell : Cell, H[q1]? = some cell ∧ cell.vm.isStatics = false ∧ s.vm.findClass r1.1 = some cell.cls := by
  rcases s_kd hA with hA | ⟨hA, hkc⟩
  · obtain ⟨k0, fs, r1, rfl, hwk, hr1, -, -⟩ := s_w_obj hS.1 hA (by omega) hq
    exact ⟨r1, hr1, va_recv hS.2.2.1 hS.2.1 hr1 hwk⟩
  · obtain ⟨ha1, rfl, -⟩ := s_w_k hS.1 hA hq
    obtain ⟨rfl, i, hi, rfl⟩ := s_kc0 hkc hci
    refine ⟨(RJ0, TJ0, 4), rfl, ?_⟩
    rw [show 1000000 + 2 * i - 999999 = 1 + 2 * i by omega]
    exact va_Orecv (hC.2.2.2.2.2.2.2.2.2.2.2.2.2.2.2.1.2.2.2.2.2.1 i hi).1 hS.2.2.2.2
/-- behind a call -/
theorem s_back {w : j_Z} {k1 k2 : Nat} {H : Heap} {locs : List Loc} {cells slots : Nat} {ws : va_W} {tys : List (ClassId × FieldType)} {lsR : Array Slot} {rl : List (Option Value)} {st0 rest : List Value} {a : Array Value}
    (K : s_G D b tt L sb xs s ρ0 nL zc zs mc ms m (fun H locs cells slots g => W p l e R s m args below meth c H locs cells slots Q g) (pc + 3) ls (w.1.toList ++ r) w.2) (hS : s_St D b tt L sb xs s h H locs tys ws) (hx : ∀ a q : Nat, ρ0 a = some q → s_ρ b tt ws a = some q) (hl : s_lo (s_ρ b tt ws) ls rl) (hv : lv_has lsR nL (s_as 0 rl)) (hr : s_st (s_ρ b tt ws) r rest)
    (hc : cells + k1 + zc = mc + w.2.1.length) (hs : slots + k2 + zs = ms + s_sl w.2)
    (run : va_Run p l e R s m args below meth c H locs cells slots k1 k2 (F0 m pc lsR st0) rest (s_Q D b tt L sb xs (s_ρ b tt ws) w.2 w.1 a) (s_A sb)) : W p l e R s m args below meth c H locs cells slots Q (F0 m pc lsR st0) := by
  refine r_call run hS.2.2.2.2 (fun ov H1 locs1 ws1 tys1 ho hS1 hρ => ?_)
  exact K H1 locs1 _ _ ws1 tys1 lsR rl _ hS1 (fun a q h1 => hρ a q (hx a q h1)) (s_lo_mono hρ hl) hv (s_ov_st ho (s_st_mono hρ hr)) hc hs
set_option maxHeartbeats 8000000 in
theorem s_step {d n y : Nat} {z : j_Z} (hsp : ¬ j_spc y) (hC : s_C p s m args meth c R q b tt L sb xs nL) (hq : j_meth[y]? = some q) (hRm : d + 1 ≤ R.frames ∧ 124 + 32 * d ≤ R.locals) (hRc : mc ≤ R.cells) (hRs : ms ≤ R.slots) (hzc : zc = z.2.1.length) (hzs : zs = s_sl z.2) (IH : s_IH l D b tt L sb xs d)
    (RI : ∀ (pc : Nat) (H : Heap) (locs : List Loc) (cells slots : Nat) (ws : va_W) (tys : List (ClassId × FieldType)) (lsR : Array Slot) (v : Int32), decode q.2.1 pc = .ok (.ireturn, 1) → (j_ret y = 1 ∨ (j_ret y = 3 ∧ (v = 0 ∨ v = 1)) ∨ (j_ret y = 4 ∧ -128 ≤ v.toInt ∧ v.toInt ≤ 127) ∨ (j_ret y = 5 ∧ 0 ≤ v.toInt ∧ v.toInt ≤ 65535)) → s_St D b tt L sb xs s z.2 H locs tys ws → (∀ a q : Nat, ρ0 a = some q → s_ρ b tt ws a = some q) → s_ov (s_ρ b tt ws) z.1 (some (.int v)) → cells = mc → slots = ms → W p l e R s m args below meth c H locs cells slots Q (F0 m pc lsR [.int v]))
    (RA : ∀ (pc : Nat) (H : Heap) (locs : List Loc) (cells slots : Nat) (ws : va_W) (tys : List (ClassId × FieldType)) (lsR : Array Slot) (v : Nat), decode q.2.1 pc = .ok (.areturn, 1) → j_ret y = 6 → s_St D b tt L sb xs s z.2 H locs tys ws → (∀ a q : Nat, ρ0 a = some q → s_ρ b tt ws a = some q) → s_ov (s_ρ b tt ws) z.1 (some (.ref v)) → cells = mc → slots = ms → W p l e R s m args below meth c H locs cells slots Q (F0 m pc lsR [.ref v]))
    (RL : ∀ (pc : Nat) (H : Heap) (locs : List Loc) (cells slots : Nat) (ws : va_W) (tys : List (ClassId × FieldType)) (lsR : Array Slot) (v : Int64), decode q.2.1 pc = .ok (.lreturn, 1) → j_ret y = 2 → s_St D b tt L sb xs s z.2 H locs tys ws → (∀ a q : Nat, ρ0 a = some q → s_ρ b tt ws a = some q) → s_ov (s_ρ b tt ws) z.1 (some (.long v)) → cells = mc → slots = ms → W p l e R s m args below meth c H locs cells slots Q (F0 m pc lsR [.long v]))
    (RV : ∀ (pc : Nat) (H : Heap) (locs : List Loc) (cells slots : Nat) (ws : va_W) (tys : List (ClassId × FieldType)) (lsR : Array Slot), decode q.2.1 pc = .ok (.return_, 1) → j_ret y = 0 → s_St D b tt L sb xs s z.2 H locs tys ws → (∀ a q : Nat, ρ0 a = some q → s_ρ b tt ws a = some q) → s_ov (s_ρ b tt ws) z.1 none → cells = mc → slots = ms → W p l e R s m args below meth c H locs cells slots Q (F0 m pc lsR []))
    (K : ∀ (pc : Nat) (ls : j_L) (st : List j_V) (h : j_H), j_run (c_call d) n y pc ls st h = some z → ls.length = nL → s_G D b tt L sb xs s ρ0 nL zc zs mc ms m (fun H locs cells slots g => W p l e R s m args below meth c H locs cells slots Q g) pc ls st h) (hn : ls.length = nL)
    (e00 : j_step y pc ls st h none (fun pc ls st h => j_run (c_call d) n y pc ls st h) (fun v h => some (v, h)) (fun k as r => (c_call d k as h).bind fun z => j_run (c_call d) n y (pc + 3) ls (z.1.toList ++ r) z.2) = some z) : s_G D b tt L sb xs s ρ0 nL zc zs mc ms m (fun H locs cells slots g => W p l e R s m args below meth c H locs cells slots Q g) pc ls st h := by
  unfold j_step at e00
  obtain ⟨⟨i, a, b0, z0⟩, hat, e0⟩ := i_op e00
  clear e00
  obtain ⟨⟨n0, hdg, hln⟩, hax⟩ := x_at hsp hq hat
  have hw := s_words hC
  have hcall : ∀ k as h z, c_call d k as h = some z → s_ge h z.2 := fun k as h z hz => c_call_cnt hz
  cases i
  case iadd =>
    dsimp only at e0 hdg hln hax
    have hn0 : n0 = 1 := by simpa [j_ln] using hln
    subst hn0
    obtain ⟨x, y1, r, rfl, e1⟩ := i_bI e0
    exact r_iadd hC hdg (K _ _ _ _ e1 hn)
  case isub =>
    dsimp only at e0 hdg hln hax
    have hn0 : n0 = 1 := by simpa [j_ln] using hln
    subst hn0
    obtain ⟨x, y1, r, rfl, e1⟩ := i_bI e0
    exact r_isub hC hdg (K _ _ _ _ e1 hn)
  case imul =>
    dsimp only at e0 hdg hln hax
    have hn0 : n0 = 1 := by simpa [j_ln] using hln
    subst hn0
    obtain ⟨x, y1, r, rfl, e1⟩ := i_bI e0
    exact r_imul hC hdg (K _ _ _ _ e1 hn)
  case iand =>
    dsimp only at e0 hdg hln hax
    have hn0 : n0 = 1 := by simpa [j_ln] using hln
    subst hn0
    obtain ⟨x, y1, r, rfl, e1⟩ := i_bI e0
    exact r_iand hC hdg (K _ _ _ _ e1 hn)
  case ixor =>
    dsimp only at e0 hdg hln hax
    have hn0 : n0 = 1 := by simpa [j_ln] using hln
    subst hn0
    obtain ⟨x, y1, r, rfl, e1⟩ := i_bI e0
    exact r_ixor hC hdg (K _ _ _ _ e1 hn)
  case iushr =>
    dsimp only at e0 hdg hln hax
    have hn0 : n0 = 1 := by simpa [j_ln] using hln
    subst hn0
    obtain ⟨x, y1, r, rfl, e1⟩ := i_bI e0
    exact r_iushr hC hdg (K _ _ _ _ e1 hn)
  case ladd =>
    dsimp only at e0 hdg hln hax
    have hn0 : n0 = 1 := by simpa [j_ln] using hln
    subst hn0
    obtain ⟨x, y1, r, rfl, e1⟩ := i_bL e0
    exact r_ladd hC hdg (K _ _ _ _ e1 hn)
  case lsub =>
    dsimp only at e0 hdg hln hax
    have hn0 : n0 = 1 := by simpa [j_ln] using hln
    subst hn0
    obtain ⟨x, y1, r, rfl, e1⟩ := i_bL e0
    exact r_lsub hC hdg (K _ _ _ _ e1 hn)
  case lmul =>
    dsimp only at e0 hdg hln hax
    have hn0 : n0 = 1 := by simpa [j_ln] using hln
    subst hn0
    obtain ⟨x, y1, r, rfl, e1⟩ := i_bL e0
    exact r_lmul hC hdg (K _ _ _ _ e1 hn)
  case land =>
    dsimp only at e0 hdg hln hax
    have hn0 : n0 = 1 := by simpa [j_ln] using hln
    subst hn0
    obtain ⟨x, y1, r, rfl, e1⟩ := i_bL e0
    exact r_land hC hdg (K _ _ _ _ e1 hn)
  case lor =>
    dsimp only at e0 hdg hln hax
    have hn0 : n0 = 1 := by simpa [j_ln] using hln
    subst hn0
    obtain ⟨x, y1, r, rfl, e1⟩ := i_bL e0
    exact r_lor hC hdg (K _ _ _ _ e1 hn)
  case lxor =>
    dsimp only at e0 hdg hln hax
    have hn0 : n0 = 1 := by simpa [j_ln] using hln
    subst hn0
    obtain ⟨x, y1, r, rfl, e1⟩ := i_bL e0
    exact r_lxor hC hdg (K _ _ _ _ e1 hn)
  case lcmp =>
    dsimp only at e0 hdg hln hax
    have hn0 : n0 = 1 := by simpa [j_ln] using hln
    subst hn0
    obtain ⟨x, y1, r, rfl, e1⟩ := i_bL e0
    exact r_lcmp hC hdg (K _ _ _ _ e1 hn)
  case idiv =>
    dsimp only at e0 hdg hln hax
    have hn0 : n0 = 1 := by simpa [j_ln] using hln
    subst hn0
    obtain ⟨x, y1, r, rfl, e1⟩ := i_bI e0
    split at e1
    · cases e1
    · rename_i hy1
      exact r_idiv hC hy1 hdg (K _ _ _ _ e1 hn)
  case irem =>
    dsimp only at e0 hdg hln hax
    have hn0 : n0 = 1 := by simpa [j_ln] using hln
    subst hn0
    obtain ⟨x, y1, r, rfl, e1⟩ := i_bI e0
    split at e1
    · cases e1
    · rename_i hy1
      exact r_irem hC hy1 hdg (K _ _ _ _ e1 hn)
  case ldiv =>
    dsimp only at e0 hdg hln hax
    have hn0 : n0 = 1 := by simpa [j_ln] using hln
    subst hn0
    obtain ⟨x, y1, r, rfl, e1⟩ := i_bL e0
    split at e1
    · cases e1
    · rename_i hy1
      exact r_ldiv hC hy1 hdg (K _ _ _ _ e1 hn)
  case lrem =>
    dsimp only at e0 hdg hln hax
    have hn0 : n0 = 1 := by simpa [j_ln] using hln
    subst hn0
    obtain ⟨x, y1, r, rfl, e1⟩ := i_bL e0
    split at e1
    · cases e1
    · rename_i hy1
      exact r_lrem hC hy1 hdg (K _ _ _ _ e1 hn)
  case lshl =>
    dsimp only at e0 hdg hln hax
    have hn0 : n0 = 1 := by simpa [j_ln] using hln
    subst hn0
    split at e0
    · exact r_lshl hC hdg (K _ _ _ _ e0 hn)
    · cases e0
  case ineg =>
    dsimp only at e0 hdg hln hax
    have hn0 : n0 = 1 := by simpa [j_ln] using hln
    subst hn0
    obtain ⟨x, r, rfl, e1⟩ := i_uI e0
    exact r_ineg hC hdg (K _ _ _ _ e1 hn)
  case i2l =>
    dsimp only at e0 hdg hln hax
    have hn0 : n0 = 1 := by simpa [j_ln] using hln
    subst hn0
    obtain ⟨x, r, rfl, e1⟩ := i_uI e0
    exact r_i2l hC hdg (K _ _ _ _ e1 hn)
  case i2b =>
    dsimp only at e0 hdg hln hax
    have hn0 : n0 = 1 := by simpa [j_ln] using hln
    subst hn0
    obtain ⟨x, r, rfl, e1⟩ := i_uI e0
    exact r_i2b hC hdg (K _ _ _ _ e1 hn)
  case i2s =>
    dsimp only at e0 hdg hln hax
    have hn0 : n0 = 1 := by simpa [j_ln] using hln
    subst hn0
    obtain ⟨x, r, rfl, e1⟩ := i_uI e0
    exact r_i2s hC hdg (K _ _ _ _ e1 hn)
  case lneg =>
    dsimp only at e0 hdg hln hax
    have hn0 : n0 = 1 := by simpa [j_ln] using hln
    subst hn0
    obtain ⟨x, r, rfl, e1⟩ := i_uL e0
    exact r_lneg hC hdg (K _ _ _ _ e1 hn)
  case l2i =>
    dsimp only at e0 hdg hln hax
    have hn0 : n0 = 1 := by simpa [j_ln] using hln
    subst hn0
    obtain ⟨x, r, rfl, e1⟩ := i_uL e0
    exact r_l2i hC hdg (K _ _ _ _ e1 hn)
  case iconst n1 =>
    dsimp only at e0 hdg hln hax
    have hn0 : n0 = 1 := by simpa [j_ln] using hln
    subst hn0
    unfold j_ax at hax
    simp only [Bool.and_eq_true, beq_iff_eq] at hax
    exact r_iconst hC (by rw [hax.2, hax.1]) hdg (K _ _ _ _ e0 hn)
  case bipush n1 =>
    dsimp only at e0 hdg hln hax
    have hn0 : n0 = 2 := by simpa [j_ln] using hln
    subst hn0
    unfold j_ax at hax
    simp only [Bool.and_eq_true, beq_iff_eq] at hax
    exact r_bipush hC hax.2 hdg (K _ _ _ _ e0 hn)
  case sipush n1 =>
    dsimp only at e0 hdg hln hax
    have hn0 : n0 = 3 := by simpa [j_ln] using hln
    subst hn0
    unfold j_ax at hax
    simp only [Bool.and_eq_true, beq_iff_eq] at hax
    exact r_sipush hC hax.2 hdg (K _ _ _ _ e0 hn)
  case lconst n1 =>
    dsimp only at e0 hdg hln hax
    have hn0 : n0 = 1 := by simpa [j_ln] using hln
    subst hn0
    unfold j_ax at hax
    simp only [beq_iff_eq] at hax
    exact r_lconst hC hax.symm hdg (K _ _ _ _ e0 hn)
  case ldc ix =>
    dsimp only at e0 hdg hln hax
    have hn0 : n0 = 2 := by simpa [j_ln] using hln
    subst hn0
    unfold j_ax at hax
    simp only [Bool.or_eq_true, Bool.and_eq_true, beq_iff_eq] at hax
    rcases hax with (rfl | ⟨rfl, hax⟩) | ⟨rfl, hax⟩
    · rw [if_neg (by decide), if_neg (by decide)] at e0; cases e0
    · rw [if_pos rfl] at e0
      have h1 := x_kt0 (by simpa using hax)
      exact r_ldc hC h1.2 (hw _ h1.1) hdg (K _ _ _ _ e0 hn)
    · rw [if_neg (by decide), if_pos rfl] at e0
      obtain ⟨x, hx0, hix, ho, hk⟩ := x_st (by simpa using hax)
      exact r_ldcS hC hx0 hk hix ho hdg (K _ _ _ _ e0 hn)
  case ldc_w ix =>
    dsimp only at e0 hdg hln hax
    have hn0 : n0 = 3 := by simpa [j_ln] using hln
    subst hn0
    unfold j_ax at hax
    simp only [Bool.or_eq_true, Bool.and_eq_true, beq_iff_eq] at hax
    rcases hax with rfl | ⟨rfl, hax⟩
    · rw [if_neg (by decide)] at e0; cases e0
    · rw [if_pos rfl] at e0
      have h1 := x_kt0 (by simpa using hax)
      exact r_ldc_w hC h1.2 (hw _ h1.1) hdg (K _ _ _ _ e0 hn)
  case ldc2_w ix =>
    dsimp only at e0 hdg hln hax
    have hn0 : n0 = 3 := by simpa [j_ln] using hln
    subst hn0
    unfold j_ax at hax
    have h1 := x_kt1 hax
    exact r_ldc2_w hC h1.2 (hw _ h1.1) hdg (K _ _ _ _ e0 hn)
  case iload_n k =>
    dsimp only at e0 hdg hln hax
    have hn0 : n0 = 1 := by simpa [j_ln] using hln
    subst hn0
    split at e0
    · rename_i hld
      exact r_iload_n hC hld hdg (K _ _ _ _ e0 hn)
    · cases e0
  case iload k =>
    dsimp only at e0 hdg hln hax
    have hn0 : n0 = 2 := by simpa [j_ln] using hln
    subst hn0
    split at e0
    · rename_i hld
      exact r_iload hC hld hdg (K _ _ _ _ e0 hn)
    · cases e0
  case lload_n k =>
    dsimp only at e0 hdg hln hax
    have hn0 : n0 = 1 := by simpa [j_ln] using hln
    subst hn0
    split at e0
    · rename_i hld
      exact r_lload_n hC hld hdg (K _ _ _ _ e0 hn)
    · cases e0
  case lload k =>
    dsimp only at e0 hdg hln hax
    have hn0 : n0 = 2 := by simpa [j_ln] using hln
    subst hn0
    split at e0
    · rename_i hld
      exact r_lload hC hld hdg (K _ _ _ _ e0 hn)
    · cases e0
  case aload_n k =>
    dsimp only at e0 hdg hln hax
    have hn0 : n0 = 1 := by simpa [j_ln] using hln
    subst hn0
    split at e0
    · rename_i hld
      exact r_aload_n hC hld hdg (K _ _ _ _ e0 hn)
    · cases e0
  case aload k =>
    dsimp only at e0 hdg hln hax
    have hn0 : n0 = 2 := by simpa [j_ln] using hln
    subst hn0
    split at e0
    · rename_i hld
      exact r_aload hC hld hdg (K _ _ _ _ e0 hn)
    · cases e0
  case istore_n k =>
    dsimp only at e0 hdg hln hax
    have hn0 : n0 = 1 := by simpa [j_ln] using hln
    subst hn0
    obtain ⟨x, r, rfl, e1⟩ := i_uI e0
    obtain ⟨l1, hl1, e1⟩ := i_op e1
    exact r_istore_n hC hn hl1 hdg (K _ _ _ _ e1 (s_lenset hn hl1))
  case istore k =>
    dsimp only at e0 hdg hln hax
    have hn0 : n0 = 2 := by simpa [j_ln] using hln
    subst hn0
    obtain ⟨x, r, rfl, e1⟩ := i_uI e0
    obtain ⟨l1, hl1, e1⟩ := i_op e1
    exact r_istore hC hn hl1 hdg (K _ _ _ _ e1 (s_lenset hn hl1))
  case lstore_n k =>
    dsimp only at e0 hdg hln hax
    have hn0 : n0 = 1 := by simpa [j_ln] using hln
    subst hn0
    obtain ⟨x, r, rfl, e1⟩ := i_uL e0
    obtain ⟨l1, hl1, e1⟩ := i_op e1
    exact r_lstore_n hC hn hl1 hdg (K _ _ _ _ e1 (s_lenset2 hn hl1))
  case lstore k =>
    dsimp only at e0 hdg hln hax
    have hn0 : n0 = 2 := by simpa [j_ln] using hln
    subst hn0
    obtain ⟨x, r, rfl, e1⟩ := i_uL e0
    obtain ⟨l1, hl1, e1⟩ := i_op e1
    exact r_lstore hC hn hl1 hdg (K _ _ _ _ e1 (s_lenset2 hn hl1))
  case astore_n k =>
    dsimp only at e0 hdg hln hax
    have hn0 : n0 = 1 := by simpa [j_ln] using hln
    subst hn0
    split at e0
    · obtain ⟨l1, hl1, e1⟩ := i_op e0
      exact r_astore_n hC hn hl1 hdg (K _ _ _ _ e1 (s_lenset hn hl1))
    · cases e0
  case astore k =>
    dsimp only at e0 hdg hln hax
    have hn0 : n0 = 2 := by simpa [j_ln] using hln
    subst hn0
    split at e0
    · obtain ⟨l1, hl1, e1⟩ := i_op e0
      exact r_astore hC hn hl1 hdg (K _ _ _ _ e1 (s_lenset hn hl1))
    · cases e0
  case ishl =>
    dsimp only at e0 hdg hln hax
    have hn0 : n0 = 1 := by simpa [j_ln] using hln
    subst hn0
    obtain ⟨x, y1, r, rfl, e1⟩ := i_bI e0
    exact r_ishl hC hdg (K _ _ _ _ e1 hn)
  case ishr =>
    dsimp only at e0 hdg hln hax
    have hn0 : n0 = 1 := by simpa [j_ln] using hln
    subst hn0
    obtain ⟨x, y1, r, rfl, e1⟩ := i_bI e0
    exact r_ishr hC hdg (K _ _ _ _ e1 hn)
  case i2c =>
    dsimp only at e0 hdg hln hax
    have hn0 : n0 = 1 := by simpa [j_ln] using hln
    subst hn0
    obtain ⟨x, r, rfl, e1⟩ := i_uI e0
    exact r_i2c hC hdg (K _ _ _ _ e1 hn)
  case pop =>
    dsimp only at e0 hdg hln hax
    have hn0 : n0 = 1 := by simpa [j_ln] using hln
    subst hn0
    split at e0
    · split at e0
      · rename_i hc1
        exact r_pop hC hc1 hdg (K _ _ _ _ e0 hn)
      · cases e0
    · cases e0
  case dup_x1 =>
    dsimp only at e0 hdg hln hax
    have hn0 : n0 = 1 := by simpa [j_ln] using hln
    subst hn0
    split at e0
    · split at e0
      · rename_i hc1
        exact r_dup_x1 hC hc1.1 hc1.2 hdg (K _ _ _ _ e0 hn)
      · cases e0
    · cases e0
  case ifnonnull off =>
    dsimp only at e0 hdg hln hax
    have hn0 : n0 = 3 := by simpa [j_ln] using hln
    subst hn0
    unfold j_ax at hax
    simp only [beq_iff_eq] at hax
    split at e0
    · exact r_ifnonnull hC hax hdg (K _ _ _ _ e0 hn)
    · cases e0
  case checkcast ix =>
    dsimp only at e0 hdg hln hax
    have hn0 : n0 = 3 := by simpa [j_ln] using hln
    subst hn0
    unfold j_ax at hax
    simp only [Bool.and_eq_true, beq_iff_eq] at hax
    obtain ⟨ho, rfl⟩ := hax
    have hm := j_misc2
    simp only [Bool.and_eq_true] at hm
    split at e0
    · obtain ⟨N, hA, e1⟩ := i_ob e0
      exact r_castB hC hA (by rw [ho]; exact j_has_mem hm.1) hdg (K _ _ _ _ e1 hn)
    · cases e0
  case iinc k n1 =>
    dsimp only at e0 hdg hln hax
    have hn0 : n0 = 3 := by simpa [j_ln] using hln
    subst hn0
    unfold j_ax at hax
    simp only [beq_iff_eq] at hax
    split at e0
    · rename_i hld
      obtain ⟨l1, hl1, e1⟩ := i_op e0
      exact r_iinc hC hn hax hld hl1 hdg (K _ _ _ _ e1 (s_lenset hn hl1))
    · cases e0
  case dup =>
    dsimp only at e0 hdg hln hax
    have hn0 : n0 = 1 := by simpa [j_ln] using hln
    subst hn0
    split at e0
    · split at e0
      · rename_i hc1
        exact r_dup hC hc1 hdg (K _ _ _ _ e0 hn)
      · cases e0
    · cases e0
  case dup2 =>
    dsimp only at e0 hdg hln hax
    have hn0 : n0 = 1 := by simpa [j_ln] using hln
    subst hn0
    split at e0
    · exact r_dup2_2 hC hdg (K _ _ _ _ e0 hn)
    · split at e0
      · rename_i hc1
        exact r_dup2_1 hC hc1.1 hc1.2 hdg (K _ _ _ _ e0 hn)
      · cases e0
    · cases e0
  case goto off =>
    dsimp only at e0 hdg hln hax
    have hn0 : n0 = 3 := by simpa [j_ln] using hln
    subst hn0
    unfold j_ax at hax
    simp only [beq_iff_eq] at hax
    exact r_goto hC hax hdg (K _ _ _ _ e0 hn)
  case ifCond cd off =>
    dsimp only at hdg hln hax
    have hn0 : n0 = 3 := by simpa [j_ln] using hln
    subst hn0
    unfold j_ax at hax
    simp only [beq_iff_eq] at hax
    cases cd
    case eq =>
      dsimp only at e0
      obtain ⟨x, r, rfl, e1, e2⟩ := i_if e0
      exact r_if_eq hC hax hdg (fun hh => K _ _ _ _ (e1 hh) hn) (fun hh => K _ _ _ _ (e2 hh) hn)
    case ne =>
      dsimp only at e0
      obtain ⟨x, r, rfl, e1, e2⟩ := i_if e0
      exact r_if_ne hC hax hdg (fun hh => K _ _ _ _ (e1 hh) hn) (fun hh => K _ _ _ _ (e2 hh) hn)
    case lt =>
      dsimp only at e0
      obtain ⟨x, r, rfl, e1, e2⟩ := i_if e0
      exact r_if_lt hC hax hdg (fun hh => K _ _ _ _ (e1 hh) hn) (fun hh => K _ _ _ _ (e2 hh) hn)
    case ge =>
      dsimp only at e0
      obtain ⟨x, r, rfl, e1, e2⟩ := i_if e0
      exact r_if_ge hC hax hdg (fun hh => K _ _ _ _ (e1 hh) hn) (fun hh => K _ _ _ _ (e2 hh) hn)
    case gt =>
      dsimp only at e0
      obtain ⟨x, r, rfl, e1, e2⟩ := i_if e0
      exact r_if_gt hC hax hdg (fun hh => K _ _ _ _ (e1 hh) hn) (fun hh => K _ _ _ _ (e2 hh) hn)
    case le =>
      dsimp only at e0
      obtain ⟨x, r, rfl, e1, e2⟩ := i_if e0
      exact r_if_le hC hax hdg (fun hh => K _ _ _ _ (e1 hh) hn) (fun hh => K _ _ _ _ (e2 hh) hn)
  case if_icmp cd off =>
    dsimp only at hdg hln hax
    have hn0 : n0 = 3 := by simpa [j_ln] using hln
    subst hn0
    unfold j_ax at hax
    simp only [beq_iff_eq] at hax
    cases cd
    case eq =>
      dsimp only at e0
      obtain ⟨x, y1, r, rfl, e1, e2⟩ := i_if2 e0
      exact r_icmp_eq hC hax hdg (fun hh => K _ _ _ _ (e1 hh) hn) (fun hh => K _ _ _ _ (e2 hh) hn)
    case ne =>
      dsimp only at e0
      obtain ⟨x, y1, r, rfl, e1, e2⟩ := i_if2 e0
      exact r_icmp_ne hC hax hdg (fun hh => K _ _ _ _ (e1 hh) hn) (fun hh => K _ _ _ _ (e2 hh) hn)
    case lt =>
      dsimp only at e0
      obtain ⟨x, y1, r, rfl, e1, e2⟩ := i_if2 e0
      exact r_icmp_lt hC hax hdg (fun hh => K _ _ _ _ (e1 hh) hn) (fun hh => K _ _ _ _ (e2 hh) hn)
    case ge =>
      dsimp only at e0
      obtain ⟨x, y1, r, rfl, e1, e2⟩ := i_if2 e0
      exact r_icmp_ge hC hax hdg (fun hh => K _ _ _ _ (e1 hh) hn) (fun hh => K _ _ _ _ (e2 hh) hn)
    case gt =>
      dsimp only at e0
      obtain ⟨x, y1, r, rfl, e1, e2⟩ := i_if2 e0
      exact r_icmp_gt hC hax hdg (fun hh => K _ _ _ _ (e1 hh) hn) (fun hh => K _ _ _ _ (e2 hh) hn)
    case le =>
      dsimp only at e0
      obtain ⟨x, y1, r, rfl, e1, e2⟩ := i_if2 e0
      exact r_icmp_le hC hax hdg (fun hh => K _ _ _ _ (e1 hh) hn) (fun hh => K _ _ _ _ (e2 hh) hn)
  case tableswitch dd lo hi offs =>
    dsimp only at e0 hdg hln hax
    obtain ⟨x, r, rfl, e1⟩ := i_uI e0
    refine r_tsw hC hdg (fun h1 h2 => ?_) (fun o h1 h2 ho => ?_) (fun h1 => ?_)
    · rw [if_pos ⟨h1, h2⟩] at e1
      obtain ⟨o, ho, -⟩ := i_op e1
      exact ⟨o, ho⟩
    · rw [if_pos ⟨h1, h2⟩] at e1
      obtain ⟨o2, ho2, e2⟩ := i_op e1
      cases ho.symm.trans ho2
      split at e2
      · rename_i h3
        exact ⟨_, (Int.toNat_of_nonneg h3).symm, K _ _ _ _ e2 hn⟩
      · cases e2
    · rw [if_neg h1] at e1
      split at e1
      · rename_i h3
        exact ⟨_, (Int.toNat_of_nonneg h3).symm, K _ _ _ _ e1 hn⟩
      · cases e1
  case iaload =>
    dsimp only at e0 hdg hln hax
    have hn0 : n0 = 1 := by simpa [j_ln] using hln
    subst hn0
    obtain ⟨a1, i1, r, rfl, e1⟩ := i_el e0
    obtain ⟨N, hA, hi, e2⟩ := i_rg e1
    exact r_iaload hC hA hi hdg (K _ _ _ _ e2 hn)
  case laload =>
    dsimp only at e0 hdg hln hax
    have hn0 : n0 = 1 := by simpa [j_ln] using hln
    subst hn0
    obtain ⟨a1, i1, r, rfl, e1⟩ := i_el e0
    obtain ⟨N, hA, hi, e2⟩ := i_rg e1
    exact r_laload hC hA hi hdg (K _ _ _ _ e2 hn)
  case baload =>
    dsimp only at e0 hdg hln hax
    have hn0 : n0 = 1 := by simpa [j_ln] using hln
    subst hn0
    obtain ⟨a1, i1, r, rfl, e1⟩ := i_el e0
    split at e1
    · rename_i cc N hA
      split at e1
      · rename_i h1
        exact r_baload hC hA h1.1 h1.2 hdg (K _ _ _ _ e1 hn)
      · cases e1
    · cases e1
  case aaload =>
    dsimp only at e0 hdg hln hax
    have hn0 : n0 = 1 := by simpa [j_ln] using hln
    subst hn0
    obtain ⟨a1, i1, r, rfl, e1⟩ := i_el e0
    obtain ⟨N, hA, hi, e2⟩ := i_rg e1
    obtain ⟨A, hrf, e3⟩ := i_op e2
    exact r_aaload hC hA hi hrf hdg (K _ _ _ _ e3 hn)
  case iastore =>
    dsimp only at e0 hdg hln hax
    have hn0 : n0 = 1 := by simpa [j_ln] using hln
    subst hn0
    obtain ⟨a1, i1, x, r, rfl, e1⟩ := i_sI e0
    split at e1
    · cases e1
    · rename_i h2
      obtain ⟨N, hA, hi, e2⟩ := i_rg e1
      exact r_iastore hC (by omega) hA hi hdg (K _ _ _ _ e2 hn)
  case lastore =>
    dsimp only at e0 hdg hln hax
    have hn0 : n0 = 1 := by simpa [j_ln] using hln
    subst hn0
    obtain ⟨a1, i1, x, r, rfl, e1⟩ := i_sL e0
    split at e1
    · cases e1
    · rename_i h2
      obtain ⟨N, hA, hi, e2⟩ := i_rg e1
      exact r_lastore hC (by omega) hA hi hdg (K _ _ _ _ e2 hn)
  case bastore =>
    dsimp only at e0 hdg hln hax
    have hn0 : n0 = 1 := by simpa [j_ln] using hln
    subst hn0
    obtain ⟨a1, i1, x, r, rfl, e1⟩ := i_sI e0
    split at e1
    · cases e1
    · rename_i h2
      split at e1
      · rename_i cc N hA
        split at e1
        · rename_i hi
          split at e1
          · rename_i h3
            subst h3
            exact r_bastore_b hC (by omega) hA hi hdg (K _ _ _ _ e1 hn)
          · split at e1
            · rename_i h3
              have hA2 : h.1[a1]? = some (35, N) := by rw [hA, h3.1]
              exact r_bastore_z hC (by omega) hA2 hi h3.2 hdg (K _ _ _ _ e1 hn)
            · cases e1
        · cases e1
      · cases e1
  case arraylength =>
    dsimp only at e0 hdg hln hax
    have hn0 : n0 = 1 := by simpa [j_ln] using hln
    subst hn0
    split at e0
    · split at e0
      · rename_i cc N hA
        split at e0
        · rename_i h1
          exact r_alen hC hA h1 hdg (K _ _ _ _ e0 hn)
        · cases e0
      · cases e0
    · cases e0
  case getfield ix =>
    dsimp only at e0 hdg hln hax
    have hn0 : n0 = 3 := by simpa [j_ln] using hln
    subst hn0
    unfold j_ax at hax
    simp only [Bool.or_eq_true] at hax
    split at e0
    · obtain ⟨N, hA, e1'⟩ := i_obk e0
      obtain ⟨hk1, e1⟩ := i_fk e1'
      obtain ⟨v, hv0, e2⟩ := i_get e1
      rcases hax with hax | hax
      · obtain ⟨r0, hr, hk, hlk⟩ := x_ft hax
        exact r_getf hC hA hr hk hk1 (Or.inl hlk) hv0 hdg (K _ _ _ _ e2 hn)
      · obtain ⟨r0, t, hr, hk, ht, htw⟩ := x_fn hax
        exact r_getf hC hA hr hk hk1 (Or.inr ⟨⟨_, by rw [← htw]; exact va_Nw.use rfl (hC.2.2.2.2.2.2.2.2.2.2.2.2.1 t ht)⟩, j_fn_0 ht htw hr⟩) hv0 hdg (K _ _ _ _ e2 hn)
    · cases e0
  case putfield ix =>
    dsimp only at e0 hdg hln hax
    have hn0 : n0 = 3 := by simpa [j_ln] using hln
    subst hn0
    unfold j_ax at hax
    simp only [Bool.or_eq_true, Bool.and_eq_true, Bool.not_eq_true', beq_iff_eq] at hax
    split at e0
    · obtain ⟨N, hA, e1⟩ := i_ob e0
      obtain ⟨h1, hp, e2⟩ := i_put e1
      rcases hax with ⟨hax, hf⟩ | ⟨hax, hf⟩
      · obtain ⟨r0, hr, hk, hlk⟩ := x_ft (by simpa using hax)
        unfold j_fin? at hf
        rw [hr] at hf
        refine r_putf hC hA hr hk (Or.inl ⟨hlk, ?_⟩) hp hdg (K _ _ _ _ e2 hn)
        cases hfin : (r0.2.1 b0).2.2.2 with
        | false => exact Or.inl rfl
        | true =>
          right
          simp only [hfin] at hf
          rcases hf with hf | hf
          · cases hf
          · exact ⟨hf.1, by rw [← hf.2, (s_cl hr).2.2.2.2.2.2.2]; exact (x_fin hr hk hfin).symm, rfl⟩
      · obtain ⟨r0, t, hr, hk, ht, htw⟩ := x_fn (by simpa using hax)
        unfold j_fin? at hf
        rw [hr] at hf
        exact r_putf hC hA hr hk (Or.inr ⟨⟨_, by rw [← htw]; exact va_Nw.use rfl (hC.2.2.2.2.2.2.2.2.2.2.2.2.1 t ht)⟩, hf⟩) hp hdg (K _ _ _ _ e2 hn)
    · cases e0
  case getstatic ix =>
    dsimp only at e0 hdg hln hax
    have hn0 : n0 = 3 := by simpa [j_ln] using hln
    subst hn0
    unfold j_ax at hax
    simp only [Bool.or_eq_true, Bool.and_eq_true, beq_iff_eq, bne_iff_ne] at hax
    rcases hax with ⟨rfl, hax | hax⟩ | ⟨h99, hax⟩
    · rw [if_pos rfl] at e0
      exact r_gets hC (Or.inl (x_fs (by simpa using hax))) hdg (K _ _ _ _ e0 hn)
    · rw [if_pos rfl] at e0
      obtain ⟨t, ht, htw⟩ := x_fsn (by simpa using hax)
      exact r_gets hC (Or.inr ⟨_, by rw [← htw]; exact va_Nw.use rfl (hC.2.2.2.2.2.2.2.2.2.2.2.2.2.1 t ht)⟩) hdg (K _ _ _ _ e0 hn)
    · rcases x_gs (by simpa using hax) with ⟨rfl, hlk⟩ | ⟨rfl, hlk⟩ | ⟨rfl, hlk⟩
      · rw [if_neg (by decide), if_pos rfl] at e0
        exact r_getsC hC hlk hw hdg (K _ _ _ _ e0 hn)
      · rw [if_neg (by decide), if_neg (by decide), if_pos (by decide)] at e0
        exact r_getsO hC hlk hw hdg (K _ _ _ _ e0 hn)
      · rw [if_neg (by decide), if_neg (by decide), if_pos (by decide)] at e0
        exact r_getsT hC hlk hw hdg (K _ _ _ _ e0 hn)
  case new ix =>
    dsimp only at e0 hdg hln hax
    have hn0 : n0 = 3 := by simpa [j_ln] using hln
    subst hn0
    unfold j_ax at hax
    simp only [Bool.or_eq_true, beq_iff_eq] at hax
    split at e0
    · rename_i h13
      rcases hax with rfl | hax
      · exact absurd h13.1 (by decide)
      obtain ⟨r0, hr, hcl⟩ := x_ct (by simpa using hax)
      have hcz : j_cz a = r0.2.2 := by unfold j_cz; rw [hr]
      rw [hcz] at e0
      have hge := j_run_cnt hcall e0
      obtain ⟨g1, g2⟩ := hge
      rw [s_new_cnt.1] at g1
      rw [s_new_cnt.2] at g2
      exact r_new hC hr hcl h13.2 (by omega) (by omega) hRc hRs hdg (K _ _ _ _ e0 hn)
    · cases e0
  case newarray t =>
    dsimp only at e0 hdg hln hax
    have hn0 : n0 = 2 := by simpa [j_ln] using hln
    subst hn0
    obtain ⟨x, r, rfl, e1⟩ := i_uI e0
    split at e1
    · rename_i hx
      have hge := j_run_cnt hcall e1
      obtain ⟨g1, g2⟩ := hge
      rw [s_new_cnt.1] at g1
      rw [s_new_cnt.2] at g2
      have hm := j_misc
      simp only [Bool.and_eq_true] at hm
      obtain ⟨m1, m2, m3, m4, m5, m6, m7, m8, m9, m10⟩ := hm
      cases t
      case int => exact r_newa_int hC (j_has_mem m6) ⟨hx.2.1, hx.2.2.1⟩ hx.2.2.2 (by omega) (by omega) hRc hRs hdg (K _ _ _ _ e1 hn)
      case long => exact r_newa_long hC (j_has_mem m7) ⟨hx.2.1, hx.2.2.1⟩ hx.2.2.2 (by omega) (by omega) hRc hRs hdg (K _ _ _ _ e1 hn)
      case byte => exact r_newa_byte hC (j_has_mem m8) ⟨hx.2.1, hx.2.2.1⟩ hx.2.2.2 (by omega) (by omega) hRc hRs hdg (K _ _ _ _ e1 hn)
      case boolean => exact r_newa_boolean hC (j_has_mem m9) ⟨hx.2.1, hx.2.2.1⟩ hx.2.2.2 (by omega) (by omega) hRc hRs hdg (K _ _ _ _ e1 hn)
      all_goals exact absurd hx.1 (by decide)
    · cases e1
  case multianewarray ix dm =>
    dsimp only at e0 hdg hln hax
    have hn0 : n0 = 4 ∧ dm = 2 := by simpa [j_ln] using hln
    obtain ⟨rfl, rfl⟩ := hn0
    unfold j_ax at hax
    simp only [Bool.and_eq_true, beq_iff_eq] at hax
    obtain ⟨ho, rfl⟩ := hax
    split at e0
    · split at e0
      · rename_i hx
        have hge := j_run_cnt hcall e0
        obtain ⟨g1, g2⟩ := hge
        rw [s_mna_cnt.1] at g1
        rw [s_mna_cnt.2] at g2
        have hm := j_misc
        simp only [Bool.and_eq_true] at hm
        obtain ⟨m1, m2, m3, m4, m5, m6, m7, m8, m9, m10⟩ := hm
        exact r_mna hC ho (j_has_mem m10) (j_has_mem m7) ⟨hx.1.1, hx.1.2.1, hx.1.2.2.1, hx.1.2.2.2.1⟩ hx.1.2.2.2.2 hx.2 (by omega) (by omega) hRc hRs hdg (K _ _ _ _ e0 hn)
      · cases e0
    · cases e0
  case ireturn =>
    dsimp only at e0 hdg hln hax
    have hn0 : n0 = 1 := by simpa [j_ln] using hln
    subst hn0
    split at e0
    · rename_i x
      have key : z = (some (jI x), h) ∧ (j_ret y = 1 ∨ (j_ret y = 3 ∧ (x = 0 ∨ x = 1)) ∨ (j_ret y = 4 ∧ -128 ≤ x ∧ x ≤ 127) ∨ (j_ret y = 5 ∧ 0 ≤ x ∧ x ≤ 65535)) := by
        split at e0
        · cases e0; exact ⟨rfl, Or.inl (by assumption)⟩
        · split at e0
          · rename_i h3
            split at e0
            · cases e0; exact ⟨rfl, Or.inr (Or.inl ⟨h3, by assumption⟩)⟩
            · cases e0
          · split at e0
            · rename_i h3
              split at e0
              · cases e0; exact ⟨rfl, Or.inr (Or.inr (Or.inl ⟨h3, by assumption⟩))⟩
              · cases e0
            · split at e0
              · rename_i h3
                split at e0
                · cases e0; exact ⟨rfl, Or.inr (Or.inr (Or.inr ⟨h3, by assumption⟩))⟩
                · cases e0
              · cases e0
      obtain ⟨hz, hx0⟩ := key
      subst hz
      intro H locs cells slots ws tys lsR rl stR hS hx hl hv hst hc hs
      obtain ⟨w1, zz, rfl, ⟨n1, rfl, e1⟩, hzz⟩ := s_st1 hst
      have hzz : zz = [] := by
        cases zz with
        | nil => rfl
        | cons a b => exact hzz.elim
      subst hzz
      refine RI pc H locs cells slots ws tys lsR n1 hdg ?_ hS hx ⟨n1, rfl, e1⟩ (by rw [hzc] at hc; simp only at hc; omega) (by rw [hzs] at hs; simp only at hs; omega)
      rcases hx0 with h1 | ⟨h1, h2 | h2⟩ | ⟨h1, h2⟩ | ⟨h1, h2⟩
      · exact Or.inl h1
      · exact Or.inr (Or.inl ⟨h1, Or.inl (Int32.toInt_inj.mp (e1.trans h2))⟩)
      · exact Or.inr (Or.inl ⟨h1, Or.inr (Int32.toInt_inj.mp (e1.trans h2))⟩)
      · exact Or.inr (Or.inr (Or.inl ⟨h1, by rw [e1]; exact h2⟩))
      · exact Or.inr (Or.inr (Or.inr ⟨h1, by rw [e1]; exact h2⟩))
    · cases e0
  case areturn =>
    dsimp only at e0 hdg hln hax
    have hn0 : n0 = 1 := by simpa [j_ln] using hln
    subst hn0
    split at e0
    · rename_i x
      split at e0
      · rename_i h1
        cases e0
        intro H locs cells slots ws tys lsR rl stR hS hx hl hv hst hc hs
        obtain ⟨w1, zz, rfl, ⟨n1, rfl, e1⟩, hzz⟩ := s_st1 hst
        have hzz : zz = [] := by
          cases zz with
          | nil => rfl
          | cons a b => exact hzz.elim
        subst hzz
        exact RA pc H locs cells slots ws tys lsR n1 hdg h1 hS hx ⟨n1, rfl, e1⟩ (by rw [hzc] at hc; simp only at hc; omega) (by rw [hzs] at hs; simp only at hs; omega)
      · cases e0
    · cases e0
  case lreturn =>
    dsimp only at e0 hdg hln hax
    have hn0 : n0 = 1 := by simpa [j_ln] using hln
    subst hn0
    split at e0
    · rename_i x
      split at e0
      · rename_i h1
        cases e0
        intro H locs cells slots ws tys lsR rl stR hS hx hl hv hst hc hs
        obtain ⟨w1, zz, rfl, ⟨n1, rfl, e1⟩, hzz⟩ := s_st1 hst
        have hzz : zz = [] := by
          cases zz with
          | nil => rfl
          | cons a b => exact hzz.elim
        subst hzz
        exact RL pc H locs cells slots ws tys lsR n1 hdg h1 hS hx ⟨n1, rfl, e1⟩ (by rw [hzc] at hc; simp only at hc; omega) (by rw [hzs] at hs; simp only at hs; omega)
      · cases e0
    · cases e0
  case return_ =>
    dsimp only at e0 hdg hln hax
    have hn0 : n0 = 1 := by simpa [j_ln] using hln
    subst hn0
    split at e0
    · split at e0
      · rename_i h1
        cases e0
        intro H locs cells slots ws tys lsR rl stR hS hx hl hv hst hc hs
        have hzz : stR = [] := by
          cases stR with
          | nil => rfl
          | cons a b => exact hst.elim
        subst hzz
        exact RV pc H locs cells slots ws tys lsR hdg h1 hS hx trivial (by rw [hzc] at hc; simp only at hc; omega) (by rw [hzs] at hs; simp only at hs; omega)
      · cases e0
    · cases e0
  case invokevirtual ix =>
    dsimp only at e0 hdg hln hax
    have hn0 : n0 = 3 := by simpa [j_ln] using hln
    subst hn0
    unfold j_ax at hax
    dsimp only at hax
    rw [Bool.or_eq_true, Bool.or_eq_true] at hax
    split at e0
    · rename_i A r hdrop
      split at e0
      · rename_i ha
        rw [ha] at hax
        have hax : (q.2.2.2.2.1 == 15 && (ix == 310 && b0 == 0)) = true := by
          rcases hax with (hax | hax) | hax
          · exact absurd hax (by decide)
          · simpa using hax
          · exact absurd hax (by simp)
        simp only [Bool.and_eq_true, beq_iff_eq] at hax
        obtain ⟨ho, rfl, rfl⟩ := hax
        rw [List.drop_zero] at hdrop
        subst hdrop
        have hm := j_misc2
        simp only [Bool.and_eq_true] at hm
        obtain ⟨m1, m2, m3, m4, m5, m6, m7⟩ := hm
        split at e0
        · rename_i cc N hA
          split at e0
          · rename_i hc1
            obtain ⟨⟨rfl, hbt⟩, hlt, hcat⟩ := hc1
            obtain ⟨g1, g2⟩ := j_run_cnt hcall e0
            rw [s_cln_cnt.1] at g1
            rw [s_cln_cnt.2] at g2
            exact r_clone hC hA hbt hlt hcat (by rw [ho]; exact j_has_mem m2) (j_has_mem m3) (j_has_mem m4) (j_has_mem m5) (j_has_mem m6) (by omega) (by omega) hRc hRs hdg (K _ _ _ _ e0 hn)
          · cases e0
        · cases e0
      · rename_i ha
        rcases hax with (hax | hax) | hax
        · have h97 : a = 9997 := by simpa using hax
          rw [h97, List.getElem?_eq_none (by rw [j_len.1]; decide)] at e0
          cases e0
        · rw [Bool.and_eq_true] at hax
          exact absurd (by simpa using hax.1) ha
        rw [Bool.and_eq_true, Bool.and_eq_true] at hax
        obtain ⟨-, hcal, hax⟩ := hax
        obtain ⟨mq, hmq⟩ := x_cal_some hcal
        obtain ⟨hkd, hnp, h271, hE1, hE2⟩ := x_cal hcal hmq
        have h3 : mq.2.2.2.2.2.1 ≠ 3 := by rw [hkd]; decide
        rw [hmq] at e0
        dsimp only at e0
        obtain ⟨N, hA, e1⟩ := i_obk e0
        split at e1
        · rename_i hcat
          obtain ⟨w, hw1, e2⟩ := i_bind e1
          obtain ⟨k1, k2, k3, k4, k5, k6, -, -⟩ := s_mok hmq h271 h3
          obtain ⟨k7, k8, k9, k10⟩ := k6 hkd
          rw [if_neg (by omega), Nat.add_zero] at k4
          intro H locs cells slots ws tys lsR rl stR hS hx hl hv hst hc hs
          obtain ⟨hge1, hge2⟩ := hcall _ _ _ _ hw1
          obtain ⟨hge3, hge4⟩ := j_run_cnt hcall e2
          have hfix : CallFix p m c q.2.1 nL s args lwW (j_cnm q.2.2.2.2.1) := ⟨hC.1, hC.2.1, hC.2.2.1, hC.2.2.2.1, hw⟩
          have hst2 := (s_st_take (n := b0) hst).2
          rw [hdrop] at hst2
          obtain ⟨w1, rest, hR, ⟨q1, rfl, hq1⟩, hrest⟩ := s_st1 hst2
          have hlen : b0 ≤ st.length := by
            rcases Nat.lt_or_ge st.length b0 with h1 | h1
            · rw [List.drop_eq_nil_of_le (by omega)] at hdrop
              cases hdrop
            · exact h1
          have hAs : s_st (s_ρ b tt ws) (st.take b0).reverse (stR.take b0).reverse := s_st_rev (s_st_take hst).1
          have hM := IH _ _ _ _ hw1 h271 mq hmq h3 ws tys (.ref q1 :: (stR.take b0).reverse) [] (Or.inl ⟨rfl, hE1, hE2⟩) hS.1 ⟨⟨q1, rfl, hq1⟩, hAs⟩
          rw [List.append_nil] at hM
          have hloc : 8 + (mq.2.2.1 + 11) + (92 + 32 * d) ≤ R.locals := by omega
          have hstk : stR = (stR.take b0).reverse.reverse ++ .ref q1 :: rest := by rw [List.reverse_reverse, ← hR, List.take_append_drop]
          have hln2 : (stR.take b0).reverse.length = b0 := by
            have := s_st_len hst
            simp
            omega
          rw [Bool.or_eq_true] at hax
          rcases hax with hax | hax
          · rw [Bool.and_eq_true] at hax
            obtain ⟨hp1, hp2⟩ := x_pl hax.2 hmq
            have hlk := x_mt hax.1
            rw [x_mnm hmq] at hlk
            have hrcv : j_rcv mq.2.2.2.2.1 = mq.2.2.2.2.1 := if_neg (by omega)
            rw [hrcv] at hA
            obtain ⟨r1, hr1, hrec⟩ := s_recv hC hS hA hp1 hq1
            have hcls : mq.1.cls = r1.1 := k3.trans (s_cl hr1).2.2.2.2.2.2.2
            refine s_back (K _ _ _ _ e2 hn) hS hx hl hv hrest (by omega) (by omega) (va_runV (As := (stR.take b0).reverse) hfix hM (cwV b0 hw (s_good (fun v hv => ?_)) rfl rfl rfl ⟨rfl, k4.1, k4.2.1, by rw [k4.2.2, hnp]⟩ ⟨hRm.1, hloc⟩) ⟨s_blind, by rw [hcls]; exact hrec, fun U hU hW => s_start hC hS U hU hW⟩ rfl hln2 (hv.1) hstk (lv_room (by rw [s_st_cat hrest]; exact hcat)) hdg ⟨by omega, by omega⟩)
            unfold wsV at hv
            rcases List.mem_append.mp hv with hv | hv
            · simp only [List.mem_cons, List.not_mem_nil, or_false] at hv
              rcases hv with rfl | rfl | rfl | rfl
              · exact hlk
              · exact k7
              · exact k8 hp1 hp2
              · exact k2
            · exact (k1 v hv).1
          · obtain ⟨v1, v2, v3, v4⟩ := x_vu hax
            rw [x_mnm hmq] at v1 v2 v3 v4
            have hrcv : j_rcv mq.2.2.2.2.1 = 1 := x_vrc hmq v4
            rw [hrcv] at hA
            obtain ⟨r1, hr1, hrec⟩ := s_recv hC hS hA (by decide) hq1
            cases (show some (RJ4, TJ4, 4) = some r1 from hr1)
            rcases v4 with v4 | v4
            · refine s_back (K _ _ _ _ e2 hn) hS hx hl hv hrest (by omega) (by omega) (va_runU (As := (stR.take b0).reverse) hfix hM (va_cwU (C := "java/lang/StringBuilder") (owner := "java/lang/AbstractStringBuilder") (x := j_asb mq.1) b0 hw (s_good (fun v hv => ?_)) rfl rfl rfl v4 ⟨by decide, by decide, by rw [show (j_asb mq.1).desc = mq.1.desc from rfl, k4.2.2, hnp]⟩ ⟨hRm.1, hloc⟩) ⟨s_blind, hrec, fun U hU hW => s_start hC hS U hU hW⟩ rfl hln2 (hv.1) hstk (lv_room (by rw [s_st_cat hrest]; exact hcat)) hdg ⟨by omega, by omega⟩)
              unfold va_wsU at hv
              rcases List.mem_append.mp hv with hv | hv
              · simp only [List.mem_cons, List.not_mem_nil, or_false] at hv
                rcases hv with rfl | rfl | rfl | rfl | rfl
                · exact v1
                · exact v3
                · exact v2
                · exact k7
                · exact k2
              · exact (k1 v hv).1
            · subst v4
              cases (show some (yJ4_length_8abf5, cJ4_length_8abf5, 1, some .int, 1, 0, 0) = some mq from hmq)
              obtain ⟨o1, -, -, -, -, o2, -, -⟩ := s_mok (k := 297) (mq := (yJ5_length_8abf5, cJ5_length_8abf5, 1, some .int, 16, 0, 0)) rfl (by decide) (by decide)
              have o3 := (o2 rfl).1
              have o4 : Cond.code yJ5_length_8abf5 cJ5_length_8abf5 1 (some .int) ∈ lwW := (o1 _ List.mem_cons_self).1
              refine s_back (K _ _ _ _ e2 hn) hS hx hl hv hrest (by omega) (by omega) (va_runU (As := (stR.take b0).reverse) hfix hM (va_cwO (C := "java/lang/StringBuilder") (owner := "java/lang/AbstractStringBuilder") (x := j_asb yJ4_length_8abf5) b0 hw (s_good (fun v hv => ?_)) rfl rfl rfl (b0 := cJ5_length_8abf5) (m0 := 1) (r0 := some .int) o4 ⟨by decide, by decide, by rw [show (j_asb yJ4_length_8abf5).desc = yJ4_length_8abf5.desc from rfl, k4.2.2, hnp]⟩ ⟨hRm.1, hloc⟩) ⟨s_blind, hrec, fun U hU hW => s_start hC hS U hU hW⟩ rfl hln2 (hv.1) hstk (lv_room (by rw [s_st_cat hrest]; exact hcat)) hdg ⟨by omega, by omega⟩)
              unfold va_wsO at hv
              rcases List.mem_append.mp hv with hv | hv
              · simp only [List.mem_cons, List.not_mem_nil, or_false] at hv
                rcases hv with rfl | rfl | rfl | rfl | rfl | rfl
                · exact v1
                · exact v3
                · exact o3
                · exact v2
                · exact k7
                · exact k2
              · exact (k1 v hv).1
        · cases e1
    · cases e0
  case invokespecial ix =>
    dsimp only at e0 hdg hln hax
    have hn0 : n0 = 3 := by simpa [j_ln] using hln
    subst hn0
    unfold j_ax at hax
    dsimp only at hax
    rw [Bool.or_eq_true] at hax
    split at e0
    · cases e0
    rename_i h97
    have hax := hax.resolve_left (by simpa using h97)
    split at e0
    · rename_i A r hdrop
      split at e0
      · rename_i hcat
        split at e0
        · rename_i ha
          rw [ha] at hax
          have hax : (j_mt.any (fun t => t.1 == q.2.2.2.2.1 && t.2.1 == ix && t.2.2.1 == 9998) && b0 == 0) = true := by simpa using hax
          simp only [Bool.and_eq_true, beq_iff_eq] at hax
          obtain ⟨hax, rfl⟩ := hax
          have hlk := x_mt (by simpa using hax)
          have hm := j_misc
          simp only [Bool.and_eq_true] at hm
          obtain ⟨m1, m2, m3, m4, m5, m6, m7, m8, m9, m10⟩ := hm
          rw [List.drop_zero] at hdrop
          subst hdrop
          intro H locs cells slots ws tys lsR rl stR hS hx hl hv hst hc hs
          obtain ⟨w1, zz, rfl, ⟨q1, rfl, e1⟩, hzz⟩ := s_st1 hst
          exact W.objInit hC.1 hC.2.1 hC.2.2.2.1 (hw _ hlk) (hw _ (j_has_mem m1)) (hw _ (j_has_mem m2)) rfl (hv.1.trans hC.2.2.1.symm) rfl hdg hC.2.2.2.2.2.2.2.1 (by
            have h8 := s_st_cat hzz
            have h40 := hC.2.2.2.2.2.2.1
            show 2 * 0 + _ + 12 ≤ _
            omega) (K _ _ _ _ e0 hn H locs cells slots ws tys lsR rl zz hS hx hl hv hzz hc hs)
        · rename_i ha
          have h9 : (a == 9998) = false := by simpa using ha
          rw [h9] at hax
          rw [if_neg (by decide), Bool.or_eq_true] at hax
          rcases hax with hax | hax
          · rw [Bool.and_eq_true, Bool.or_eq_true] at hax
            obtain ⟨mq, hmq⟩ := x_cal_some hax.2
            obtain ⟨hkd, hnp, h271, hE1, hE2⟩ := x_cal hax.2 hmq
            have h3 : mq.2.2.2.2.2.1 ≠ 3 := by rw [hkd]; decide
            unfold j_obs at e0
            rw [hmq] at e0
            dsimp only at e0
            rw [if_pos hkd] at e0
            obtain ⟨w, hw1, e2⟩ := i_bind e0
            obtain ⟨k1, k2, k3, k4, k5, -, -, k6⟩ := s_mok hmq h271 h3
            rw [if_neg (by omega), Nat.add_zero] at k4
            obtain ⟨k7, k8, k9⟩ := k6 hkd
            intro H locs cells slots ws tys lsR rl stR hS hx hl hv hst hc hs
            obtain ⟨hge1, hge2⟩ := hcall _ _ _ _ hw1
            obtain ⟨hge3, hge4⟩ := j_run_cnt hcall e2
            have hfix : CallFix p m c q.2.1 nL s args lwW (j_cnm q.2.2.2.2.1) := ⟨hC.1, hC.2.1, hC.2.2.1, hC.2.2.2.1, hw⟩
            have hst2 := (s_st_take (n := b0) hst).2
            rw [hdrop] at hst2
            obtain ⟨w1, rest, hR, ⟨q1, rfl, hq1⟩, hrest⟩ := s_st1 hst2
            have hlen : b0 ≤ st.length := by
              rcases Nat.lt_or_ge st.length b0 with h1 | h1
              · rw [List.drop_eq_nil_of_le (by omega)] at hdrop
                cases hdrop
              · exact h1
            have hAs : s_st (s_ρ b tt ws) (st.take b0).reverse (stR.take b0).reverse := s_st_rev (s_st_take hst).1
            have hM := IH _ _ _ _ hw1 h271 mq hmq h3 ws tys (.ref q1 :: (stR.take b0).reverse) [] (Or.inl ⟨rfl, hE1, hE2⟩) hS.1 ⟨⟨q1, rfl, hq1⟩, hAs⟩
            rw [List.append_nil] at hM
            have hwsq : s_ws mq = Cond.code mq.1 mq.2.1 mq.2.2.1 none :: lwW := by unfold s_ws; rw [k9]
            have hloc : 8 + (mq.2.2.1 + 11) + (92 + 32 * d) ≤ R.locals := by omega
            have hstk : stR = (stR.take b0).reverse.reverse ++ .ref q1 :: rest := by rw [List.reverse_reverse, ← hR, List.take_append_drop]
            have hln2 : (stR.take b0).reverse.length = b0 := by
              have := s_st_len hst
              simp
              omega
            rcases hax.1 with hax1 | hax1
            · have hlk := x_mt hax1
              rw [x_mnm hmq] at hlk
              exact s_back (K _ _ _ _ e2 hn) hS hx hl hv hrest (by omega) (by omega) (va_runI (As := (stR.take b0).reverse) hfix hM (cwI b0 hw k1 hwsq rfl rfl (hw _ k2) (hw _ hlk) (hw _ k7) k8 ⟨k4.1, k4.2.1, by rw [k4.2.2, hnp]⟩ ⟨hRm.1, hloc⟩) ⟨s_blind, fun U hU hW => s_start hC hS U hU hW⟩ rfl hln2 (hv.1) hstk (lv_room (by rw [s_st_cat hrest]; exact hcat)) hdg ⟨by omega, by omega⟩)
            · obtain ⟨t, ht, htw⟩ := x_mn hax1
              rw [x_mnm hmq] at htw
              exact s_back (K _ _ _ _ e2 hn) hS hx hl hv hrest (by omega) (by omega) (va_runIN (As := (stR.take b0).reverse) hfix hM ⟨va_cnB b0 hw k1 hwsq rfl rfl (by rw [← htw]; exact hC.2.2.2.2.2.2.2.2.2.2.2.2.2.2.1 t ht) (hw _ k2) ⟨k4.1, k4.2.1, by rw [k4.2.2, hnp]⟩ ⟨hRm.1, hloc⟩, k8, hw _ k7⟩ ⟨s_blind, fun U hU hW => s_start hC hS U hU hW⟩ rfl hln2 (hv.1) hstk (lv_room (by rw [s_st_cat hrest]; exact hcat)) hdg ⟨by omega, by omega⟩)
          · rw [Bool.and_eq_true, Bool.and_eq_true, Bool.and_eq_true, beq_iff_eq] at hax
            obtain ⟨hmt, hcal, ho, hsu⟩ := hax
            obtain ⟨mq, hmq⟩ := x_cal_some hcal
            obtain ⟨hkd, hnp, h271, hE1, hE2⟩ := x_cal hcal hmq
            have h3 : mq.2.2.2.2.2.1 ≠ 3 := by rw [hkd]; decide
            unfold j_obs at e0
            rw [hmq] at e0
            dsimp only at e0
            rw [if_neg (by rw [hkd]; decide)] at e0
            have h16 := x_sup hsu hmq
            obtain ⟨N, hA, e1⟩ := i_obk e0
            rw [h16] at hA
            obtain ⟨w, hw1, e2⟩ := i_bind e1
            obtain ⟨k1, k2, k3, k4, k5, k6, -, -⟩ := s_mok hmq h271 h3
            rw [if_neg (by omega), Nat.add_zero] at k4
            obtain ⟨k7, -, k9, k10⟩ := k6 hkd
            intro H locs cells slots ws tys lsR rl stR hS hx hl hv hst hc hs
            obtain ⟨hge1, hge2⟩ := hcall _ _ _ _ hw1
            obtain ⟨hge3, hge4⟩ := j_run_cnt hcall e2
            have hfix : CallFix p m c q.2.1 nL s args lwW (j_cnm q.2.2.2.2.1) := ⟨hC.1, hC.2.1, hC.2.2.1, hC.2.2.2.1, hw⟩
            have hst2 := (s_st_take (n := b0) hst).2
            rw [hdrop] at hst2
            obtain ⟨w1, rest, hR, ⟨q1, rfl, hq1⟩, hrest⟩ := s_st1 hst2
            have hlen : b0 ≤ st.length := by
              rcases Nat.lt_or_ge st.length b0 with h1 | h1
              · rw [List.drop_eq_nil_of_le (by omega)] at hdrop
                cases hdrop
              · exact h1
            have hAs : s_st (s_ρ b tt ws) (st.take b0).reverse (stR.take b0).reverse := s_st_rev (s_st_take hst).1
            have hM := IH _ _ _ _ hw1 h271 mq hmq h3 ws tys (.ref q1 :: (stR.take b0).reverse) [] (Or.inl ⟨rfl, hE1, hE2⟩) hS.1 ⟨⟨q1, rfl, hq1⟩, hAs⟩
            rw [List.append_nil] at hM
            have hloc : 8 + (mq.2.2.1 + 11) + (92 + 32 * d) ≤ R.locals := by omega
            have hstk : stR = (stR.take b0).reverse.reverse ++ .ref q1 :: rest := by rw [List.reverse_reverse, ← hR, List.take_append_drop]
            have hln2 : (stR.take b0).reverse.length = b0 := by
              have := s_st_len hst
              simp
              omega
            obtain ⟨r1, hr1, hrec⟩ := s_recv hC hS hA (by decide) hq1
            cases (show some (RJ4, TJ4, 4) = some r1 from hr1)
            have hlk := x_mt hmt
            rw [x_mnm hmq] at hlk
            have hcl : mq.1.cls = "java/lang/AbstractStringBuilder" := by rw [k3, h16]; rfl
            have hm := j_misc2
            simp only [Bool.and_eq_true] at hm
            refine s_back (K _ _ _ _ e2 hn) hS hx hl hv hrest (by omega) (by omega) (va_runSU (As := (stR.take b0).reverse) (C := "java/lang/StringBuilder") (hS.2.2.1.1 1 _ hr1).2 hfix hM (va_cwSU b0 hw (s_good (fun v hv => ?_)) rfl rfl rfl ⟨k9, by rw [k4.2.2, hnp]⟩ ⟨hRm.1, hloc⟩) ⟨s_blind, hrec, fun U hU hW => s_start hC hS U hU hW⟩ rfl hln2 (hv.1) hstk (lv_room (by rw [s_st_cat hrest]; exact hcat)) hdg ⟨by omega, by omega⟩)
            unfold va_wsSU at hv
            rcases List.mem_append.mp hv with hv | hv
            · simp only [List.mem_cons, List.not_mem_nil, or_false] at hv
              rcases hv with rfl | rfl | rfl | rfl | rfl
              · exact hlk
              · rcases k10 with k10 | k10
                · omega
                · exact k10.2
              · rw [ho, hcl]
                exact j_has_mem hm.2.2.2.2.2.2
              · exact k7
              · exact k2
            · exact (k1 v hv).1
      · cases e0
    · cases e0
  case invokestatic ix =>
    dsimp only at e0 hdg hln hax
    have hn0 : n0 = 3 := by simpa [j_ln] using hln
    subst hn0
    unfold j_ax at hax
    dsimp only at hax
    rw [Bool.or_eq_true] at hax
    split at e0
    · cases e0
    rename_i h97
    have hax := hax.resolve_left (by simpa using h97)
    split at e0
    · rename_i ha
      rw [ha] at hax
      have hax : (j_mt.any (fun t => t.1 == q.2.2.2.2.1 && t.2.1 == ix && t.2.2.1 == 9999)) = true := by simpa using hax
      have hlk := x_mt hax
      have hm := j_misc
      simp only [Bool.and_eq_true] at hm
      obtain ⟨m1, m2, m3, m4, m5, m6, m7, m8, m9, m10⟩ := hm
      split at e0
      · split at e0
        · rename_i cc n0' dd n1' hA hB
          split at e0
          · rename_i hcond
            split at e0
            · rename_i hi
              obtain ⟨hc32, hcd, ha2, hb2, hcat⟩ := hcond
              subst hcd
              rcases hc32 with rfl | rfl | ⟨rfl, hbt⟩
              · exact r_cpy_int hC hlk (j_has_mem m3) (j_has_mem m4) (j_has_mem m5) ha2 hb2 (s_kd_ne hA (by decide) (by decide)) hB hi hcat hdg (K _ _ _ _ e0 hn)
              · exact r_cpy_long hC hlk (j_has_mem m3) (j_has_mem m4) (j_has_mem m5) ha2 hb2 (s_kd_ne hA (by decide) (by decide)) hB hi hcat hdg (K _ _ _ _ e0 hn)
              · exact r_cpy_byte hC hlk (j_has_mem m3) (j_has_mem m4) (j_has_mem m5) ha2 hb2 hA hB hbt hi hcat hdg (K _ _ _ _ e0 hn)
            · cases e0
          · cases e0
        · cases e0
      · cases e0
    · rename_i ha
      have hax : ((j_mt.any (fun t => t.1 == q.2.2.2.2.1 && t.2.1 == ix && t.2.2.1 == a) || j_mn.any (fun t => t.1 == q.2.2.2.2.1 && t.2.1 == ix && t.2.2.1 == a)) && j_cal a 1 b0) = true := by
        have h9 : (a == 9999) = false := by simpa using ha
        rw [h9] at hax
        exact hax
      rw [Bool.and_eq_true, Bool.or_eq_true] at hax
      split at e0
      · rename_i hcat
        obtain ⟨mq, hmq⟩ := x_cal_some hax.2
        obtain ⟨hkd, hnp, h271, hE1, hE2⟩ := x_cal hax.2 hmq
        have h3 : mq.2.2.2.2.2.1 ≠ 3 := by rw [hkd]; decide
        obtain ⟨w, hw1, e2⟩ := i_bind e0
        obtain ⟨k1, k2, k3, k4, k5, -, k6, -⟩ := s_mok hmq h271 h3
        rw [if_neg (by omega), Nat.add_zero] at k4
        have k7 := k6 hkd
        intro H locs cells slots ws tys lsR rl stR hS hx hl hv hst hc hs
        obtain ⟨hge1, hge2⟩ := hcall _ _ _ _ hw1
        obtain ⟨hge3, hge4⟩ := j_run_cnt hcall e2
        have hfix : CallFix p m c q.2.1 nL s args lwW (j_cnm q.2.2.2.2.1) := ⟨hC.1, hC.2.1, hC.2.2.1, hC.2.2.2.1, hw⟩
        have hrest := (s_st_take (n := b0) hst).2
        have hAs : s_st (s_ρ b tt ws) (st.take b0).reverse (stR.take b0).reverse := s_st_rev (s_st_take hst).1
        have hM := IH _ _ _ _ hw1 h271 mq hmq h3 ws tys (stR.take b0).reverse [] (Or.inl ⟨rfl, hE1, hE2⟩) hS.1 hAs
        rw [List.append_nil] at hM
        have hloc : 8 + (mq.2.2.1 + 11) + (92 + 32 * d) ≤ R.locals := by omega
        have hstk : stR = (stR.take b0).reverse.reverse ++ stR.drop b0 := by rw [List.reverse_reverse, List.take_append_drop]
        have hln2 : (stR.take b0).reverse.length = b0 := by
          have := s_st_len hst
          simp
          omega
        rcases hax.1 with hax1 | hax1
        · have hlk := x_mt hax1
          rw [x_mnm hmq] at hlk
          refine s_back (K _ _ _ _ e2 hn) hS hx hl hv hrest (by omega) (by omega) (va_runS (As := (stR.take b0).reverse) hfix hM (va_cwS b0 hw (s_good (fun v hv => ?_)) rfl rfl rfl ⟨k4.1, k4.2.1, by rw [k4.2.2, hnp]⟩ ⟨hRm.1, hloc⟩) ⟨s_blind, fun U hU hW => s_start hC hS U hU hW⟩ rfl hln2 (hv.1) hstk (lv_room (by rw [s_st_cat hrest]; exact hcat.2)) hdg ⟨by omega, by omega⟩)
          unfold va_wsS at hv
          rcases List.mem_append.mp hv with hv | hv
          · simp only [List.mem_cons, List.not_mem_nil, or_false] at hv
            rcases hv with rfl | rfl | rfl
            · exact hlk
            · exact k7
            · exact k2
          · exact (k1 v hv).1
        · obtain ⟨t, ht, htw⟩ := x_mn hax1
          rw [x_mnm hmq] at htw
          exact s_back (K _ _ _ _ e2 hn) hS hx hl hv hrest (by omega) (by omega) (va_runSN (As := (stR.take b0).reverse) hfix hM ⟨va_cnB b0 hw k1 rfl rfl rfl (by rw [← htw]; exact hC.2.2.2.2.2.2.2.2.2.2.2.2.2.2.1 t ht) (hw _ k2) ⟨k4.1, k4.2.1, by rw [k4.2.2, hnp]⟩ ⟨hRm.1, hloc⟩, hw _ k7, trivial⟩ ⟨s_blind, fun U hU hW => s_start hC hS U hU hW⟩ rfl hln2 (hv.1) hstk (lv_room (by rw [s_st_cat hrest]; exact hcat.2)) hdg ⟨by omega, by omega⟩)
      · cases e0
  all_goals exact absurd e0 (by simp)
end SS
end
section
/-! Every method of the program meets what the abstract machine says of it. -/
section SX
variable {p : Program} {l : Launch} {e : Env} {R : Room} {s : State} {m : MethodId} {args : Array Value} {below : List Frame} {meth : Method} {c : Code} {Q : State → Prop} {D : va_G} {b : Nat} {tt : Nat → Nat} {L sb nL zc zs mc ms pc : Nat} {xs : Nat → Int32} {ρ0 : j_P} {q : j_M} {ls : j_L} {st r : List j_V} {h : j_H}
theorem s_run {d y : Nat} {z : j_Z} (hsp : ¬ j_spc y) (hC : s_C p s m args meth c R q b tt L sb xs nL) (hq : j_meth[y]? = some q) (hRm : d + 1 ≤ R.frames ∧ 124 + 32 * d ≤ R.locals) (hRc : mc ≤ R.cells) (hRs : ms ≤ R.slots) (hzc : zc = z.2.1.length) (hzs : zs = s_sl z.2) (IH : s_IH l D b tt L sb xs d)
    (RI : ∀ (pc : Nat) (H : Heap) (locs : List Loc) (cells slots : Nat) (ws : va_W) (tys : List (ClassId × FieldType)) (lsR : Array Slot) (v : Int32), decode q.2.1 pc = .ok (.ireturn, 1) → (j_ret y = 1 ∨ (j_ret y = 3 ∧ (v = 0 ∨ v = 1)) ∨ (j_ret y = 4 ∧ -128 ≤ v.toInt ∧ v.toInt ≤ 127) ∨ (j_ret y = 5 ∧ 0 ≤ v.toInt ∧ v.toInt ≤ 65535)) → s_St D b tt L sb xs s z.2 H locs tys ws → (∀ a q : Nat, ρ0 a = some q → s_ρ b tt ws a = some q) → s_ov (s_ρ b tt ws) z.1 (some (.int v)) → cells = mc → slots = ms → W p l e R s m args below meth c H locs cells slots Q (F0 m pc lsR [.int v]))
    (RA : ∀ (pc : Nat) (H : Heap) (locs : List Loc) (cells slots : Nat) (ws : va_W) (tys : List (ClassId × FieldType)) (lsR : Array Slot) (v : Nat), decode q.2.1 pc = .ok (.areturn, 1) → j_ret y = 6 → s_St D b tt L sb xs s z.2 H locs tys ws → (∀ a q : Nat, ρ0 a = some q → s_ρ b tt ws a = some q) → s_ov (s_ρ b tt ws) z.1 (some (.ref v)) → cells = mc → slots = ms → W p l e R s m args below meth c H locs cells slots Q (F0 m pc lsR [.ref v]))
    (RL : ∀ (pc : Nat) (H : Heap) (locs : List Loc) (cells slots : Nat) (ws : va_W) (tys : List (ClassId × FieldType)) (lsR : Array Slot) (v : Int64), decode q.2.1 pc = .ok (.lreturn, 1) → j_ret y = 2 → s_St D b tt L sb xs s z.2 H locs tys ws → (∀ a q : Nat, ρ0 a = some q → s_ρ b tt ws a = some q) → s_ov (s_ρ b tt ws) z.1 (some (.long v)) → cells = mc → slots = ms → W p l e R s m args below meth c H locs cells slots Q (F0 m pc lsR [.long v]))
    (RV : ∀ (pc : Nat) (H : Heap) (locs : List Loc) (cells slots : Nat) (ws : va_W) (tys : List (ClassId × FieldType)) (lsR : Array Slot), decode q.2.1 pc = .ok (.return_, 1) → j_ret y = 0 → s_St D b tt L sb xs s z.2 H locs tys ws → (∀ a q : Nat, ρ0 a = some q → s_ρ b tt ws a = some q) → s_ov (s_ρ b tt ws) z.1 none → cells = mc → slots = ms → W p l e R s m args below meth c H locs cells slots Q (F0 m pc lsR [])) : ∀ (n pc : Nat) (ls : j_L) (st : List j_V) (h : j_H), j_run (c_call d) n y pc ls st h = some z → ls.length = nL → s_G D b tt L sb xs s ρ0 nL zc zs mc ms m (fun H locs cells slots g => W p l e R s m args below meth c H locs cells slots Q g) pc ls st h := by
  intro n
  induction n with
  | zero => intro pc ls st h e; cases e
  | succ n ih =>
    intro pc ls st h e hn
    unfold j_run at e
    exact s_step hsp hC hq hRm hRc hRs hzc hzs IH RI RA RL RV (fun pc ls st h e hn => ih pc ls st h e hn) hn e
theorem j_run_s {C : Nat → List j_V → j_H → Option j_Z} {n y pc : Nat} {ls : j_L} {st : List j_V} {h : j_H} {z : j_Z} (e : j_run C n y pc ls st h = some z) : ∃ k, j_step y pc ls st h none (fun pc ls st h => j_run C k y pc ls st h) (fun v h => some (v, h)) (fun j as r => (C j as h).bind fun z => j_run C k y (pc + 3) ls (z.1.toList ++ r) z.2) = some z := by
  cases n with
  | zero => cases e
  | succ n => exact ⟨n, e⟩
theorem s_rv {n y x1 x2 : Nat} {x3 : Int} {z : j_Z} {C : Nat → List j_V → j_H → Option j_Z} (hat : j_at y pc = some (.return_, x1, x2, x3)) (hdg : decode q.2.1 pc = .ok (.return_, 1)) (hzc : zc = z.2.1.length) (hzs : zs = s_sl z.2)
    (RV : ∀ (pc : Nat) (H : Heap) (locs : List Loc) (cells slots : Nat) (ws : va_W) (tys : List (ClassId × FieldType)) (lsR : Array Slot), decode q.2.1 pc = .ok (.return_, 1) → j_ret y = 0 → s_St D b tt L sb xs s z.2 H locs tys ws → (∀ a q : Nat, ρ0 a = some q → s_ρ b tt ws a = some q) → s_ov (s_ρ b tt ws) z.1 none → cells = mc → slots = ms → W p l e R s m args below meth c H locs cells slots Q (F0 m pc lsR [])) (er : j_run C n y pc ls st h = some z) : s_G D b tt L sb xs s ρ0 nL zc zs mc ms m (fun H locs cells slots g => W p l e R s m args below meth c H locs cells slots Q g) pc ls st h := by
  obtain ⟨k, er⟩ := j_run_s er
  unfold j_step at er
  rw [hat] at er
  simp only [j_op] at er
  split at er
  · split at er
    · rename_i h1
      cases er
      intro H locs cells slots ws tys lsR rl stR hS hx hl hv hst hc hs
      have hzz : stR = [] := by
        cases stR with
        | nil => rfl
        | cons a b => exact hst.elim
      subst hzz
      exact RV pc H locs cells slots ws tys lsR hdg h1 hS hx trivial (by rw [hzc] at hc; simp only at hc; omega) (by rw [hzs] at hs; simp only at hs; omega)
    · cases er
  · cases er
set_option maxHeartbeats 4000000 in
/-- String(StringBuilder): hands nothing on beside -/
theorem s_sp1 {d n y : Nat} {z : j_Z} (hy : y = 276) (hq : j_meth[y]? = some q) (hC : s_C p s m args meth c R q b tt L sb xs nL) (hRm : d + 1 ≤ R.frames ∧ 124 + 32 * d ≤ R.locals) (hRc : mc ≤ R.cells) (hRs : ms ≤ R.slots) (hzc : zc = z.2.1.length) (hzs : zs = s_sl z.2) (IH : s_IH l D b tt L sb xs d)
    (RV : ∀ (pc : Nat) (H : Heap) (locs : List Loc) (cells slots : Nat) (ws : va_W) (tys : List (ClassId × FieldType)) (lsR : Array Slot), decode q.2.1 pc = .ok (.return_, 1) → j_ret y = 0 → s_St D b tt L sb xs s z.2 H locs tys ws → (∀ a q : Nat, ρ0 a = some q → s_ρ b tt ws a = some q) → s_ov (s_ρ b tt ws) z.1 none → cells = mc → slots = ms → W p l e R s m args below meth c H locs cells slots Q (F0 m pc lsR [])) (e0 : j_run (c_call d) n y 0 ls [] h = some z) (hn : ls.length = nL) : s_G D b tt L sb xs s ρ0 nL zc zs mc ms m (fun H locs cells slots g => W p l e R s m args below meth c H locs cells slots Q g) 0 ls [] h := by
  subst hy
  cases (show some (yJ0_init_81219, cJ0_init_81219, 2, none, 0, 2, 1) = some q from hq)
  have hw := s_words hC
  have hcall : ∀ k as h z, c_call d k as h = some z → s_ge h z.2 := fun k as h z hz => c_call_cnt hz
  obtain ⟨n1, e1⟩ := j_run_s e0
  unfold j_step at e1
  rw [show j_at 276 0 = some (.aload_n 0, 0, 0, 0) by decide +kernel] at e1
  simp only [j_op] at e1
  split at e1
  rotate_left
  · cases e1
  rename_i a hla
  refine r_aload_n hC hla (by decide +kernel) ?_
  obtain ⟨n2, e2⟩ := j_run_s e1
  unfold j_step at e2
  rw [show j_at 276 (0 + 1) = some (.aload_n 1, 0, 0, 0) by decide +kernel] at e2
  simp only [j_op] at e2
  split at e2
  rotate_left
  · cases e2
  rename_i a1 hla1
  refine r_aload_n hC hla1 (by decide +kernel) ?_
  obtain ⟨n3, e3⟩ := j_run_s e2
  unfold j_step at e3
  rw [show j_at 276 (0 + 1 + 1) = some (.goto 1, 3, 0, 0) by decide +kernel] at e3
  simp only [j_op] at e3
  obtain ⟨n4, e4⟩ := j_run_s e3
  unfold j_step at e4
  rw [show j_at 276 3 = some (.invokespecial 489, 277, 1, 0) by decide +kernel] at e4
  simp only [j_op] at e4
  have hm : j_meth[277]? = some (yJ0_init_db425, cJ0_init_db425, 5, none, 0, 2, 1) := rfl
  have e5 : ((c_call d 277 [jR a, jR a1] h).bind fun z => j_run (c_call d) n4 276 (3 + 3) ls (z.1.toList ++ []) z.2) = some z := by
    unfold j_obs at e4
    rw [hm] at e4
    simpa using e4
  obtain ⟨w, hw1, e6⟩ := i_bind e5
  obtain ⟨k1, k2, k3, k4, k5, -, -, k6⟩ := s_mok hm (by decide) (by decide)
  obtain ⟨k7, k8, k9⟩ := k6 rfl
  rw [if_pos (Or.inl rfl)] at k4
  intro H locs cells slots ws tys lsR rl stR hS hx hl hv hst hc hs
  obtain ⟨hge1, hge2⟩ := hcall _ _ _ _ hw1
  obtain ⟨hge3, hge4⟩ := j_run_cnt hcall e6
  obtain ⟨w1, w2, zz, rfl, ⟨q2, rfl, hq2⟩, ⟨q1, rfl, hq1⟩, hzz⟩ := s_st2 hst
  have hzz : zz = [] := by
    cases zz with
    | nil => rfl
    | cons a b => exact hzz.elim
  subst hzz
  have hfix : CallFix p m c cJ0_init_81219 nL s args lwW (j_cnm 0) := ⟨hC.1, hC.2.1, hC.2.2.1, hC.2.2.2.1, hw⟩
  have hM := IH _ _ _ _ hw1 (by decide) _ hm (by decide) ws tys [.ref q1, .ref q2] [.null] (Or.inr ⟨Or.inl rfl, .null, rfl, rfl, (show 2 + 1 ≤ j_ml 277 by decide +kernel)⟩) hS.1 ⟨⟨q1, rfl, hq1⟩, ⟨q2, rfl, hq2⟩, trivial⟩
  have hlk : Cond.methodLink "java/lang/String" 489 yJ0_init_db425 ∈ lwW := j_has_mem (by decide +kernel)
  refine lv_null hC.1 hC.2.1 (by decide +kernel) ?_
  refine s_back (pc := 3) (mc := mc) (ms := ms) (zc := zc) (zs := zs) (ls := ls) (r := []) ?_ hS hx hl hv (rest := []) trivial (by omega) (by omega) (va_runI (As := [.ref q2, .null]) hfix hM (cwI 2 hw k1 rfl rfl rfl (hw _ k2) (hw _ hlk) (hw _ k7) k8 ⟨k4.1, k4.2.1, k4.2.2⟩ ⟨hRm.1, by show 8 + (5 + 11) + (92 + 32 * d) ≤ R.locals; omega⟩) ⟨s_blind, fun U hU hW => s_start hC hS U hU hW⟩ rfl rfl (hv.1) rfl (lv_room (by decide)) (show decode cJ0_init_81219 3 = .ok (.invokespecial 489, 3) by decide +kernel) ⟨by omega, by omega⟩)
  exact s_rv (y := 276) (x1 := 0) (x2 := 0) (x3 := 0) (by decide +kernel) (by decide +kernel) hzc hzs RV e6
set_option maxHeartbeats 4000000 in
/-- String.checkIndex: hands a table of words on -/
theorem s_sp2 {d n y : Nat} {z : j_Z} (hy : y = 273) (hq : j_meth[y]? = some q) (hC : s_C p s m args meth c R q b tt L sb xs nL) (hRm : d + 1 ≤ R.frames ∧ 124 + 32 * d ≤ R.locals) (hRc : mc ≤ R.cells) (hRs : ms ≤ R.slots) (hzc : zc = z.2.1.length) (hzs : zs = s_sl z.2) (IH : s_IH l D b tt L sb xs d)
    (RV : ∀ (pc : Nat) (H : Heap) (locs : List Loc) (cells slots : Nat) (ws : va_W) (tys : List (ClassId × FieldType)) (lsR : Array Slot), decode q.2.1 pc = .ok (.return_, 1) → j_ret y = 0 → s_St D b tt L sb xs s z.2 H locs tys ws → (∀ a q : Nat, ρ0 a = some q → s_ρ b tt ws a = some q) → s_ov (s_ρ b tt ws) z.1 none → cells = mc → slots = ms → W p l e R s m args below meth c H locs cells slots Q (F0 m pc lsR [])) (e0 : j_run (c_call d) n y 0 ls [] h = some z) (hn : ls.length = nL) : s_G D b tt L sb xs s ρ0 nL zc zs mc ms m (fun H locs cells slots g => W p l e R s m args below meth c H locs cells slots Q g) 0 ls [] h := by
  subst hy
  cases (show some (yJ0_checkIndex_df160, cJ0_checkIndex_df160, 2, none, 0, 1, 2) = some q from hq)
  have hw := s_words hC
  have hcall : ∀ k as h z, c_call d k as h = some z → s_ge h z.2 := fun k as h z hz => c_call_cnt hz
  obtain ⟨n1, e1⟩ := j_run_s e0
  unfold j_step at e1
  rw [show j_at 273 0 = some (.iload_n 0, 0, 0, 0) by decide +kernel] at e1
  simp only [j_op] at e1
  split at e1
  rotate_left
  · cases e1
  rename_i a hla
  refine r_iload_n hC hla (by decide +kernel) ?_
  obtain ⟨n2, e2⟩ := j_run_s e1
  unfold j_step at e2
  rw [show j_at 273 (0 + 1) = some (.iload_n 1, 0, 0, 0) by decide +kernel] at e2
  simp only [j_op] at e2
  split at e2
  rotate_left
  · cases e2
  rename_i a1 hla1
  refine r_iload_n hC hla1 (by decide +kernel) ?_
  obtain ⟨n3, e3⟩ := j_run_s e2
  unfold j_step at e3
  rw [show j_at 273 (0 + 1 + 1) = some (.goto 3, 5, 0, 0) by decide +kernel] at e3
  simp only [j_op] at e3
  obtain ⟨n4, e4⟩ := j_run_s e3
  unfold j_step at e4
  rw [show j_at 273 5 = some (.invokestatic 1059, 282, 2, 0) by decide +kernel] at e4
  simp only [j_op] at e4
  have hm : j_meth[282]? = some (yJ3_checkIndex_8e157, cJ3_checkIndex_8e157, 3, some .int, 20, 1, 2) := rfl
  have e5 : ((c_call d 282 [jI a, jI a1] h).bind fun z => j_run (c_call d) n4 273 (5 + 3) ls (z.1.toList ++ []) z.2) = some z := by
    simpa using e4
  obtain ⟨w, hw1, e6⟩ := i_bind e5
  obtain ⟨k1, k2, k3, k4, k5, -, k6, -⟩ := s_mok hm (by decide) (by decide)
  have k7 := k6 rfl
  rw [if_pos (Or.inr rfl)] at k4
  have hRO := hC.2.2.2.2.2.2.2.2
  obtain ⟨v, hv1, hZ⟩ := hRO.2.2.2.2.2.2.2.1.2.2.2.2.2.2.2.2
  intro H locs cells slots ws tys lsR rl stR hS hx hl hv hst hc hs
  obtain ⟨hge1, hge2⟩ := hcall _ _ _ _ hw1
  obtain ⟨hge3, hge4⟩ := j_run_cnt hcall e6
  obtain ⟨w1, w2, zz, rfl, ⟨q2, rfl, hq2⟩, ⟨q1, rfl, hq1⟩, hzz⟩ := s_st2 hst
  have hzz : zz = [] := by
    cases zz with
    | nil => rfl
    | cons a b => exact hzz.elim
  subst hzz
  have hfix : CallFix p m c cJ0_checkIndex_df160 nL s args lwW (j_cnm 0) := ⟨hC.1, hC.2.1, hC.2.2.1, hC.2.2.2.1, hw⟩
  have hM := IH _ _ _ _ hw1 (by decide) _ hm (by decide) ws tys [.int q1, .int q2] [v] (Or.inr ⟨Or.inr rfl, v, rfl, hv1, (show 2 + 1 ≤ j_ml 282 by decide +kernel)⟩) hS.1 ⟨⟨q1, rfl, hq1⟩, ⟨q2, rfl, hq2⟩, trivial⟩
  have hlk : Cond.methodLink "java/lang/String" 1059 yJ3_checkIndex_8e157 ∈ lwW := j_has_mem (by decide +kernel)
  have hfl : Cond.fieldLink "java/lang/String" 1053 "jdk/internal/util/Preconditions" "SIOOBE_FORMATTER" "Ljava/util/function/BiFunction;" ∈ lwW := j_has_mem (by decide +kernel)
  refine va_gets (own := "java/lang/String") (index := 1053) hC.1 hC.2.1 hZ hS.2.2.2.2 hC.2.2.2.1 (hw _ hfl) (fun x hx => hx) (by decide +kernel) ?_
  show W p l e R s m args below meth c H locs cells slots Q (F0 m 5 lsR [v, .int q2, .int q1])
  refine s_back (pc := 5) (mc := mc) (ms := ms) (zc := zc) (zs := zs) (ls := ls) (r := []) ?_ hS hx hl hv (rest := []) trivial (by omega) (by omega) (va_runS (As := [.int q1, .int q2, v]) hfix hM (va_cwS 3 hw (s_good (fun v hv => ?_)) rfl rfl rfl ⟨k4.1, k4.2.1, k4.2.2⟩ ⟨hRm.1, by show 8 + (3 + 11) + (92 + 32 * d) ≤ R.locals; omega⟩) ⟨s_blind, fun U hU hW => s_start hC hS U hU hW⟩ rfl rfl (hv.1) rfl (lv_room (by decide)) (show decode cJ0_checkIndex_df160 5 = .ok (.invokestatic 1059, 3) by decide +kernel) ⟨by omega, by omega⟩)
  · obtain ⟨n5, e7⟩ := j_run_s e6
    unfold j_step at e7
    rw [show j_at 273 (5 + 3) = some (.pop, 0, 0, 0) by decide +kernel] at e7
    simp only [j_op] at e7
    split at e7
    · rename_i u r hst2
      split at e7
      · rename_i hc1
        rw [hst2]
        exact r_pop hC hc1 (by decide +kernel) (s_rv (y := 273) (x1 := 0) (x2 := 0) (x3 := 0) (by decide +kernel) (by decide +kernel) hzc hzs RV e7)
      · cases e7
    · cases e7
  · unfold va_wsS at hv
    rcases List.mem_append.mp hv with hv | hv
    · simp only [List.mem_cons, List.not_mem_nil, or_false] at hv
      rcases hv with rfl | rfl | rfl
      · exact hlk
      · exact k7
      · exact k2
    · exact (k1 v hv).1
theorem s_go {d y : Nat} {z : j_Z} (hC : s_C p s m args meth c R q b tt L sb xs nL) (hq : j_meth[y]? = some q) (hRm : d + 1 ≤ R.frames ∧ 124 + 32 * d ≤ R.locals) (hRc : mc ≤ R.cells) (hRs : ms ≤ R.slots) (hzc : zc = z.2.1.length) (hzs : zs = s_sl z.2) (IH : s_IH l D b tt L sb xs d)
    (RI : ∀ (pc : Nat) (H : Heap) (locs : List Loc) (cells slots : Nat) (ws : va_W) (tys : List (ClassId × FieldType)) (lsR : Array Slot) (v : Int32), decode q.2.1 pc = .ok (.ireturn, 1) → (j_ret y = 1 ∨ (j_ret y = 3 ∧ (v = 0 ∨ v = 1)) ∨ (j_ret y = 4 ∧ -128 ≤ v.toInt ∧ v.toInt ≤ 127) ∨ (j_ret y = 5 ∧ 0 ≤ v.toInt ∧ v.toInt ≤ 65535)) → s_St D b tt L sb xs s z.2 H locs tys ws → (∀ a q : Nat, ρ0 a = some q → s_ρ b tt ws a = some q) → s_ov (s_ρ b tt ws) z.1 (some (.int v)) → cells = mc → slots = ms → W p l e R s m args below meth c H locs cells slots Q (F0 m pc lsR [.int v]))
    (RA : ∀ (pc : Nat) (H : Heap) (locs : List Loc) (cells slots : Nat) (ws : va_W) (tys : List (ClassId × FieldType)) (lsR : Array Slot) (v : Nat), decode q.2.1 pc = .ok (.areturn, 1) → j_ret y = 6 → s_St D b tt L sb xs s z.2 H locs tys ws → (∀ a q : Nat, ρ0 a = some q → s_ρ b tt ws a = some q) → s_ov (s_ρ b tt ws) z.1 (some (.ref v)) → cells = mc → slots = ms → W p l e R s m args below meth c H locs cells slots Q (F0 m pc lsR [.ref v]))
    (RL : ∀ (pc : Nat) (H : Heap) (locs : List Loc) (cells slots : Nat) (ws : va_W) (tys : List (ClassId × FieldType)) (lsR : Array Slot) (v : Int64), decode q.2.1 pc = .ok (.lreturn, 1) → j_ret y = 2 → s_St D b tt L sb xs s z.2 H locs tys ws → (∀ a q : Nat, ρ0 a = some q → s_ρ b tt ws a = some q) → s_ov (s_ρ b tt ws) z.1 (some (.long v)) → cells = mc → slots = ms → W p l e R s m args below meth c H locs cells slots Q (F0 m pc lsR [.long v]))
    (RV : ∀ (pc : Nat) (H : Heap) (locs : List Loc) (cells slots : Nat) (ws : va_W) (tys : List (ClassId × FieldType)) (lsR : Array Slot), decode q.2.1 pc = .ok (.return_, 1) → j_ret y = 0 → s_St D b tt L sb xs s z.2 H locs tys ws → (∀ a q : Nat, ρ0 a = some q → s_ρ b tt ws a = some q) → s_ov (s_ρ b tt ws) z.1 none → cells = mc → slots = ms → W p l e R s m args below meth c H locs cells slots Q (F0 m pc lsR [])) : ∀ (n : Nat) (ls : j_L) (h : j_H), j_run (c_call d) n y 0 ls [] h = some z → ls.length = nL → s_G D b tt L sb xs s ρ0 nL zc zs mc ms m (fun H locs cells slots g => W p l e R s m args below meth c H locs cells slots Q g) 0 ls [] h := by
  intro n ls h e hn
  by_cases hsp : j_spc y
  · rcases hsp with hsp | hsp
    · exact s_sp1 hsp hq hC hRm hRc hRs hzc hzs IH RV e hn
    · exact s_sp2 hsp hq hC hRm hRc hRs hzc hzs IH RV e hn
  · exact s_run hsp hC hq hRm hRc hRs hzc hzs IH RI RA RL RV n 0 ls [] h e hn
end SX
theorem Met_ofWF {l : Launch} {y : MethodName} {ws ws' : List Cond} {rm : Room} {Pc : Array Value → State → Prop} {Qc : Array Value → State → Outcome → State → Prop} {mc ms : Nat} {free : Addr → Prop} {cc : ByteArray} {maxL : Nat} {ret : Option FieldType}
    (hy : plainFor y = true) (hw : ws = Cond.code y cc maxL ret :: ws')
    (body : ∀ p e s m args below meth c s₁, BodyLoose p l y (headSpec ws rm) cc maxL ret e s m args below meth c s₁ → c.maxLocals = maxL → Pc args s →
      W p l e (headSpec ws rm).room s m args below meth c s.heap [] 0 0 (MQ below Qc args s mc ms free) (entryFrame m args maxL)) : Met l y ws rm Pc Qc mc ms free := by
  refine MetFree.of_bodySF (code := cc) (maxLocals := maxL) (ret := ret) hy ?_ ?_
  · intro args s m h hn
    obtain ⟨meth, c, h1, h2, h3, h4, h5, h6, -, -⟩ := Cond.code_spec hn (atoms_spec (ws := ws) h _ (by rw [hw]; exact List.mem_cons_self))
    exact ⟨meth, c, h1, h2, h3, h4, h5, h6⟩
  · intro p e s m args below meth c s₁ B hml hP _
    have hh0 : s₁.heap = s.heap := by rw [B.state]; rfl
    obtain ⟨t, a1, o, b1, b2, b3⟩ := body p e s m args below meth c s₁ B hml hP s₁ hh0 (Stand.of_body B)
    exact ⟨t, o, a1, b1, b2, ⟨b3.1, b3.2⟩⟩
def r_ent : List Value → List (Option Value)
  | [] => []
  | v :: r => if v.category = 2 then some v :: none :: r_ent r else some v :: r_ent r
theorem s_ent {ρ : j_P} : ∀ {as : List j_V} {was : List Value}, s_st ρ as was → s_lo ρ (j_ent as) (r_ent was)
  | [], [], _ => trivial
  | v :: r, w :: q, h => by
    have hc := s_val_cat h.1
    unfold j_ent r_ent
    by_cases e : j_isL v = true
    · rw [if_pos e, if_pos (hc.trans (j_cat_isL.mp e))]
      exact ⟨h.1, s_ent (as := r) (was := q) h.2⟩
    · rw [if_neg e, if_neg (fun h2 => e (j_cat_isL.mpr (hc.symm.trans h2)))]
      exact ⟨h.1, s_ent (as := r) (was := q) h.2⟩
theorem s_lo_rep {ρ : j_P} {n : Nat} : ∀ {ls : j_L} {rl : List (Option Value)}, s_lo ρ ls rl → s_lo ρ (ls ++ List.replicate n none) (rl ++ List.replicate n none)
  | [], [], h => by
    simp only [List.nil_append]
    induction n with
    | zero => trivial
    | succ n ih => exact ih
  | none :: r, none :: q, h => s_lo_rep (ls := r) (rl := q) h
  | some v :: r, some w :: q, h => ⟨h.1, s_lo_rep (ls := r) (rl := q) h.2⟩
theorem s_as_rep {n : Nat} : ∀ k, s_as k (List.replicate n none) = [] := by
  induction n with
  | zero => intro k; rfl
  | succ n ih => intro k; exact ih (k + 1)
theorem s_as_ent {n : Nat} : ∀ (was : List Value) (k : Nat), s_as k (r_ent was ++ List.replicate n none) = lv_args k was
  | [], k => s_as_rep k
  | v :: r, k => by
    unfold r_ent lv_args
    by_cases e : v.category = 2
    · rw [if_pos e, if_pos e]
      exact congrArg (fun x => (k, v) :: x) (s_as_ent r (k + 1 + 1))
    · rw [if_neg e, if_neg e]
      exact congrArg (fun x => (k, v) :: x) (s_as_ent r (k + 1))
theorem s_sl_len : ∀ (was : List Value), (lg_sl was).length = (r_ent was).length
  | [] => rfl
  | v :: r => by
    have ih := s_sl_len r
    unfold r_ent
    unfold lg_sl at ih ⊢
    rw [List.flatMap_cons, List.length_append, ih]
    by_cases e : v.category = 2
    · rw [if_pos e, if_pos e]
      simp
      omega
    · rw [if_neg e, if_neg e]
      simp
      omega
theorem s_args_sub : ∀ (was ex : List Value) (k : Nat) (q : Nat × Value), q ∈ lv_args k was → q ∈ lv_args k (was ++ ex)
  | [], _, _, _, h => absurd h (by unfold lv_args; exact List.not_mem_nil)
  | v :: r, ex, k, q, h => by
    rw [List.cons_append]
    unfold lv_args at h ⊢
    split at h
    · rename_i e
      rw [if_pos e]
      rcases List.mem_cons.mp h with h | h
      · exact List.mem_cons.mpr (Or.inl h)
      · exact List.mem_cons.mpr (Or.inr (s_args_sub r ex _ q h))
    · rename_i e
      rw [if_neg e]
      rcases List.mem_cons.mp h with h | h
      · exact List.mem_cons.mpr (Or.inl h)
      · exact List.mem_cons.mpr (Or.inr (s_args_sub r ex _ q h))
theorem s_args_app {A : Array Slot} {n : Nat} {was ex : List Value} (h : lv_has A n (lv_args 0 (was ++ ex))) : lv_has A n (lv_args 0 was) := ⟨h.1, h.2.1, fun q hq => h.2.2 q (s_args_sub was ex 0 q hq)⟩
theorem s_nar_b {v : Int32} (h : -128 ≤ v.toInt ∧ v.toInt ≤ 127) : narrow .byte (.int v) = .int v := by
  show Value.int v.toInt8.toInt32 = .int v
  congr 1
  apply Int32.toInt_inj.mp
  rw [Int8.toInt_toInt32, Int32.toInt_toInt8]
  unfold Int.bmod
  simp only
  omega
theorem s_chr {v : Int32} (h : 0 ≤ v.toInt ∧ v.toInt ≤ 65535) : (v.toUInt32 % 65536).toInt32 = v := by
  have h1 : v.toBitVec.toNat < 65536 := by
    have h2 : v.toInt = v.toBitVec.toInt := rfl
    rw [h2, BitVec.toInt_eq_toNat_cond] at h
    split at h <;> omega
  rw [pk_char, Nat.mod_eq_of_lt h1]
  apply Int32.toBitVec_inj.mp
  apply BitVec.eq_of_toNat_eq
  rw [pk_tn (by omega)]
theorem s_nar_c {v : Int32} (h : 0 ≤ v.toInt ∧ v.toInt ≤ 65535) : narrow .char (.int v) = .int v := by
  have h1 := pk_nc v
  rw [s_chr h] at h1
  exact h1
set_option maxHeartbeats 4000000 in
theorem s_main (l : Launch) (D : va_G) (b : Nat) (tt : Nat → Nat) (L sb : Nat) (xs : Nat → Int32) : ∀ d, s_IH l D b tt L sb xs d := by
  intro d
  induction d with
  | zero => intro k as h z e; cases e
  | succ d ih =>
    intro k as h z e hk mq hmq h3 ws tys was ex hex hw hst
    have hcnt := c_call_cnt e
    unfold c_call at e
    split at e
    · rename_i hlen
      obtain ⟨n, e⟩ := (j_fin_some _).mp e
      obtain ⟨k1, k2, k3, k4, k5, k6, k7, k8⟩ := s_mok hmq hk h3
      have hml0 : j_ml k = mq.2.2.1 := by unfold j_ml; rw [hmq]
      rw [hml0] at hlen
      have hent := s_ent hst
      have hlen2 : (r_ent was).length = (j_ent as).length := (s_lo_len hent).symm
      refine Met_ofWF (ws' := lwW) (j_pf hmq) rfl ?_
      intro p e1 s m args below meth c s₁ B hml hP
      obtain ⟨rfl, hP1, hK1, hD1, hRO⟩ := hP
      rw [lg_entry_eq]
      have hsl : (lg_sl (was ++ ex)).length ≤ mq.2.2.1 := by
        have h1 : (lg_sl (was ++ ex)).length = (lg_sl was).length + (lg_sl ex).length := by
          unfold lg_sl
          rw [List.flatMap_append, List.length_append]
        rw [h1, s_sl_len was, hlen2]
        rcases hex with ⟨rfl, -, -⟩ | ⟨-, v, rfl, hv1, hv2⟩
        · exact hlen
        · rw [s_sl_len]
          unfold r_ent
          rw [if_neg (by omega)]
          rw [hml0] at hv2
          exact hv2
      have hv0 := lv_entry (was ++ ex) (n := mq.2.2.1) hsl
      have hv := s_args_app hv0
      have hpre := atoms_spec (ws := s_ws mq) B.pre
      have hC : s_C p s m (was ++ ex).toArray meth c (s_rm (d + 1) (z.2.1.length - h.1.length) (s_sl z.2 - s_sl h)) mq b tt L sb xs mq.2.2.1 := by
        refine ⟨B.exec, B.bytes, hml, by rw [← k3]; exact findClass_of_methodNamed B.named, fun w h1 h2 => hpre w (List.mem_cons_of_mem _ (List.mem_filter.mpr ⟨h1, h2⟩)), fun h2 => (name_of_methodNamed B.named B.method).1.trans (k8 h2).2.1, ?_, ?_, hRO⟩
        · show 40 ≤ 92 + 32 * (d + 1)
          omega
        · show 1 ≤ d + 1
          omega
      have hret := B.returns
      have hlocks := B.notSynchronized
      refine s_go (zc := z.2.1.length) (zs := s_sl z.2) (mc := z.2.1.length - h.1.length) (ms := s_sl z.2 - s_sl h) (ρ0 := s_ρ b tt ws) (D := D) hC hmq ⟨Nat.le_refl _, ?_⟩ (Nat.le_refl _) (Nat.le_refl _) rfl rfl ih ?_ ?_ ?_ ?_ n (j_loc k as) h e ?_ s.heap [] 0 0 ws tys _ (r_ent was ++ List.replicate (mq.2.2.1 - (lg_sl was).length) none) [] ⟨hw, hP1, hK1, hD1, va_S.rf⟩ (fun _ _ h => h) ?_ ?_ trivial ?_ ?_
      · show 124 + 32 * d ≤ 92 + 32 * (d + 1)
        omega
      · intro pc H locs cells slots ws1 tys1 lsR v hdg hr hS hx ho hc hs
        subst hc
        subst hs
        obtain ⟨q1, q2⟩ := r_ret (args := (was ++ ex).toArray) hS hx ho
        rcases hr with hr | ⟨hr, hv01⟩ | ⟨hr, hv01⟩ | ⟨hr, hv01⟩
        · exact W.iret B.exec B.bytes (hret.trans ((x_ret hmq hr).2.1 rfl)) q1 q2 hdg hlocks
        · refine W.zret (ty := .boolean) B.exec B.bytes (hret.trans ((x_ret hmq hr).2.2.2.1 rfl)) ?_ q1 q2 hdg hlocks
          rcases hv01 with rfl | rfl <;> rfl
        · exact W.zret (ty := .byte) B.exec B.bytes (hret.trans ((x_ret hmq hr).2.2.2.2.1 rfl)) (s_nar_b hv01) q1 q2 hdg hlocks
        · exact W.zret (ty := .char) B.exec B.bytes (hret.trans ((x_ret hmq hr).2.2.2.2.2.1 rfl)) (s_nar_c hv01) q1 q2 hdg hlocks
      · intro pc H locs cells slots ws1 tys1 lsR v hdg hr hS hx ho hc hs
        subst hc
        subst hs
        obtain ⟨q1, q2⟩ := r_ret (args := (was ++ ex).toArray) hS hx ho
        obtain ⟨rt, hrt1, hrt2⟩ := (x_ret hmq hr).2.2.2.2.2.2 rfl
        exact W.aret B.exec B.bytes (hret.trans hrt1) hrt2 (Or.inr ⟨_, rfl⟩) q1 q2 hdg hlocks
      · intro pc H locs cells slots ws1 tys1 lsR v hdg hr hS hx ho hc hs
        subst hc
        subst hs
        obtain ⟨q1, q2⟩ := r_ret (args := (was ++ ex).toArray) hS hx ho
        exact W.lret B.exec B.bytes (hret.trans ((x_ret hmq hr).2.2.1 rfl)) q1 q2 hdg hlocks
      · intro pc H locs cells slots ws1 tys1 lsR hdg hr hS hx ho hc hs
        subst hc
        subst hs
        obtain ⟨q1, q2⟩ := r_ret (args := (was ++ ex).toArray) hS hx ho
        exact W.vret B.exec B.bytes (hret.trans ((x_ret hmq hr).1 rfl)) q1 q2 hdg hlocks
      · unfold j_loc
        rw [hml0, List.length_append, List.length_replicate]
        omega
      · unfold j_loc
        rw [hml0, s_sl_len, hlen2]
        exact s_lo_rep hent
      · rw [s_as_ent]
        exact hv
      · have := hcnt.1
        omega
      · have := hcnt.2
        omega
    · cases e
end
section
/-! THE CLAIM OUT OF ONE WALK OF THE LAW'S BODY. Your part is whole_start (and what it stands on); all else here is the same for every law, but numbers. -/
def R_law : String := "WholePacksLaw"
def lw_P (b : Addr) (xs : List Int32) (args : Array Value) (s : State) : Prop := args = #[.ref b] ∧ s.IntsAt b xs ∧ xs.length ≤ 260 ∧ (Jvm.Cond.and given_1 narrow_1).before args s = true
def lw_Q (_ : Array Value) (s : State) (o : Outcome) (t : State) : Prop := o = .returned (some (.int 1)) ∧ Framed s o t [] 677970 7068337
def lw_Z (below : List Frame) (a : Array Value) (s : State) : State → Prop := fun t => ∃ o, t.status = .running ∧ Ended t below o ∧ lw_Q a s o t
/-- the law's own end, with 1 on the stack, nothing written that was there before, its room as the claim has it -/
theorem lw_ret {p : Program} {l : Launch} {e : Env} {s : State} {m : MethodId} {below : List Frame} {meth : Method} {c : Code} {b : Nat} (hx : p.tables.exec = Jvm.exec) (hb : c.code = code) (hr : meth.sig.returnType = ret) (hlocks : meth.locks = false) {pc : Nat} {H : Heap} {ls : Array Slot} (hdg : decode code pc = .ok (.ireturn, 1)) : W p l e room_1 s m #[Value.ref b] below meth c H [] 677970 7068337 (lw_Z below #[Value.ref b] s) (F0 m pc ls [.int 1]) := by
  intro T hT X
  obtain ⟨fs, hret, hrun, hended, hW, hframe⟩ := X.leave (v := some (.int 1)) (hlocks := hlocks) (fun h => by rw [hr] at h; cases h)
  have hmeth' : T.vm.method? m = some meth := X.method'
  refine ⟨T.setFrames fs, ?_, .returned (some (.int 1)), hrun, hended, rfl, ⟨_, rfl⟩, hW, hframe⟩
  jvm_step X.here [X.here.top, hx, hb, hdg, hmeth', hr, ret, narrow_b1]
  (try refine ⟨rfl, ?_⟩); (try refine ⟨rfl, ?_⟩)
  first | (intro acts; rw [hret _ acts rfl rfl rfl]) | rw [hret _ _ rfl rfl rfl]
  exact Steps.refl _
/-- what holds at the law's entry: the machine, the code, the tables' words (any of lw_tbl by 'hts w (by decide +kernel)'), the script of L ints xs at the cell b, what the Statement gives of the start (any of its parts by flat_of_before) -/
def lw_At (p : Program) (s : State) (m : MethodId) (meth : Method) (c : Code) (b L : Nat) (xs : Nat → Int32) : Prop :=
  p.tables.exec = Jvm.exec ∧ c.code = code ∧ meth.sig.returnType = ret ∧ c.maxLocals = 22 ∧ s.vm.findClass R_law = some m.cls ∧ (∀ w ∈ lw_tbl, w.before #[Value.ref b] s = true) ∧ va_X b L xs s s.heap ∧ b < s.heap.size ∧ meth.locks = false ∧ (Jvm.Cond.and given_1 narrow_1).before #[Value.ref b] s = true
/-- the heap of the start: the script, TENS; what stands ahead -/
def l_h0 (L : Nat) (xs : Nat → Int32) : j_H := ([(32, L), (32, 6)], [[], []], fun a i => if a = 0 then (xs i).toInt else if a = 1 then (s_tn i).toInt else if 1000000 ≤ a then s_kb a i else 0)
def l_ls : j_L := some (jR 0) :: List.replicate 21 none
/-- what is left to show: the abstract machine's law answers 1 -/
def l_Goal : Prop := ∀ (L : Nat) (xs : Nat → Int32), L ≤ 260 → ∃ h : j_H, j_fin (c_call 10) 271 0 l_ls [] (l_h0 L xs) = some (some (jI 1), h) ∧ h.1.length ≤ 677972 ∧ s_sl h ≤ 7068337 + 6
theorem l_tens (j : Nat) (hj : j < 6) {args : Array Value} {s : State} (hgv : (Jvm.Cond.and given_1 narrow_1).before args s = true) : (Term.elem (.static "WholePacks" "TENS" "[I") (.int (Int32.ofNat j))).eval args s none [] s = some (.int (s_tn j)) := by
  have hs := flat_of_before _ hgv
  match j, hj with
  | 0, _ => exact va_eqt (hs _ (by decide +kernel))
  | 1, _ => exact va_eqt (hs _ (by decide +kernel))
  | 2, _ => exact va_eqt (hs _ (by decide +kernel))
  | 3, _ => exact va_eqt (hs _ (by decide +kernel))
  | 4, _ => exact va_eqt (hs _ (by decide +kernel))
  | 5, _ => exact va_eqt (hs _ (by decide +kernel))
/-! texts, digits -/
def l_FL : List Cond := flatC (Jvm.Cond.and given_1 narrow_1)
def l_tm (i : Nat) : Term := .string "WholePacksLaw" (j_tx.getD i (0, "", [])).1
def l_val (i : Nat) : Term := .field (l_tm i) "java/lang/String" "value" "[B"
def l_ln : List Nat := j_tx.map (fun t => t.2.2.length)
def l_by : List (List Int32) := j_tx.map (fun t => t.2.2.map (fun n => Int32.ofNat n))
def l_d1_w (j : Nat) : Cond := Cond.eq (.elem (.static "java/lang/Integer" "DigitOnes" "[B") (.int (Int32.ofNat j))) (.int (Int32.ofInt (s_kb 1000020 j)))
theorem l_d1_0 : ∀ j, j < 10 → l_d1_w (0 + j) ∈ l_FL := by decide +kernel
theorem l_d1_1 : ∀ j, j < 10 → l_d1_w (10 + j) ∈ l_FL := by decide +kernel
theorem l_d1_2 : ∀ j, j < 10 → l_d1_w (20 + j) ∈ l_FL := by decide +kernel
theorem l_d1_3 : ∀ j, j < 10 → l_d1_w (30 + j) ∈ l_FL := by decide +kernel
theorem l_d1_4 : ∀ j, j < 10 → l_d1_w (40 + j) ∈ l_FL := by decide +kernel
theorem l_d1_5 : ∀ j, j < 10 → l_d1_w (50 + j) ∈ l_FL := by decide +kernel
theorem l_d1_6 : ∀ j, j < 10 → l_d1_w (60 + j) ∈ l_FL := by decide +kernel
theorem l_d1_7 : ∀ j, j < 10 → l_d1_w (70 + j) ∈ l_FL := by decide +kernel
theorem l_d1_8 : ∀ j, j < 10 → l_d1_w (80 + j) ∈ l_FL := by decide +kernel
theorem l_d1_9 : ∀ j, j < 10 → l_d1_w (90 + j) ∈ l_FL := by decide +kernel
theorem l_d1 (j : Nat) (hj : j < 100) : l_d1_w j ∈ l_FL := by
  obtain ⟨q, r, hq, hr, rfl⟩ : ∃ q r, q < 10 ∧ r < 10 ∧ j = 10 * q + r := ⟨j / 10, j % 10, by omega, by omega, by omega⟩
  have h10 : q = 0 ∨ q = 1 ∨ q = 2 ∨ q = 3 ∨ q = 4 ∨ q = 5 ∨ q = 6 ∨ q = 7 ∨ q = 8 ∨ q = 9 := by omega
  rcases h10 with rfl | rfl | rfl | rfl | rfl | rfl | rfl | rfl | rfl | rfl
  · exact l_d1_0 r hr
  · exact l_d1_1 r hr
  · exact l_d1_2 r hr
  · exact l_d1_3 r hr
  · exact l_d1_4 r hr
  · exact l_d1_5 r hr
  · exact l_d1_6 r hr
  · exact l_d1_7 r hr
  · exact l_d1_8 r hr
  · exact l_d1_9 r hr
def l_d2_w (j : Nat) : Cond := Cond.eq (.elem (.static "java/lang/Integer" "DigitTens" "[B") (.int (Int32.ofNat j))) (.int (Int32.ofInt (s_kb 1000021 j)))
theorem l_d2_0 : ∀ j, j < 10 → l_d2_w (0 + j) ∈ l_FL := by decide +kernel
theorem l_d2_1 : ∀ j, j < 10 → l_d2_w (10 + j) ∈ l_FL := by decide +kernel
theorem l_d2_2 : ∀ j, j < 10 → l_d2_w (20 + j) ∈ l_FL := by decide +kernel
theorem l_d2_3 : ∀ j, j < 10 → l_d2_w (30 + j) ∈ l_FL := by decide +kernel
theorem l_d2_4 : ∀ j, j < 10 → l_d2_w (40 + j) ∈ l_FL := by decide +kernel
theorem l_d2_5 : ∀ j, j < 10 → l_d2_w (50 + j) ∈ l_FL := by decide +kernel
theorem l_d2_6 : ∀ j, j < 10 → l_d2_w (60 + j) ∈ l_FL := by decide +kernel
theorem l_d2_7 : ∀ j, j < 10 → l_d2_w (70 + j) ∈ l_FL := by decide +kernel
theorem l_d2_8 : ∀ j, j < 10 → l_d2_w (80 + j) ∈ l_FL := by decide +kernel
theorem l_d2_9 : ∀ j, j < 10 → l_d2_w (90 + j) ∈ l_FL := by decide +kernel
theorem l_d2 (j : Nat) (hj : j < 100) : l_d2_w j ∈ l_FL := by
  obtain ⟨q, r, hq, hr, rfl⟩ : ∃ q r, q < 10 ∧ r < 10 ∧ j = 10 * q + r := ⟨j / 10, j % 10, by omega, by omega, by omega⟩
  have h10 : q = 0 ∨ q = 1 ∨ q = 2 ∨ q = 3 ∨ q = 4 ∨ q = 5 ∨ q = 6 ∨ q = 7 ∨ q = 8 ∨ q = 9 := by omega
  rcases h10 with rfl | rfl | rfl | rfl | rfl | rfl | rfl | rfl | rfl | rfl
  · exact l_d2_0 r hr
  · exact l_d2_1 r hr
  · exact l_d2_2 r hr
  · exact l_d2_3 r hr
  · exact l_d2_4 r hr
  · exact l_d2_5 r hr
  · exact l_d2_6 r hr
  · exact l_d2_7 r hr
  · exact l_d2_8 r hr
  · exact l_d2_9 r hr
theorem l_d3 : Cond.arrayOf (.static "java/lang/Integer" "DigitOnes" "[B") .byte ∈ l_FL ∧ Cond.arrayOf (.static "java/lang/Integer" "DigitTens" "[B") .byte ∈ l_FL ∧ Cond.eq (.length (.static "java/lang/Integer" "DigitOnes" "[B")) (.int (Int32.ofNat 100)) ∈ l_FL ∧ Cond.eq (.length (.static "java/lang/Integer" "DigitTens" "[B")) (.int (Int32.ofNat 100)) ∈ l_FL ∧ Cond.eq (.static "java/lang/String" "COMPACT_STRINGS" "Z") (.int 1) ∈ l_FL ∧ Cond.isRef (.static "jdk/internal/util/Preconditions" "SIOOBE_FORMATTER" "Ljava/util/function/BiFunction;") ∈ l_FL := by decide +kernel
theorem l_s1 : ∀ i, i < 10 → Cond.exactly (l_tm i) "java/lang/String" ∈ l_FL ∧ Cond.eq (.field (l_tm i) "java/lang/String" "coder" "B") (.int 0) ∈ l_FL ∧ Cond.arrayOf (l_val i) .byte ∈ l_FL ∧ Cond.eq (.length (l_val i)) (.int (Int32.ofNat (l_ln.getD i 0))) ∈ l_FL := by decide +kernel
theorem l_s2 : ∀ i, i < 10 → ∀ j, j < l_ln.getD i 0 → Cond.eq (.elem (l_val i) (.int (Int32.ofNat j))) (.int ((l_by.getD i []).getD j 0)) ∈ l_FL := by decide +kernel
theorem l_s3 : ∀ i, i < 10 → ∀ j, j < 10 → i ≠ j → Cond.not (.eq (l_tm i) (l_tm j)) ∈ l_FL ∨ Cond.not (.eq (l_tm j) (l_tm i)) ∈ l_FL := by decide +kernel
theorem l_s4 : ∀ i, i < 10 → ∀ x, j_tx[i]? = some x → Cond.stringRef "WholePacksLaw" x.1 x.2.1 ∈ lw_tb2 ∧ l_tm i = .string "WholePacksLaw" x.1 := by
  intro i hi x hx
  have h10 : i = 0 ∨ i = 1 ∨ i = 2 ∨ i = 3 ∨ i = 4 ∨ i = 5 ∨ i = 6 ∨ i = 7 ∨ i = 8 ∨ i = 9 := by omega
  rcases h10 with rfl | rfl | rfl | rfl | rfl | rfl | rfl | rfl | rfl | rfl <;> (cases hx; exact ⟨by decide +kernel, rfl⟩)
theorem l_s5 : ∀ i, i < 10 → j_kc (1000001 + 2 * i) = some (34, l_ln.getD i 0) ∧ ∀ j, j < l_ln.getD i 0 → (l_by.getD i []).getD j 0 = Int32.ofInt (s_kb (1000001 + 2 * i) j) := by decide +kernel
theorem l_s6 : ∀ i, i < 10 → l_ln.getD i 0 < 2 ^ 31 := by decide +kernel
theorem l_w1 : Cond.laysStatic "java/lang/String" "COMPACT_STRINGS" "Z" ∈ lw_tb2 ∧ Cond.initialized "java/lang/String" ∈ lw_tb2 ∧ Cond.laysStatic "java/lang/Integer" "DigitOnes" "[B" ∈ lw_tb2 ∧ Cond.laysStatic "java/lang/Integer" "DigitTens" "[B" ∈ lw_tb2 ∧ Cond.initialized "java/lang/Integer" ∈ lw_tb2 ∧ Cond.laysStatic "jdk/internal/util/Preconditions" "SIOOBE_FORMATTER" "Ljava/util/function/BiFunction;" ∈ lw_tb2 ∧ Cond.initialized "jdk/internal/util/Preconditions" ∈ lw_tb2 ∧ Cond.castable "[B" "java/lang/Cloneable" ∈ lw_tb2 := by decide +kernel
theorem va_T_cg {ty : FieldType} {t N : Nat} {f g : Nat → Value} {A : Nat → Prop} {U : State} {H : Heap} (h : va_T ty t N f A U H) (e : ∀ j, j < N → f j = g j) : va_T ty t N g A U H := by
  obtain ⟨cell, a1, a2, a3, a4, a5, a6, a7⟩ := h
  exact ⟨cell, a1, a2, a3, a4, a5, fun j hj => (a6 j hj).trans (congrArg some (e j hj)), a7⟩
set_option maxHeartbeats 4000000 in
theorem l_RK {b : Nat} {s : State} (hts : ∀ w ∈ lw_tb2, w.before #[Value.ref b] s = true) (hgv : (Jvm.Cond.and given_1 narrow_1).before #[Value.ref b] s = true) (t0 : Nat) : ∃ tt : Nat → Nat, tt 0 = t0 ∧ s_RK tt s.heap.size s s.heap := by
  have hs : ∀ c ∈ l_FL, c.before #[Value.ref b] s = true := flat_of_before _ hgv
  have hA : ∀ a : Nat, a < s.heap.size → ¬ s_A s.heap.size a := fun a ha h1 => absurd h1 (Nat.not_le.mpr ha)
  obtain ⟨d1, d2, d3, d4, d5, d6⟩ := l_d3
  obtain ⟨c1, c2, c3, c4, c5, c6, c7, c8⟩ := l_w1
  obtain ⟨o, ho, hO⟩ := va_Tof (args := #[Value.ref b]) (s := s) (tm := .static "java/lang/Integer" "DigitOnes" "[B") (ty := .byte) (N := 100) (f := fun j => .int (Int32.ofInt (s_kb 1000020 j))) (A := s_A s.heap.size) (by decide) (hs _ d1) (va_eqt (hs _ d3)) (fun j hj => va_eqt (hs _ (l_d1 j hj))) hA
  obtain ⟨te, hte, hT⟩ := va_Tof (args := #[Value.ref b]) (s := s) (tm := .static "java/lang/Integer" "DigitTens" "[B") (ty := .byte) (N := 100) (f := fun j => .int (Int32.ofInt (s_kb 1000021 j))) (A := s_A s.heap.size) (by decide) (hs _ d2) (va_eqt (hs _ d4)) (fun j hj => va_eqt (hs _ (l_d2 j hj))) hA
  obtain ⟨adK, adV, ⟨hK, hne⟩, hev⟩ := vk_Sof (args := #[Value.ref b]) (s := s) (N := 10) (tm := l_tm) (len := l_ln) (byt := l_by) (A := s_A s.heap.size) l_s6 (fun i hi => hs _ (l_s1 i hi).1) (fun i hi => hs _ (l_s1 i hi).2.1) (fun i hi => hs _ (l_s1 i hi).2.2.1) (fun i hi => hs _ (l_s1 i hi).2.2.2) (fun i hi j hj => hs _ (l_s2 i hi j hj)) (fun i j hi hj hij => (l_s3 i hi j hj hij).imp (fun h => hs _ h) (fun h => hs _ h)) hA
  have hiR : ∃ v : Value, v.category = 1 ∧ va_Z "jdk/internal/util/Preconditions" "SIOOBE_FORMATTER" "Ljava/util/function/BiFunction;" v (s_A s.heap.size) s s.heap := by
    have h1 := hs _ d6
    have h2 : ∃ v : Value, (Term.static "jdk/internal/util/Preconditions" "SIOOBE_FORMATTER" "Ljava/util/function/BiFunction;").eval #[Value.ref b] s none [] s = some v ∧ v.isRef = true := by
      simp only [Cond.before, Cond.holds, Cond.value] at h1
      cases hv : (Term.static "jdk/internal/util/Preconditions" "SIOOBE_FORMATTER" "Ljava/util/function/BiFunction;").eval #[Value.ref b] s none [] s with
      | none => rw [hv] at h1; simp at h1
      | some v =>
        rw [hv] at h1
        refine ⟨v, rfl, ?_⟩
        cases v <;> first | rfl | (simp at h1)
    obtain ⟨v, h3, h4⟩ := h2
    exact ⟨v, by cases v <;> first | rfl | (cases h4), va_Zof (hts _ c6) (hts _ c7) h3 hA⟩
  refine ⟨fun n => if n = 0 then t0 else if n = 21 then o else if n = 22 then te else if n % 2 = 1 then adK ((n - 1) / 2) else adV ((n - 2) / 2), rfl, va_Zof (hts _ c1) (hts _ c2) (va_eqi (hs _ d5)) hA, va_Zof (hts _ c3) (hts _ c5) ho hA, va_Zof (hts _ c4) (hts _ c5) hte hA, fun a N e => ?_, fun k hk => ?_, fun k x e => ?_, va_Nw.of rfl (hts _ c8), hiR⟩
  · obtain ⟨i, hi, rfl⟩ := s_kc_in e
    rcases s_kc_all i hi _ _ e with h1 | h1
    · by_cases h20 : i < 20
      · obtain ⟨k, rfl⟩ : ∃ k, i = 2 * k + 1 := ⟨i / 2, by have := h1.2.2 h20; omega⟩
        have hk : k < 10 := by omega
        obtain ⟨e1, e2⟩ := l_s5 k hk
        rw [show 1000000 + (2 * k + 1) = 1000001 + 2 * k by omega] at e ⊢
        rw [e1] at e
        cases e
        have h9 : (if 1000001 + 2 * k - 999999 = 0 then t0 else if 1000001 + 2 * k - 999999 = 21 then o else if 1000001 + 2 * k - 999999 = 22 then te else if (1000001 + 2 * k - 999999) % 2 = 1 then adK ((1000001 + 2 * k - 999999 - 1) / 2) else adV ((1000001 + 2 * k - 999999 - 2) / 2)) = adV k := by
          rw [if_neg (by omega), if_neg (by omega), if_neg (by omega), if_neg (by omega), show (1000001 + 2 * k - 999999 - 2) / 2 = k by omega]
        show va_T .byte (if 1000001 + 2 * k - 999999 = 0 then _ else _) _ _ _ _ _
        rw [h9]
        exact va_T_cg (hK k hk).2.2.2 (fun j hj => by rw [e2 j hj])
      · have h21 : i = 20 ∨ i = 21 := by omega
        rcases h21 with rfl | rfl
        · cases e
          exact hO
        · cases e
          exact hT
    · omega
  · have h7 : (if 1 + 2 * k = 0 then t0 else if 1 + 2 * k = 21 then o else if 1 + 2 * k = 22 then te else if (1 + 2 * k) % 2 = 1 then adK ((1 + 2 * k - 1) / 2) else adV ((1 + 2 * k - 2) / 2)) = adK k := by
      rw [if_neg (by omega), if_neg (by omega), if_neg (by omega), if_pos (by omega), show (1 + 2 * k - 1) / 2 = k by omega]
    have h8 : (if 2 + 2 * k = 0 then t0 else if 2 + 2 * k = 21 then o else if 2 + 2 * k = 22 then te else if (2 + 2 * k) % 2 = 1 then adK ((2 + 2 * k - 1) / 2) else adV ((2 + 2 * k - 2) / 2)) = adV k := by
      rw [if_neg (by omega), if_neg (by omega), if_neg (by omega), if_neg (by omega), show (2 + 2 * k - 2) / 2 = k by omega]
    show va_O _ (if 1 + 2 * k = 0 then _ else _) _ _ _ ∧ va_OF _ _ _ _ (if 1 + 2 * k = 0 then _ else _) _ _ _ ∧ va_OF _ _ _ (.ref (if 2 + 2 * k = 0 then _ else _)) (if 1 + 2 * k = 0 then _ else _) _ _ _
    rw [h7, h8]
    exact ⟨(hK k hk).1, (hK k hk).2.1, (hK k hk).2.2.1⟩
  · have hk : k < 10 := by
      have h5 : j_tx.length = 10 := by decide
      have h6 := (List.getElem?_eq_some_iff.mp e).1
      omega
    obtain ⟨f1, f2⟩ := l_s4 k hk x e
    have h7 : (if 1 + 2 * k = 0 then t0 else if 1 + 2 * k = 21 then o else if 1 + 2 * k = 22 then te else if (1 + 2 * k) % 2 = 1 then adK ((1 + 2 * k - 1) / 2) else adV ((1 + 2 * k - 2) / 2)) = adK k := by
      rw [if_neg (by omega), if_neg (by omega), if_neg (by omega), if_pos (by omega), show (1 + 2 * k - 1) / 2 = k by omega]
    show vk_R _ _ _ (if 1 + 2 * k = 0 then _ else _) _
    rw [h7]
    have h8 := hev k hk
    rw [f2] at h8
    exact vk_R.of (hts _ f1) h8
set_option maxHeartbeats 4000000 in
set_option maxRecDepth 100000 in
theorem l_start (HG : l_Goal) {p : Program} {e : Env} {s : State} {m : MethodId} {below : List Frame} {meth : Method} {c : Code} (l : Launch) (hflags : l.flags = flags0) {b L : Nat} {xs : Nat → Int32} (hL : L ≤ 260) (C0 : lw_At p s m meth c b L xs) : W p l e room_1 s m #[Value.ref b] below meth c s.heap [] 0 0 (lw_Z below #[Value.ref b] s) (entryFrame m ([Value.ref b] : List Value).toArray 22) := by
  obtain ⟨hx, hb, hr, hml, hown, hts0, hX, hbl, hlocks, hgv⟩ := C0
  obtain ⟨h, hfin, hcb, hsb⟩ := HG L xs hL
  obtain ⟨n, hrun⟩ := (j_fin_some _).mp hfin
  have hcnt := j_run_cnt (fun k as h z hz => c_call_cnt hz) hrun
  have hts := lw_tb2_ok hts0
  have hwords : ∀ w ∈ lwW, w.before #[Value.ref b] s = true := fun w hw => hts w (List.mem_filter.mp hw).1
  have hA : ∀ a : Nat, a < s.heap.size → ¬ s_A s.heap.size a := fun a ha h1 => absurd h1 (Nat.not_le.mpr ha)
  have hs := flat_of_before _ hgv
  obtain ⟨t0, hev, hT⟩ := va_Tof (args := #[Value.ref b]) (s := s) (tm := .static "WholePacks" "TENS" "[I") (ty := .int) (N := 6) (f := fun j => .int (s_tn j)) (A := s_A s.heap.size) (by decide) (hs _ (by decide +kernel)) (va_eqt (hs _ (by decide +kernel))) (fun j hj => l_tens j hj hgv) hA
  have hZ := va_Zof (A := s_A s.heap.size) (hts _ (j_any_mem j_lays)) (hts (.initialized "WholePacks") (by decide +kernel)) hev hA
  obtain ⟨tt, htt, hRK⟩ := l_RK hts hgv t0
  rw [← htt] at hT hZ
  have hS : va_T .int b L (fun j => .int (xs j)) (s_A s.heap.size) s s.heap := by
    obtain ⟨scr, h1, h2, h3, h4, h5⟩ := hX
    exact ⟨scr, h1, h2, h3, Nat.le_of_eq h4.symm, by rw [h4], h5, hA b hbl⟩
  have hRO : s_RO b tt L s.heap.size xs s s.heap := by
    refine ⟨hS, by omega, hT, hZ, fun t ht => ?_, fun t ht => ?_, fun t ht => ?_, ⟨va_AOA.of (hts _ (j_any_mem j_over)), hRK⟩, Nat.le_refl _⟩
    · have h1 := List.all_eq_true.mp j_fn_ok t ht
      unfold j_fnk at h1
      split at h1
      · simp only [Bool.and_eq_true] at h1
        exact va_Nw.of rfl (hts _ (List.mem_of_getElem? (of_decide_eq_true h1.2.2)))
      · cases h1
    · exact va_Nw.of rfl (hts _ (List.mem_of_getElem? (of_decide_eq_true (List.all_eq_true.mp j_fsn_ok t ht))))
    · exact va_Nw.of rfl (hts _ (List.mem_of_getElem? (of_decide_eq_true (List.all_eq_true.mp j_mn_ok t ht))))
  have hk : ∀ k : Nat, ∃ (cC : ClassId) (iS : Nat → Nat), ∀ r : vw_C, vwCl[k]? = some r → u_Kn s r.1 r.2.1 r.2.2 cC iS := by
    intro k
    cases hr : vwCl[k]? with
    | none => exact ⟨0, fun _ => 0, fun r h => by cases h⟩
    | some r =>
      obtain ⟨z1, z2, z3, z4, z5, z6, z7, z8⟩ := s_cl hr
      obtain ⟨cC, iS, h1⟩ := u_known (ws := lwW) hwords z1 (hwords _ z6)
      exact ⟨cC, iS, fun r2 h2 => by cases h2; exact h1⟩
  obtain ⟨D, hK⟩ : ∃ D : va_G, va_K D vwCl [] s := ⟨(fun k => (hk k).choose, fun k => (hk k).choose_spec.choose), fun k r h => (hk k).choose_spec.choose_spec r h, fun k q h => by simp at h⟩
  have hq : j_meth[271]? = some (yL_law, cL_law, 22, some .boolean, 13, 1, 1) := rfl
  have hC : s_C p s m #[Value.ref b] meth c room_1 (yL_law, cL_law, 22, some .boolean, 13, 1, 1) b tt L s.heap.size xs 22 := by
    have hkd : ((yL_law, cL_law, 22, some FieldType.boolean, 13, 1, 1) : j_M).2.2.2.2.2.1 = 2 → meth.name = "<init>" := fun h1 => absurd h1 (by decide)
    have h40 : 40 ≤ room_1.locals := by decide
    have h41 : 1 ≤ room_1.frames := by decide
    exact ⟨hx, hb, hml, hown, fun w h1 _ => hts w h1, hkd, h40, h41, hRO⟩
  rw [lg_entry_eq]
  have hv := lv_entry [.ref b] (n := 22) (Nat.le_of_ble_eq_true rfl)
  have h0w : s_w b tt L xs [] (l_h0 L xs) [] := by
    refine ⟨rfl, rfl, ⟨rfl, fun i hi => rfl⟩, ⟨rfl, fun i hi => rfl⟩, fun k q h => by simp at h, fun q hq => ?_, by show 2 ≤ 1000000; omega, fun a i g1 g2 => ?_⟩
    · rcases List.mem_cons.mp hq with rfl | hq
      · show L ≤ 100000
        omega
      · cases List.mem_singleton.mp hq
        show 6 ≤ 100000
        omega
    · show (if a = 0 then (xs i).toInt else if a = 1 then (s_tn i).toInt else if 1000000 ≤ a then s_kb a i else 0) = _
      rw [if_neg (by omega), if_neg (by omega), if_pos g1]
  have hsl0 : s_sl (l_h0 L xs) = L + 6 := by simp [s_sl, l_h0]
  refine s_run (y := 271) (d := 10) (z := (some (jI 1), h)) (zc := h.1.length) (zs := s_sl h) (mc := h.1.length - 2) (ms := s_sl h - (L + 6)) (ρ0 := fun _ => none) (D := D) (by unfold j_spc; decide) hC hq ⟨by decide, by decide⟩ ?_ ?_ rfl rfl (s_main l D b tt L s.heap.size xs 10) ?_ ?_ ?_ ?_ n 0 _ [] (l_h0 L xs) hrun rfl s.heap [] 0 0 [] [] _ (some (.ref b) :: List.replicate 21 none) [] ⟨h0w, fun k q h => by simp at h, hK, ⟨fun i j p q h => by simp at h, fun k q h => by simp at h⟩, va_S.rf⟩ (fun a q h => by cases h) ⟨⟨b, rfl, rfl⟩, trivial⟩ hv trivial ?_ ?_
  · show h.1.length - 2 ≤ 677970
    omega
  · show s_sl h - (L + 6) ≤ 7068337
    omega
  · intro pc H locs cells slots ws1 tys1 lsR v hdg hr1 hS1 hx1 ho hc hs1
    obtain ⟨n1, e1, e2⟩ := ho
    cases e1
    have hv1 : v = 1 := Int32.toInt_inj.mp e2
    subst hv1
    refine va_forget (fun q hq => hS1.2.2.2.2.2.2 q hq) (W.widen (k := 677970) (n := 7068337) (by omega) (by omega) ?_)
    exact lw_ret hx hb hr hlocks hdg
  · intro pc H locs cells slots ws1 tys1 lsR v hdg hr1
    exact absurd hr1 (by decide)
  · intro pc H locs cells slots ws1 tys1 lsR v hdg hr1
    exact absurd hr1 (by decide)
  · intro pc H locs cells slots ws1 tys1 lsR hdg hr1
    exact absurd hr1 (by decide)
  · have := hcnt.1
    have h2 : (l_h0 L xs).1.length = 2 := rfl
    simp only [h2] at this ⊢
    omega
  · have := hcnt.2
    rw [hsl0] at this ⊢
    simp only at this
    omega
end
section
/-! The layout: kinds, sizes and references of all that the class's constructor makes. First as they come, then by the elder numbers (Walk's own packs last). -/
def j_KR (L : Nat) : List (Nat × Nat) := [(32, L), (32, 6), (12, 13), (6, 12), (3, 6), (32, 5), (32, 8), (32, 8), (32, 40), (4, 4), (32, 20), (32, 20), (32, 20), (32, 8), (32, 5), (32, 5), (32, 8), (32, 8), (32, 8), (6, 12), (3, 6), (32, 5), (32, 8), (32, 8), (32, 40), (4, 4), (32, 20), (32, 20), (32, 20), (32, 8), (32, 5), (32, 5), (32, 8), (32, 8), (32, 8), (3, 6), (32, 5), (32, 8), (32, 8), (32, 40), (5, 3), (7, 13), (32, 20), (32, 5), (33, 100), (33, 20), (33, 5), (33, 100), (33, 20), (33, 5), (2, 4), (33, 12), (33, 72), (33, 264), (5, 3), (7, 13), (32, 20), (32, 5), (33, 100), (33, 20), (33, 5), (33, 100), (33, 20), (33, 5), (2, 4), (33, 12), (33, 72), (33, 264), (10, 11), (32, 40), (33, 200), (7, 13), (32, 20), (32, 5), (33, 100), (33, 20), (33, 5), (33, 100), (33, 20), (33, 5), (33, 200), (33, 200), (33, 40), (33, 40), (32, 40), (35, 40), (11, 7), (3, 6), (32, 5), (32, 8), (32, 8), (32, 40), (32, 5), (32, 8), (4, 4), (32, 20), (32, 20), (32, 20), (9, 8), (34, 80), (32, 4), (32, 4), (32, 20), (8, 3), (32, 6), (32, 6), (36, 6), (33, 60), (33, 60), (33, 60), (33, 60), (33, 60), (33, 60), (33, 6)]
def j_PR : List (List (Option Nat)) := [[], [], [some 3, some 19, some 35, some 40, some 54, some 68, some 86, some 94, some 98, some 103, some 113, none, none], [some 4, some 9, some 13, none, none, none, some 14, some 15, none, some 16, some 17, some 18], [none, none, some 5, some 6, some 7, some 8], [], [], [], [], [none, some 10, some 11, some 12], [], [], [], [], [], [], [], [], [], [some 20, some 25, some 29, none, none, none, some 30, some 31, none, some 32, some 33, some 34], [none, none, some 21, some 22, some 23, some 24], [], [], [], [], [none, some 26, some 27, some 28], [], [], [], [], [], [], [], [], [], [none, none, some 36, some 37, some 38, some 39], [], [], [], [], [some 41, some 50, none], [none, none, none, none, none, some 42, some 43, some 44, some 45, some 46, some 47, some 48, some 49], [], [], [], [], [], [], [], [], [none, some 51, some 52, some 53], [], [], [], [some 55, some 64, none], [none, none, none, none, none, some 56, some 57, some 58, some 59, some 60, some 61, some 62, some 63], [], [], [], [], [], [], [], [], [none, some 65, some 66, some 67], [], [], [], [none, none, some 69, some 70, some 71, some 80, some 81, some 82, some 83, some 84, some 85], [], [], [none, none, none, none, none, some 72, some 73, some 74, some 75, some 76, some 77, some 78, some 79], [], [], [], [], [], [], [], [], [], [], [], [], [], [], [none, none, none, none, some 87, some 92, some 93], [none, none, some 88, some 89, some 90, some 91], [], [], [], [], [], [], [none, some 95, some 96, some 97], [], [], [], [none, none, some 99, none, none, some 100, some 101, some 102], [], [], [], [], [some 104, some 105, some 106], [], [], [some 107, some 108, some 109, some 110, some 111, some 112], [], [], [], [], [], [], []]
def j_KL (L : Nat) : List (Nat × Nat) := [(32, L), (32, 6), (12, 13), (6, 12), (3, 6), (32, 5), (32, 8), (32, 8), (32, 40), (4, 4), (32, 20), (32, 20), (32, 20), (32, 8), (32, 5), (32, 5), (32, 8), (32, 8), (32, 8), (6, 12), (3, 6), (32, 5), (32, 8), (32, 8), (32, 40), (4, 4), (32, 20), (32, 20), (32, 20), (32, 8), (32, 5), (32, 5), (32, 8), (32, 8), (32, 8), (3, 6), (32, 5), (32, 8), (32, 8), (32, 40), (5, 3), (7, 13), (32, 20), (32, 5), (33, 100), (33, 20), (33, 5), (33, 100), (33, 20), (33, 5), (2, 4), (33, 12), (33, 72), (33, 264), (5, 3), (7, 13), (32, 20), (32, 5), (33, 100), (33, 20), (33, 5), (33, 100), (33, 20), (33, 5), (2, 4), (33, 12), (33, 72), (33, 264), (10, 11), (32, 40), (33, 200), (7, 13), (32, 20), (32, 5), (33, 100), (33, 20), (33, 5), (33, 100), (33, 20), (33, 5), (33, 200), (33, 200), (33, 40), (33, 40), (32, 40), (35, 40), (11, 7), (32, 5), (32, 8), (4, 4), (32, 20), (32, 20), (32, 20), (9, 8), (34, 80), (32, 4), (32, 4), (32, 20), (8, 3), (32, 6), (32, 6), (36, 6), (33, 60), (33, 60), (33, 60), (33, 60), (33, 60), (33, 60), (33, 6), (3, 6), (32, 5), (32, 8), (32, 8), (32, 40)]
def j_PL : List (List (Option Nat)) := [[], [], [some 3, some 19, some 35, some 40, some 54, some 68, some 86, some 89, some 93, some 98, some 108, none, none], [some 4, some 9, some 13, none, none, none, some 14, some 15, none, some 16, some 17, some 18], [none, none, some 5, some 6, some 7, some 8], [], [], [], [], [none, some 10, some 11, some 12], [], [], [], [], [], [], [], [], [], [some 20, some 25, some 29, none, none, none, some 30, some 31, none, some 32, some 33, some 34], [none, none, some 21, some 22, some 23, some 24], [], [], [], [], [none, some 26, some 27, some 28], [], [], [], [], [], [], [], [], [], [none, none, some 36, some 37, some 38, some 39], [], [], [], [], [some 41, some 50, none], [none, none, none, none, none, some 42, some 43, some 44, some 45, some 46, some 47, some 48, some 49], [], [], [], [], [], [], [], [], [none, some 51, some 52, some 53], [], [], [], [some 55, some 64, none], [none, none, none, none, none, some 56, some 57, some 58, some 59, some 60, some 61, some 62, some 63], [], [], [], [], [], [], [], [], [none, some 65, some 66, some 67], [], [], [], [none, none, some 69, some 70, some 71, some 80, some 81, some 82, some 83, some 84, some 85], [], [], [none, none, none, none, none, some 72, some 73, some 74, some 75, some 76, some 77, some 78, some 79], [], [], [], [], [], [], [], [], [], [], [], [], [], [], [none, none, none, none, some 109, some 87, some 88], [], [], [none, some 90, some 91, some 92], [], [], [], [none, none, some 94, none, none, some 95, some 96, some 97], [], [], [], [], [some 99, some 100, some 101], [], [], [some 102, some 103, some 104, some 105, some 106, some 107], [], [], [], [], [], [], [], [none, none, some 110, some 111, some 112, some 113], [], [], [], []]
end
section
/-! A run doesn't care by which numbers cells are told, nor for what it can't reach (kind 31). One way: what goes through, goes through there too. -/
def q_Pi (p : Nat → Nat) (K0 G0 : List (Nat × Nat)) : Prop := (∀ a b, p a = p b → a = b) ∧ (p 0 = 0) ∧ (p 1 = 1) ∧ (∀ a, K0.length ≤ a → p a = a) ∧ (G0.length = K0.length) ∧ (2 ≤ K0.length ∧ K0.length ≤ 1000000) ∧ (∀ a, a < K0.length → K0[a]? = some (31, 0) ∨ G0[p a]? = K0[a]?)
theorem q_Pi.inj {p : Nat → Nat} {K0 G0 : List (Nat × Nat)} (O : q_Pi p K0 G0) : ∀ a b, p a = p b → a = b := O.1
theorem q_Pi.z0 {p : Nat → Nat} {K0 G0 : List (Nat × Nat)} (O : q_Pi p K0 G0) : p 0 = 0 := O.2.1
theorem q_Pi.z1 {p : Nat → Nat} {K0 G0 : List (Nat × Nat)} (O : q_Pi p K0 G0) : p 1 = 1 := O.2.2.1
theorem q_Pi.ge {p : Nat → Nat} {K0 G0 : List (Nat × Nat)} (O : q_Pi p K0 G0) : ∀ a, K0.length ≤ a → p a = a := O.2.2.2.1
theorem q_Pi.len {p : Nat → Nat} {K0 G0 : List (Nat × Nat)} (O : q_Pi p K0 G0) : G0.length = K0.length := O.2.2.2.2.1
theorem q_Pi.big {p : Nat → Nat} {K0 G0 : List (Nat × Nat)} (O : q_Pi p K0 G0) : 2 ≤ K0.length ∧ K0.length ≤ 1000000 := O.2.2.2.2.2.1
theorem q_Pi.kin {p : Nat → Nat} {K0 G0 : List (Nat × Nat)} (O : q_Pi p K0 G0) : ∀ a, a < K0.length → K0[a]? = some (31, 0) ∨ G0[p a]? = K0[a]? := O.2.2.2.2.2.2
section Q0
variable {p : Nat → Nat} {K0 G0 : List (Nat × Nat)}
theorem q_eq (O : q_Pi p K0 G0) (a b : Nat) : (p a = p b) ↔ (a = b) := ⟨O.inj a b, fun h => by rw [h]⟩
theorem q_lt (O : q_Pi p K0 G0) {a n : Nat} (h : K0.length ≤ n) : (p a < n) ↔ (a < n) := by
  by_cases e : K0.length ≤ a
  · rw [O.ge a e]
  · constructor
    · intro _; omega
    · intro _
      refine Classical.byContradiction (fun h1 => ?_)
      have h2 := O.ge (p a) (by omega)
      have h3 := O.inj _ _ h2
      omega
theorem q_lt2 (O : q_Pi p K0 G0) (a : Nat) : (p a < 2) ↔ (a < 2) := by
  have h0 := O.z0
  have h1 := O.z1
  constructor
  · intro h
    have h2 : p a = p 0 ∨ p a = p 1 := by omega
    rcases h2 with h2 | h2
    · have := O.inj _ _ h2; omega
    · have := O.inj _ _ h2; omega
  · intro h
    have h2 : a = 0 ∨ a = 1 := by omega
    rcases h2 with rfl | rfl <;> omega
theorem q_le2 (O : q_Pi p K0 G0) (a : Nat) : (2 ≤ p a) ↔ (2 ≤ a) := by have := q_lt2 O a; omega
end Q0
def q_v (p : Nat → Nat) : j_V → j_V
  | .inr (.inr a) => jR (p a)
  | .inr (.inl x) => jL x
  | .inl x => jI x
abbrev q_f (p : Nat → Nat) : Option j_V → Option j_V := Option.map (q_v p)
def q_H (p : Nat → Nat) (K0 G0 : List (Nat × Nat)) (h g : j_H) : Prop := (∃ T, h.1 = K0 ++ T ∧ g.1 = G0 ++ T) ∧ (h.2.1.length = h.1.length ∧ g.2.1.length = h.1.length) ∧ (∀ a, g.2.1.getD (p a) [] = (h.2.1.getD a []).map (Option.map p)) ∧ (∀ a i, h.1[a]? ≠ some (31, 0) → g.2.2 (p a) i = h.2.2 a i)
section Q1
variable {p : Nat → Nat} {K0 G0 : List (Nat × Nat)} {h g : j_H}
theorem q_l (O : q_Pi p K0 G0) (w : q_H p K0 G0 h g) : g.1.length = h.1.length ∧ K0.length ≤ h.1.length := by
  obtain ⟨⟨T, h1, h2⟩, -⟩ := w
  rw [h1, h2, List.length_append, List.length_append, O.len]
  omega
theorem q_k (O : q_Pi p K0 G0) (w : q_H p K0 G0 h g) (a : Nat) : h.1[a]? = some (31, 0) ∨ g.1[p a]? = h.1[a]? := by
  obtain ⟨⟨T, h1, h2⟩, -⟩ := w
  rw [h1, h2]
  by_cases e : a < K0.length
  · rw [List.getElem?_append_left e, List.getElem?_append_left (l₁ := G0) (by rw [O.len]; exact (q_lt O (Nat.le_refl _)).mpr e)]
    exact O.kin a e
  · rw [O.ge a (by omega), List.getElem?_append_right (l₁ := K0) (by omega), List.getElem?_append_right (l₁ := G0) (by rw [O.len]; omega), O.len]
    exact .inr rfl
theorem q_k1 (O : q_Pi p K0 G0) (w : q_H p K0 G0 h g) {a : Nat} {q : Nat × Nat} (hq : q.1 ≠ 31) (e : h.1[a]? = some q) : g.1[p a]? = some q ∧ h.1[a]? ≠ some (31, 0) := by
  have h1 : h.1[a]? ≠ some (31, 0) := by
    rw [e]
    intro h2
    cases h2
    exact hq rfl
  rcases q_k O w a with h2 | h2
  · exact absurd h2 h1
  · exact ⟨h2.trans e, h1⟩
theorem q_kn (O : q_Pi p K0 G0) (w : q_H p K0 G0 h g) {a : Nat} : (h.1[a]? = none) ↔ (g.1[p a]? = none) := by
  have hl := q_l O w
  rw [List.getElem?_eq_none_iff, List.getElem?_eq_none_iff, hl.1]
  have := q_lt O (a := a) hl.2
  omega
theorem q_kp (O : q_Pi p K0 G0) (w : q_H p K0 G0 h g) {a : Nat} (e : h.1[a]? = none) : p a = a := O.ge a (by have := (q_l O w).2; have := List.getElem?_eq_none_iff.mp e; omega)
theorem q_kd (O : q_Pi p K0 G0) (w : q_H p K0 G0 h g) {a : Nat} {q : Nat × Nat} (hq : q.1 ≠ 31) (e : j_kd h a = some q) : j_kd g (p a) = some q ∧ h.1[a]? ≠ some (31, 0) := by
  unfold j_kd at e ⊢
  cases e1 : h.1[a]? with
  | none =>
    rw [e1] at e
    rw [(q_kn O w).mp e1, q_kp O w e1]
    exact ⟨e, fun h2 => by cases h2⟩
  | some q2 =>
    rw [e1] at e
    cases e
    obtain ⟨h1, h2⟩ := q_k1 O w hq e1
    rw [h1]
    exact ⟨rfl, e1 ▸ h2⟩
theorem q_any (O : q_Pi p K0 G0) (w : q_H p K0 G0 h g) (e : h.1.any (fun q => q.1 == 33) = true) : g.1.any (fun q => q.1 == 33) = true := by
  obtain ⟨q, h1, h2⟩ := List.any_eq_true.mp e
  obtain ⟨a, ha⟩ := List.mem_iff_getElem?.mp h1
  have h3 : q.1 = 33 := by simpa using h2
  exact List.any_eq_true.mpr ⟨q, List.mem_of_getElem? (q_k1 O w (by omega) ha).1, h2⟩
theorem q_rf (w : q_H p K0 G0 h g) (a k : Nat) : j_rf g (p a) k = (j_rf h a k).map p := by
  unfold j_rf
  rw [w.2.2.1 a]
  generalize h.2.1.getD a [] = l
  rw [List.getD_eq_getElem?_getD, List.getD_eq_getElem?_getD, List.getElem?_map]
  cases l[k]? <;> rfl
theorem q_rk1 (O : q_Pi p K0 G0) (w : q_H p K0 G0 h g) (a k : Nat) : j_rk1 g (p a) k = (j_rk1 h a k).map p := by
  unfold j_rk1
  cases e : h.1[a]? with
  | none =>
    rw [(q_kn O w).mp e, q_kp O w e]
    dsimp only
    by_cases e1 : 1000000 ≤ a ∧ k = 0
    · rw [if_pos e1]
      show _ = some (p (a + 1))
      rw [O.ge (a + 1) (by have := O.big.2; omega)]
    · rw [if_neg e1]
      rfl
  | some q =>
    cases e2 : g.1[p a]? with
    | none => rw [(q_kn O w).mpr e2] at e; cases e
    | some q2 => exact q_rf w a k
theorem q_up (O : q_Pi p K0 G0) (w : q_H p K0 G0 h g) (a i : Nat) (x : Int) : q_H p K0 G0 (h.1, h.2.1, j_up h.2.2 a i x) (g.1, g.2.1, j_up g.2.2 (p a) i x) := by
  obtain ⟨w1, w2, w3, w4⟩ := w
  refine ⟨w1, w2, w3, fun b j hb => ?_⟩
  have h4 := w4 b
  show (if p b = p a then (if j = i then x else g.2.2 (p b) j) else g.2.2 (p b) j) = (if b = a then (if j = i then x else h.2.2 b j) else h.2.2 b j)
  simp only [q_eq O, w4 b _ hb]
theorem q_getD_set {α : Type} {l : List α} {a b : Nat} {x d : α} : (l.set a x).getD b d = if b = a ∧ a < l.length then x else l.getD b d := by
  rw [List.getD_eq_getElem?_getD, List.getD_eq_getElem?_getD, List.getElem?_set]
  by_cases e : a = b
  · subst e
    by_cases e2 : a < l.length
    · rw [if_pos rfl, if_pos e2, if_pos ⟨rfl, e2⟩]; rfl
    · rw [if_pos rfl, if_neg e2, if_neg (fun h => e2 h.2), List.getElem?_eq_none (by omega)]
  · rw [if_neg e, if_neg (fun h => e h.1.symm)]
theorem q_srf (O : q_Pi p K0 G0) (w : q_H p K0 G0 h g) (a k b : Nat) : q_H p K0 G0 (h.1, j_srf h a k b, h.2.2) (g.1, j_srf g (p a) k (p b), g.2.2) := by
  have hl := q_l O w
  obtain ⟨w1, w2, w3, w4⟩ := w
  refine ⟨w1, ⟨?_, ?_⟩, fun c => ?_, w4⟩
  · show (List.set _ _ _).length = _
    rw [List.length_set]; exact w2.1
  · show (List.set _ _ _).length = _
    rw [List.length_set]; exact w2.2
  show (g.2.1.set (p a) ((g.2.1.getD (p a) []).set k (some (p b)))).getD (p c) [] = ((h.2.1.set a ((h.2.1.getD a []).set k (some b))).getD c []).map (Option.map p)
  have e1 : (p a < g.2.1.length) ↔ (a < h.2.1.length) := by rw [w2.1, w2.2]; exact q_lt O hl.2
  rw [q_getD_set, q_getD_set]
  simp only [q_eq O, e1]
  by_cases e : c = a ∧ a < h.2.1.length
  · rw [if_pos e, if_pos e, w3 a, List.map_set]
    rfl
  · rw [if_neg e, if_neg e, w3 c]
theorem q_cpy (O : q_Pi p K0 G0) (w : q_H p K0 G0 h g) {a : Nat} (ha : h.1[a]? ≠ some (31, 0)) (sp b dp n : Nat) : q_H p K0 G0 (h.1, h.2.1, j_cpy h.2.2 a sp b dp n) (g.1, g.2.1, j_cpy g.2.2 (p a) sp (p b) dp n) := by
  obtain ⟨w1, w2, w3, w4⟩ := w
  refine ⟨w1, w2, w3, fun c j hc => ?_⟩
  show (if p c = p b then (if dp ≤ j ∧ j < dp + n then g.2.2 (p a) (sp + (j - dp)) else g.2.2 (p c) j) else g.2.2 (p c) j) = (if c = b then (if dp ≤ j ∧ j < dp + n then h.2.2 a (sp + (j - dp)) else h.2.2 c j) else h.2.2 c j)
  simp only [q_eq O, w4 c _ hc, w4 a _ ha]
theorem q_app0 (O : q_Pi p K0 G0) (w : q_H p K0 G0 h g) (c : Nat × Nat) {s s' : List (Option Nat)} (hp : s' = s.map (Option.map p)) {m m' : j_M0} (hm : ∀ a i, (h.1 ++ [c])[a]? ≠ some (31, 0) → m' (p a) i = m a i) : q_H p K0 G0 (h.1 ++ [c], h.2.1 ++ [s], m) (g.1 ++ [c], g.2.1 ++ [s'], m') := by
  have hl := q_l O w
  obtain ⟨⟨T, w1, w1'⟩, w2, w3, w4⟩ := w
  refine ⟨⟨T ++ [c], ?_, ?_⟩, ⟨?_, ?_⟩, fun a => ?_, hm⟩
  · show h.1 ++ [c] = _
    rw [w1, List.append_assoc]
  · show g.1 ++ [c] = _
    rw [w1', List.append_assoc]
  · show (h.2.1 ++ [s]).length = (h.1 ++ [c]).length
    rw [List.length_append, List.length_append, w2.1]; rfl
  · show (g.2.1 ++ [s']).length = (h.1 ++ [c]).length
    rw [List.length_append, List.length_append, w2.2]; rfl
  · show (g.2.1 ++ [s']).getD (p a) [] = ((h.2.1 ++ [s]).getD a []).map (Option.map p)
    by_cases e : a < h.2.1.length
    · have e2 : p a < g.2.1.length := by rw [w2.2]; rw [w2.1] at e; exact (q_lt O hl.2).mpr e
      have h3 := w3 a
      rw [List.getD_eq_getElem?_getD, List.getD_eq_getElem?_getD] at h3 ⊢
      rw [List.getElem?_append_left e, List.getElem?_append_left e2]
      exact h3
    · have e1 : h.1.length ≤ a := by rw [← w2.1]; omega
      rw [O.ge _ (by omega), List.getD_eq_getElem?_getD, List.getD_eq_getElem?_getD, List.getElem?_append_right (by omega), List.getElem?_append_right (by omega), w2.1, w2.2]
      by_cases e3 : a = h.1.length
      · rw [e3, Nat.sub_self]
        exact hp
      · rw [List.getElem?_eq_none (by simp; omega), List.getElem?_eq_none (by simp; omega)]
        rfl
theorem q_len (O : q_Pi p K0 G0) (w : q_H p K0 G0 h g) (a : Nat) : (p a = g.1.length) ↔ (a = h.1.length) := by
  have hl := q_l O w
  rw [hl.1]
  constructor
  · intro e; exact O.inj _ _ (e.trans (O.ge _ hl.2).symm)
  · intro e; rw [e, O.ge _ hl.2]
theorem q_31 (O : q_Pi p K0 G0) (w : q_H p K0 G0 h g) {c : Nat × Nat} {a : Nat} (e : a ≠ h.1.length) (ha : (h.1 ++ [c])[a]? ≠ some (31, 0)) : h.1[a]? ≠ some (31, 0) := by
  intro h1
  have h2 := (List.getElem?_eq_some_iff.mp h1).1
  rw [List.getElem?_append_left h2] at ha
  exact ha h1
theorem q_app (O : q_Pi p K0 G0) (w : q_H p K0 G0 h g) (c : Nat × Nat) {s s' : List (Option Nat)} (hp : s' = s.map (Option.map p)) : q_H p K0 G0 (h.1 ++ [c], h.2.1 ++ [s], j_zero h.2.2 h.1.length) (g.1 ++ [c], g.2.1 ++ [s'], j_zero g.2.2 g.1.length) := by
  refine q_app0 O w c hp (fun a i ha => ?_)
  show (if p a = g.1.length then 0 else g.2.2 (p a) i) = (if a = h.1.length then 0 else h.2.2 a i)
  simp only [q_len O w]
  by_cases e : a = h.1.length
  · rw [if_pos e, if_pos e]
  · rw [if_neg e, if_neg e]
    exact w.2.2.2 a i (q_31 O w e ha)
theorem q_rep (n : Nat) : (List.replicate n (none : Option Nat)) = (List.replicate n none).map (Option.map p) := by rw [List.map_replicate]; rfl
theorem q_new (O : q_Pi p K0 G0) (w : q_H p K0 G0 h g) (c n : Nat) : q_H p K0 G0 (j_new h c n) (j_new g c n) := q_app O w (c, n) (q_rep _)
theorem q_mul (O : q_Pi p K0 G0) {h g : j_H} (w : q_H p K0 G0 h g) (n : Nat) : ∀ k, q_H p K0 G0 (j_mul h n k) (j_mul g n k)
  | 0 => w
  | k + 1 => q_new O (q_mul O w n k) 33 n
theorem q_mna (O : q_Pi p K0 G0) (w : q_H p K0 G0 h g) (k n : Nat) : q_H p K0 G0 (j_mna h k n) (j_mna g k n) := by
  have hl := q_l O w
  refine q_mul O (q_app O w (36, k) ?_) n k
  rw [List.map_map, hl.1]
  refine List.map_congr_left (fun i _ => ?_)
  show some (h.1.length + 1 + i) = some (p (h.1.length + 1 + i))
  rw [O.ge _ (by omega)]
theorem q_cln (O : q_Pi p K0 G0) (w : q_H p K0 G0 h g) {a : Nat} (ha : h.1[a]? ≠ some (31, 0)) (n : Nat) : q_H p K0 G0 (j_cln h a n) (j_cln g (p a) n) := by
  refine q_app0 O w (34, n) (s := []) rfl (fun c j hc => ?_)
  have hz : ∀ (d k : Nat), h.1[d]? ≠ some (31, 0) → j_zero g.2.2 g.1.length (p d) k = j_zero h.2.2 h.1.length d k := by
    intro d k hd
    show (if p d = g.1.length then 0 else g.2.2 (p d) k) = (if d = h.1.length then 0 else h.2.2 d k)
    simp only [q_len O w, w.2.2.2 d k hd]
  show (if p c = g.1.length then (if 0 ≤ j ∧ j < 0 + n then j_zero g.2.2 g.1.length (p a) (0 + (j - 0)) else j_zero g.2.2 g.1.length (p c) j) else j_zero g.2.2 g.1.length (p c) j) = (if c = h.1.length then (if 0 ≤ j ∧ j < 0 + n then j_zero h.2.2 h.1.length a (0 + (j - 0)) else j_zero h.2.2 h.1.length c j) else j_zero h.2.2 h.1.length c j)
  rw [hz a _ ha]
  simp only [q_len O w]
  by_cases e : c = h.1.length
  · have e2 : j_zero g.2.2 g.1.length (p c) j = j_zero h.2.2 h.1.length c j := by
      show (if p c = g.1.length then 0 else g.2.2 (p c) j) = (if c = h.1.length then 0 else h.2.2 c j)
      rw [if_pos ((q_len O w c).mpr e), if_pos e]
    rw [e2]
  · rw [if_neg e, if_neg e, hz c j (q_31 O w e hc)]
theorem q_byt (O : q_Pi p K0 G0) (w : q_H p K0 G0 h g) {a : Nat} (ha : h.1[a]? ≠ some (31, 0)) (sp n : Nat) : j_byt g.2.2 (p a) sp n = j_byt h.2.2 a sp n := by
  unfold j_byt
  congr 1
  funext i
  rw [w.2.2.2 a _ ha]
end Q1
/-! no class by the number 31 -/
def q_31k (r : Nat × j_I) : Bool := match r.2.1 with
  | .getfield _ => r.2.2.1 != 31
  | .putfield _ => r.2.2.1 != 31
  | _ => true
theorem q_31c : j_code.all (fun c => c.all q_31k) = true := by decide +kernel
theorem q_31m : j_meth.all (fun m => j_rcv m.2.2.2.2.1 != 31) = true := by decide +kernel
theorem q_31a {y pc : Nat} {i : j_I} (e : j_at y pc = some i) : q_31k (pc, i) = true := by
  unfold j_at at e
  cases e1 : j_code[y]? with
  | none => rw [e1] at e; cases e
  | some c =>
    rw [e1] at e
    have h1 := List.all_eq_true.mp q_31c c (List.mem_of_getElem? e1)
    exact List.all_eq_true.mp h1 _ (j_lk_mem e)
theorem q_31y {y : Nat} {m : j_M} (e : j_meth[y]? = some m) : j_rcv m.2.2.2.2.1 ≠ 31 := by
  have h1 := List.all_eq_true.mp q_31m m (List.mem_of_getElem? e)
  simpa using h1
/-! answers -/
def q_R (p : Nat → Nat) (K0 G0 : List (Nat × Nat)) : j_R → j_R → Prop
  | none, _ => True
  | some (.inl (a, ls, st, h)), some (.inl (b, lt, su, g)) => b = a ∧ lt = ls.map (q_f p) ∧ su = st.map (q_v p) ∧ q_H p K0 G0 h g
  | some (.inr (.inl (v, h))), some (.inr (.inl (u, g))) => u = q_f p v ∧ q_H p K0 G0 h g
  | some (.inr (.inr (k, as, r))), some (.inr (.inr (j, bs, s))) => j = k ∧ bs = as.map (q_v p) ∧ s = r.map (q_v p)
  | _, _ => False
section Q_R
variable {p : Nat → Nat} {K0 G0 : List (Nat × Nat)} {h g : j_H} {st : List j_V} {ls : j_L}
theorem q_ld (ls : j_L) (k : Nat) : j_ld (ls.map (q_f p)) k = q_f p (j_ld ls k) := by
  unfold j_ld
  rw [List.getElem?_map]
  cases ls[k]? <;> rfl
theorem q_isL (v : j_V) : j_isL (q_v p v) = j_isL v := by rcases v with x | x | x <;> rfl
theorem q_cat (v : j_V) : j_cat (q_v p v) = j_cat v := by rcases v with x | x | x <;> rfl
theorem q_cats (r : List j_V) : (r.map (q_v p)).map j_cat = r.map j_cat := by
  rw [List.map_map]
  exact List.map_congr_left (fun v _ => q_cat v)
theorem q_pre (ls : j_L) (k : Nat) : j_pre (ls.map (q_f p)) k = j_pre ls k := by
  unfold j_pre
  cases k with
  | zero => rfl
  | succ k =>
    simp only [List.getElem?_map]
    rcases ls[k]? with _ | (_ | v)
    · rfl
    · rfl
    · show (!(j_isL (q_v p v))) = _
      rw [q_isL]
theorem q_s1 (ls : j_L) (k : Nat) (v : j_V) : j_s1 (ls.map (q_f p)) k (q_v p v) = (j_s1 ls k v).map (List.map (q_f p)) := by
  unfold j_s1
  rw [q_pre, List.length_map]
  split
  · split
    · rw [Option.map_some, List.map_set]; rfl
    · rfl
  · rfl
theorem q_s2 (ls : j_L) (k : Nat) (v : j_V) : j_s2 (ls.map (q_f p)) k (q_v p v) = (j_s2 ls k v).map (List.map (q_f p)) := by
  unfold j_s2
  rw [q_pre, List.length_map]
  split
  · split
    · rw [Option.map_some, List.map_set, List.map_set]; rfl
    · rfl
  · rfl
theorem q_uI {k k' : Int → List j_V → j_R} (H : ∀ x r, q_R p K0 G0 (k x r) (k' x (r.map (q_v p)))) : q_R p K0 G0 (j_uI st none k) (j_uI (st.map (q_v p)) none k') := by
  rcases st with _ | ⟨x | x | x, r⟩ <;> first | exact True.intro | exact H _ _
theorem q_uL {k k' : Int → List j_V → j_R} (H : ∀ x r, q_R p K0 G0 (k x r) (k' x (r.map (q_v p)))) : q_R p K0 G0 (j_uL st none k) (j_uL (st.map (q_v p)) none k') := by
  rcases st with _ | ⟨x | x | x, r⟩ <;> first | exact True.intro | exact H _ _
theorem q_bI {k k' : Int → Int → List j_V → j_R} (H : ∀ x y r, q_R p K0 G0 (k x y r) (k' x y (r.map (q_v p)))) : q_R p K0 G0 (j_bI st none k) (j_bI (st.map (q_v p)) none k') := by
  rcases st with _ | ⟨x | x | x, _ | ⟨y | y | y, r⟩⟩ <;> first | exact True.intro | exact H _ _ _
theorem q_bL {k k' : Int → Int → List j_V → j_R} (H : ∀ x y r, q_R p K0 G0 (k x y r) (k' x y (r.map (q_v p)))) : q_R p K0 G0 (j_bL st none k) (j_bL (st.map (q_v p)) none k') := by
  rcases st with _ | ⟨x | x | x, _ | ⟨y | y | y, r⟩⟩ <;> first | exact True.intro | exact H _ _ _
theorem q_el {k k' : Nat → Int → List j_V → j_R} (H : ∀ a i r, q_R p K0 G0 (k a i r) (k' (p a) i (r.map (q_v p)))) : q_R p K0 G0 (j_el st none k) (j_el (st.map (q_v p)) none k') := by
  rcases st with _ | ⟨x | x | x, _ | ⟨y | y | y, r⟩⟩ <;> first | exact True.intro | exact H _ _ _
theorem q_sI {k k' : Nat → Int → Int → List j_V → j_R} (H : ∀ a i x r, q_R p K0 G0 (k a i x r) (k' (p a) i x (r.map (q_v p)))) : q_R p K0 G0 (j_sI st none k) (j_sI (st.map (q_v p)) none k') := by
  rcases st with _ | ⟨x | x | x, _ | ⟨y | y | y, _ | ⟨z | z | z, r⟩⟩⟩ <;> first | exact True.intro | exact H _ _ _ _
theorem q_sL {k k' : Nat → Int → Int → List j_V → j_R} (H : ∀ a i x r, q_R p K0 G0 (k a i x r) (k' (p a) i x (r.map (q_v p)))) : q_R p K0 G0 (j_sL st none k) (j_sL (st.map (q_v p)) none k') := by
  rcases st with _ | ⟨x | x | x, _ | ⟨y | y | y, _ | ⟨z | z | z, r⟩⟩⟩ <;> first | exact True.intro | exact H _ _ _ _
theorem q_rg (O : q_Pi p K0 G0) (w : q_H p K0 G0 h g) {a kd : Nat} {i : Int} (hk : kd ≠ 31) {k k' : j_R} (H : h.1[a]? ≠ some (31, 0) → q_R p K0 G0 k k') : q_R p K0 G0 (j_rg h a kd i none k) (j_rg g (p a) kd i none k') := by
  unfold j_rg
  cases e : h.1[a]? with
  | none => exact True.intro
  | some q =>
    obtain ⟨c, n⟩ := q
    by_cases e1 : c = kd
    · obtain ⟨e2, e3⟩ := q_k1 O w (q := (c, n)) (by show c ≠ 31; omega) e
      rw [e2]
      dsimp only
      rw [if_pos e1, if_pos e1]
      by_cases e4 : 0 ≤ i ∧ i < n
      · rw [if_pos e4, if_pos e4]
        exact H (e ▸ e3)
      · rw [if_neg e4]
        exact True.intro
    · dsimp only
      rw [if_neg e1]
      exact True.intro
theorem q_ob (O : q_Pi p K0 G0) (w : q_H p K0 G0 h g) {a c : Nat} (hk : c ≠ 31) {k k' : j_R} (H : h.1[a]? ≠ some (31, 0) → q_R p K0 G0 k k') : q_R p K0 G0 (j_ob h a c none k) (j_ob g (p a) c none k') := by
  unfold j_ob
  cases e : h.1[a]? with
  | none => exact True.intro
  | some q =>
    obtain ⟨d, n⟩ := q
    by_cases e1 : d = c
    · obtain ⟨e2, e3⟩ := q_k1 O w (q := (d, n)) (by show d ≠ 31; omega) e
      rw [e2]
      dsimp only
      rw [if_pos e1, if_pos e1]
      exact H (e ▸ e3)
    · dsimp only
      rw [if_neg e1]
      exact True.intro
theorem q_obk (O : q_Pi p K0 G0) (w : q_H p K0 G0 h g) {a c : Nat} (hk : c ≠ 31) {k k' : j_R} (H : h.1[a]? ≠ some (31, 0) → q_R p K0 G0 k k') : q_R p K0 G0 (j_obk h a c none k) (j_obk g (p a) c none k') := by
  unfold j_obk
  cases e : j_kd h a with
  | none => exact True.intro
  | some q =>
    obtain ⟨d, n⟩ := q
    by_cases e1 : d = c
    · obtain ⟨e2, e3⟩ := q_kd O w (q := (d, n)) (by show d ≠ 31; omega) e
      rw [e2]
      dsimp only
      rw [if_pos e1, if_pos e1]
      exact H e3
    · dsimp only
      rw [if_neg e1]
      exact True.intro
theorem q_fk (O : q_Pi p K0 G0) (w : q_H p K0 G0 h g) {a n : Nat} {k k' : j_R} (H : q_R p K0 G0 k k') : q_R p K0 G0 (j_fk h a n none k) (j_fk g (p a) n none k') := by
  unfold j_fk
  cases e : h.1[a]? with
  | none =>
    rw [(q_kn O w).mp e]
    dsimp only
    split
    · exact H
    · exact True.intro
  | some q =>
    cases e2 : g.1[p a]? with
    | none => rw [(q_kn O w).mpr e2] at e; cases e
    | some q2 => exact H
theorem q_obs (O : q_Pi p K0 G0) (w : q_H p K0 G0 h g) {a y : Nat} {k k' : j_R} (H : q_R p K0 G0 k k') : q_R p K0 G0 (j_obs h a y none k) (j_obs g (p a) y none k') := by
  unfold j_obs
  cases e : j_meth[y]? with
  | none => exact True.intro
  | some m =>
    dsimp only
    split
    · exact H
    · exact q_obk O w (q_31y e) (fun _ => H)
theorem q_op {β γ : Type} {o : Option β} {f : β → γ} {k : β → j_R} {k' : γ → j_R} (H : ∀ b, q_R p K0 G0 (k b) (k' (f b))) : q_R p K0 G0 (j_op o none k) (j_op (o.map f) none k') := by
  cases o with
  | none => exact True.intro
  | some b => exact H b
theorem q_get (O : q_Pi p K0 G0) (w : q_H p K0 G0 h g) {a c n : Nat} (ha : h.1[a]? ≠ some (31, 0)) {k k' : j_V → j_R} (H : ∀ v, q_R p K0 G0 (k v) (k' (q_v p v))) : q_R p K0 G0 (j_get h a c n none k) (j_get g (p a) c n none k') := by
  unfold j_get
  rw [w.2.2.2 a n ha, q_rk1 O w]
  split
  · exact H (jI _)
  · exact H (jL _)
  · exact H (jI _)
  · exact q_op (fun b => H (jR b))
theorem q_put (O : q_Pi p K0 G0) (w : q_H p K0 G0 h g) {a c n : Nat} {v : j_V} {k k' : j_H → j_R} (H : ∀ h1 g1, q_H p K0 G0 h1 g1 → q_R p K0 G0 (k h1) (k' g1)) : q_R p K0 G0 (j_put h a c n v none k) (j_put g (p a) c n (q_v p v) none k') := by
  unfold j_put
  split
  · rcases v with x | x | x
    · exact H _ _ (q_up O w a n x)
    · exact True.intro
    · exact True.intro
  · rcases v with x | x | x
    · exact True.intro
    · exact H _ _ (q_up O w a n x)
    · exact True.intro
  · rcases v with x | x | x
    · show q_R p K0 G0 (if x = 0 ∨ x = 1 then _ else none) (if x = 0 ∨ x = 1 then _ else none)
      split
      · exact H _ _ (q_up O w a n x)
      · exact True.intro
    · exact True.intro
    · exact True.intro
  · rcases v with x | x | x
    · exact True.intro
    · exact True.intro
    · exact H _ _ (q_srf O w a n x)
theorem q_if {c : Int → Prop} [DecidablePred c] {t t' f f' : List j_V → j_R} (Ht : ∀ r, q_R p K0 G0 (t r) (t' (r.map (q_v p)))) (Hf : ∀ r, q_R p K0 G0 (f r) (f' (r.map (q_v p)))) : q_R p K0 G0 (j_if st none c t f) (j_if (st.map (q_v p)) none c t' f') := by
  rcases st with _ | ⟨x | x | x, r⟩
  · exact True.intro
  · show q_R p K0 G0 (if c x then t r else f r) (if c x then t' (r.map (q_v p)) else f' (r.map (q_v p)))
    split
    · exact Ht r
    · exact Hf r
  · exact True.intro
  · exact True.intro
theorem q_if2 {c : Int → Int → Prop} [∀ x y, Decidable (c x y)] {t t' f f' : List j_V → j_R} (Ht : ∀ r, q_R p K0 G0 (t r) (t' (r.map (q_v p)))) (Hf : ∀ r, q_R p K0 G0 (f r) (f' (r.map (q_v p)))) : q_R p K0 G0 (j_if2 st none c t f) (j_if2 (st.map (q_v p)) none c t' f') := by
  rcases st with _ | ⟨x | x | x, _ | ⟨y | y | y, r⟩⟩
  all_goals first | exact True.intro | skip
  show q_R p K0 G0 (if c y x then t r else f r) (if c y x then t' (r.map (q_v p)) else f' (r.map (q_v p)))
  split
  · exact Ht r
  · exact Hf r
theorem q_N (w : q_H p K0 G0 h g) {pc : Nat} : q_R p K0 G0 (some (.inl (pc, ls, st, h))) (some (.inl (pc, ls.map (q_f p), st.map (q_v p), g))) := ⟨rfl, rfl, rfl, w⟩
set_option maxHeartbeats 4000000 in
theorem q_step (O : q_Pi p K0 G0) (w : q_H p K0 G0 h g) (y pc : Nat) (ls : j_L) (st : List j_V) : q_R p K0 G0 (j_res y pc ls st h) (j_res y pc (ls.map (q_f p)) (st.map (q_v p)) g) := by
  unfold j_res j_step
  cases hat : j_at y pc with
  | none => exact True.intro
  | some q =>
    have h31 := q_31a hat
    obtain ⟨i, a, b, z⟩ := q
    simp only [j_op]
    cases i
    case aload_n | aload | iload_n | iload | lload_n | lload =>
      dsimp only
      rw [q_ld]
      rcases j_ld ls _ with _ | (x | x | x) <;> first | exact True.intro | exact q_N w
    case iinc k n =>
      dsimp only
      rw [q_ld]
      rcases j_ld ls _ with _ | (x | x | x)
      · exact True.intro
      · show q_R p K0 G0 (j_op (j_s1 ls k (jI (w32 (x + n)))) none _) (j_op (j_s1 (ls.map (q_f p)) k (q_v p (jI (w32 (x + n))))) none _)
        rw [q_s1]
        exact q_op (fun l => q_N w)
      · exact True.intro
      · exact True.intro
    case istore_n k =>
      refine q_uI (fun x r => ?_)
      show q_R p K0 G0 (j_op (j_s1 ls k.val (jI x)) none _) (j_op (j_s1 (ls.map (q_f p)) k.val (q_v p (jI x))) none _)
      rw [q_s1]
      exact q_op (fun l => q_N w)
    case istore k =>
      refine q_uI (fun x r => ?_)
      show q_R p K0 G0 (j_op (j_s1 ls k (jI x)) none _) (j_op (j_s1 (ls.map (q_f p)) k (q_v p (jI x))) none _)
      rw [q_s1]
      exact q_op (fun l => q_N w)
    case lstore_n k =>
      refine q_uL (fun x r => ?_)
      show q_R p K0 G0 (j_op (j_s2 ls k.val (jL x)) none _) (j_op (j_s2 (ls.map (q_f p)) k.val (q_v p (jL x))) none _)
      rw [q_s2]
      exact q_op (fun l => q_N w)
    case lstore k =>
      refine q_uL (fun x r => ?_)
      show q_R p K0 G0 (j_op (j_s2 ls k (jL x)) none _) (j_op (j_s2 (ls.map (q_f p)) k (q_v p (jL x))) none _)
      rw [q_s2]
      exact q_op (fun l => q_N w)
    case astore_n k =>
      rcases st with _ | ⟨x | x | x, r⟩
      · exact True.intro
      · exact True.intro
      · exact True.intro
      · show q_R p K0 G0 (j_op (j_s1 ls k.val (jR x)) none _) (j_op (j_s1 (ls.map (q_f p)) k.val (q_v p (jR x))) none _)
        rw [q_s1]
        exact q_op (fun l => q_N w)
    case astore k =>
      rcases st with _ | ⟨x | x | x, r⟩
      · exact True.intro
      · exact True.intro
      · exact True.intro
      · show q_R p K0 G0 (j_op (j_s1 ls k (jR x)) none _) (j_op (j_s1 (ls.map (q_f p)) k (q_v p (jR x))) none _)
        rw [q_s1]
        exact q_op (fun l => q_N w)
    case iconst | bipush | sipush | lconst | ldc2_w | goto => exact q_N w
    case ldc =>
      dsimp only
      split
      · exact q_N w
      · split
        · have e := q_N (ls := ls) (st := jR (1000000 + 2 * b) :: st) (pc := pc + 2) w
          rw [List.map_cons, show q_v p (jR (1000000 + 2 * b)) = jR (1000000 + 2 * b) from congrArg jR (O.ge _ (by have := O.big.2; omega))] at e
          exact e
        · exact True.intro
    case ldc_w =>
      dsimp only
      split
      · exact q_N w
      · exact True.intro
    case getstatic =>
      dsimp only
      split
      · have e := q_N (ls := ls) (st := jR 1 :: st) (pc := pc + 3) w
        rw [List.map_cons, show q_v p (jR 1) = jR 1 from congrArg jR O.z1] at e
        exact e
      · split
        · exact q_N w
        · split
          · have e := q_N (ls := ls) (st := jR (999924 + a) :: st) (pc := pc + 3) w
            rw [List.map_cons, show q_v p (jR (999924 + a)) = jR (999924 + a) from congrArg jR (O.ge _ (by have := O.big.2; omega))] at e
            exact e
          · exact True.intro
    case iadd | isub | imul | iand | ixor | iushr | ishl | ishr => exact q_bI (fun x y r => q_N w)
    case idiv | irem =>
      refine q_bI (fun x y r => ?_)
      split
      · exact True.intro
      · exact q_N w
    case ineg | i2l | i2b | i2s | i2c => exact q_uI (fun x r => q_N w)
    case ladd | lsub | lmul | land | lor | lxor | lcmp => exact q_bL (fun x y r => q_N w)
    case ldiv | lrem =>
      refine q_bL (fun x y r => ?_)
      split
      · exact True.intro
      · exact q_N w
    case lneg | l2i => exact q_uL (fun x r => q_N w)
    case lshl =>
      rcases st with _ | ⟨x | x | x, _ | ⟨y | y | y, r⟩⟩ <;> first | exact True.intro | exact q_N w
    case pop =>
      rcases st with _ | ⟨v, r⟩
      · exact True.intro
      · show q_R p K0 G0 (if j_cat v = 1 then _ else none) (if j_cat (q_v p v) = 1 then _ else none)
        rw [q_cat]
        split
        · exact q_N w
        · exact True.intro
    case dup_x1 =>
      rcases st with _ | ⟨v, _ | ⟨u, r⟩⟩
      · exact True.intro
      · exact True.intro
      · show q_R p K0 G0 (if j_cat v = 1 ∧ j_cat u = 1 then _ else none) (if j_cat (q_v p v) = 1 ∧ j_cat (q_v p u) = 1 then _ else none)
        rw [q_cat, q_cat]
        split
        · exact q_N w
        · exact True.intro
    case ifnonnull =>
      rcases st with _ | ⟨x | x | x, r⟩ <;> first | exact True.intro | exact q_N w
    case checkcast =>
      rcases st with _ | ⟨x | x | x, r⟩
      · exact True.intro
      · exact True.intro
      · exact True.intro
      · exact q_ob O w (by decide) (fun _ => q_N w)
    case dup =>
      rcases st with _ | ⟨v, r⟩
      · exact True.intro
      · show q_R p K0 G0 (if j_cat v = 1 then _ else none) (if j_cat (q_v p v) = 1 then _ else none)
        rw [q_cat]
        split
        · exact q_N w
        · exact True.intro
    case dup2 =>
      rcases st with _ | ⟨x | x | x, _ | ⟨v, r⟩⟩
      · exact True.intro
      · exact True.intro
      · show q_R p K0 G0 (if j_cat (jI x) = 1 ∧ j_cat v = 1 then _ else none) (if j_cat (q_v p (jI x)) = 1 ∧ j_cat (q_v p v) = 1 then _ else none)
        rw [q_cat, q_cat]
        split
        · exact q_N w
        · exact True.intro
      · exact q_N w
      · exact q_N w
      · exact True.intro
      · show q_R p K0 G0 (if j_cat (jR x) = 1 ∧ j_cat v = 1 then _ else none) (if j_cat (q_v p (jR x)) = 1 ∧ j_cat (q_v p v) = 1 then _ else none)
        rw [q_cat, q_cat]
        split
        · exact q_N w
        · exact True.intro
    case ifCond c off => cases c <;> exact q_if (fun r => q_N w) (fun r => q_N w)
    case if_icmp c off => cases c <;> exact q_if2 (fun r => q_N w) (fun r => q_N w)
    case tableswitch d lo hi offs =>
      refine q_uI (fun x r => ?_)
      split
      · cases offs[(x - lo).toNat]? with
        | none => exact True.intro
        | some o =>
          show q_R p K0 G0 (if 0 ≤ (pc : Int) + o then _ else none) (if 0 ≤ (pc : Int) + o then _ else none)
          split
          · exact q_N w
          · exact True.intro
      · split
        · exact q_N w
        · exact True.intro
    case iaload | laload =>
      refine q_el (fun q i r => q_rg O w (by decide) (fun ha => ?_))
      rw [w.2.2.2 q _ ha]
      exact q_N w
    case baload =>
      refine q_el (fun q i r => ?_)
      cases e : j_kd h q with
      | none => exact True.intro
      | some z1 =>
        obtain ⟨c, n⟩ := z1
        by_cases e1 : (c = 34 ∨ c = 35) ∧ 0 ≤ i ∧ i < n
        · obtain ⟨e2, e3⟩ := q_kd O w (q := (c, n)) (by show c ≠ 31; omega) e
          rw [e2]
          dsimp only
          rw [if_pos e1, if_pos e1, w.2.2.2 q _ e3]
          exact q_N w
        · dsimp only
          rw [if_neg e1]
          exact True.intro
    case aaload =>
      refine q_el (fun q i r => q_rg O w (by decide) (fun ha => ?_))
      show q_R p K0 G0 (j_op (j_rf h q i.toNat) none _) (j_op (j_rf g (p q) i.toNat) none _)
      rw [q_rf w]
      exact q_op (fun b => q_N w)
    case iastore =>
      refine q_sI (fun q i x r => ?_)
      simp only [q_lt2 O]
      split
      · exact True.intro
      · exact q_rg O w (by decide) (fun _ => q_N (q_up O w q i.toNat x))
    case lastore =>
      refine q_sL (fun q i x r => ?_)
      simp only [q_lt2 O]
      split
      · exact True.intro
      · exact q_rg O w (by decide) (fun _ => q_N (q_up O w q i.toNat x))
    case bastore =>
      refine q_sI (fun q i x r => ?_)
      simp only [q_lt2 O]
      split
      · exact True.intro
      · cases e : h.1[q]? with
        | none => exact True.intro
        | some z1 =>
          obtain ⟨c, n⟩ := z1
          by_cases e0 : c = 31
          · dsimp only
            subst e0
            split
            · rw [if_neg (by decide), if_neg (by omega)]
              exact True.intro
            · exact True.intro
          · rw [(q_k1 O w (q := (c, n)) e0 e).1]
            dsimp only
            split
            · split
              · exact q_N (q_up O w q i.toNat _)
              · split
                · exact q_N (q_up O w q i.toNat x)
                · exact True.intro
            · exact True.intro
    case arraylength =>
      rcases st with _ | ⟨x | x | x, r⟩
      · exact True.intro
      · exact True.intro
      · exact True.intro
      · show q_R p K0 G0 (match j_kd h x with | some (c, n) => _ | none => none) (match j_kd g (p x) with | some (c, n) => _ | none => none)
        cases e : j_kd h x with
        | none => exact True.intro
        | some z1 =>
          obtain ⟨c, n⟩ := z1
          by_cases e0 : 32 ≤ c
          · rw [(q_kd O w (q := (c, n)) (by show c ≠ 31; omega) e).1]
            dsimp only
            rw [if_pos e0, if_pos e0]
            exact q_N w
          · dsimp only
            rw [if_neg e0]
            exact True.intro
    case getfield =>
      rcases st with _ | ⟨x | x | x, r⟩
      · exact True.intro
      · exact True.intro
      · exact True.intro
      · exact q_obk O w (by simpa [q_31k] using h31) (fun ha => q_fk O w (q_get O w ha (fun v => q_N w)))
    case putfield =>
      rcases st with _ | ⟨v, _ | ⟨x | x | x, r⟩⟩
      · exact True.intro
      · rcases v with v | v | v <;> exact True.intro
      · rcases v with v | v | v <;> exact True.intro
      · rcases v with v | v | v <;> exact True.intro
      · have e := q_ob O w (a := x) (c := a) (by simpa [q_31k] using h31) (fun _ => q_put O w (a := x) (c := a) (n := b) (v := v) (k := fun h1 => some (.inl (pc + 3, ls, r, h1))) (k' := fun h1 => some (.inl (pc + 3, ls.map (q_f p), r.map (q_v p), h1))) (fun h1 g1 w1 => q_N w1))
        rcases v with v | v | v <;> exact e
    case new =>
      have hl9 := (q_l O w).1
      show q_R p K0 G0 (if a < 13 ∧ h.1.length < 900000 then _ else none) (if a < 13 ∧ g.1.length < 900000 then _ else none)
      by_cases e9 : a < 13 ∧ h.1.length < 900000
      case neg =>
        rw [if_neg e9]
        exact True.intro
      rw [if_pos e9, if_pos ⟨e9.1, by rw [hl9]; exact e9.2⟩]
      have e := q_N (ls := ls) (st := jR h.1.length :: st) (pc := pc + 3) (q_new O w a (j_cz a))
      rw [List.map_cons, show q_v p (jR h.1.length) = jR g.1.length by rw [(q_l O w).1]; exact congrArg jR (O.ge _ (q_l O w).2)] at e
      exact e
    case newarray t =>
      refine q_uI (fun n r => ?_)
      have hl9 := (q_l O w).1
      show q_R p K0 G0 (if j_atc t < 36 ∧ 0 ≤ n ∧ n ≤ 100000 ∧ h.1.length < 900000 then _ else none) (if j_atc t < 36 ∧ 0 ≤ n ∧ n ≤ 100000 ∧ g.1.length < 900000 then _ else none)
      by_cases e9 : j_atc t < 36 ∧ 0 ≤ n ∧ n ≤ 100000 ∧ h.1.length < 900000
      case neg =>
        rw [if_neg e9]
        exact True.intro
      · rw [if_pos e9, if_pos ⟨e9.1, e9.2.1, e9.2.2.1, by rw [hl9]; exact e9.2.2.2⟩]
        have e := q_N (ls := ls) (st := jR h.1.length :: r) (pc := pc + 2) (q_new O w (j_atc t) n.toNat)
        rw [List.map_cons, show q_v p (jR h.1.length) = jR g.1.length by rw [(q_l O w).1]; exact congrArg jR (O.ge _ (q_l O w).2)] at e
        exact e
    case multianewarray =>
      rcases st with _ | ⟨x | x | x, _ | ⟨y | y | y, r⟩⟩
      all_goals first | exact True.intro | skip
      show q_R p K0 G0 (if (0 ≤ x ∧ x ≤ 1000 ∧ 0 ≤ y ∧ y ≤ 1000 ∧ h.1.length < 900000) ∧ h.1.any (fun q => q.1 == 33) = true then _ else none) (if (0 ≤ x ∧ x ≤ 1000 ∧ 0 ≤ y ∧ y ≤ 1000 ∧ g.1.length < 900000) ∧ g.1.any (fun q => q.1 == 33) = true then _ else none)
      have hl9 := (q_l O w).1
      by_cases e9 : (0 ≤ x ∧ x ≤ 1000 ∧ 0 ≤ y ∧ y ≤ 1000 ∧ h.1.length < 900000) ∧ h.1.any (fun q => q.1 == 33) = true
      · rw [if_pos e9, if_pos ⟨⟨e9.1.1, e9.1.2.1, e9.1.2.2.1, e9.1.2.2.2.1, by rw [hl9]; exact e9.1.2.2.2.2⟩, q_any O w e9.2⟩]
        have e := q_N (ls := ls) (st := jR h.1.length :: r) (pc := pc + 4) (q_mna O w y.toNat x.toNat)
        rw [List.map_cons, show q_v p (jR h.1.length) = jR g.1.length by rw [(q_l O w).1]; exact congrArg jR (O.ge _ (q_l O w).2)] at e
        exact e
      · rw [if_neg e9]
        exact True.intro
    case invokevirtual =>
      dsimp only
      rw [← List.map_drop, ← List.map_take, ← List.map_reverse]
      rcases st.drop b with _ | ⟨x | x | x, r⟩
      · exact True.intro
      · exact True.intro
      · exact True.intro
      · show q_R p K0 G0 (if a = 9996 then _ else _) (if a = 9996 then _ else _)
        by_cases e9 : a = 9996
        · rw [if_pos e9, if_pos e9]
          cases e : h.1[x]? with
          | none => exact True.intro
          | some z1 =>
            obtain ⟨c, n⟩ := z1
            dsimp only
            by_cases e1 : (c = 34 ∧ j_byt h.2.2 x 0 n = true) ∧ h.1.length < 900000 ∧ (r.map j_cat).sum ≤ 8
            · obtain ⟨e2, e3⟩ := q_k1 O w (q := (c, n)) (by show c ≠ 31; omega) e
              have e6 : h.1[x]? ≠ some (31, 0) := by rw [e]; intro h7; cases h7; omega
              rw [if_pos e1, e2]
              dsimp only
              have hl9 := (q_l O w).1
              rw [q_cats, q_byt O w e6, if_pos ⟨e1.1, hl9 ▸ e1.2.1, e1.2.2⟩]
              have e5 := q_N (ls := ls) (st := jR h.1.length :: r) (pc := pc + 3) (q_cln O w e6 n)
              rw [List.map_cons, show q_v p (jR h.1.length) = jR g.1.length by rw [(q_l O w).1]; exact congrArg jR (O.ge _ (q_l O w).2)] at e5
              exact e5
            · rw [if_neg e1]
              exact True.intro
        · rw [if_neg e9, if_neg e9]
          cases em : j_meth[a]? with
          | none => exact True.intro
          | some m =>
            refine q_obk O w (q_31y em) (fun _ => ?_)
            rw [q_cats]
            split
            · exact ⟨rfl, rfl, rfl⟩
            · exact True.intro
    case invokespecial =>
      dsimp only
      split
      · exact True.intro
      rw [← List.map_drop, ← List.map_take, ← List.map_reverse]
      rcases st.drop b with _ | ⟨x | x | x, r⟩
      · exact True.intro
      · exact True.intro
      · exact True.intro
      · show q_R p K0 G0 (if (r.map j_cat).sum ≤ 8 then _ else none) (if ((r.map (q_v p)).map j_cat).sum ≤ 8 then _ else none)
        rw [q_cats]
        split
        · split
          · exact q_N w
          · exact q_obs O w ⟨rfl, rfl, rfl⟩
        · exact True.intro
    case invokestatic =>
      dsimp only
      split
      · exact True.intro
      split
      · rcases st with _ | ⟨x1 | x1 | x1, _ | ⟨x2 | x2 | x2, _ | ⟨x3 | x3 | x3, _ | ⟨x4 | x4 | x4, _ | ⟨x5 | x5 | x5, r⟩⟩⟩⟩⟩
        all_goals first | exact True.intro | skip
        show q_R p K0 G0 (match j_kd h x5, h.1[x3]? with | some (c, n0), some (d, n1) => _ | _, _ => none) (match j_kd g (p x5), g.1[p x3]? with | some (c, n0), some (d, n1) => _ | _, _ => none)
        cases e1 : j_kd h x5 with
        | none => exact True.intro
        | some z1 =>
          cases e2 : h.1[x3]? with
          | none => exact True.intro
          | some z2 =>
            obtain ⟨c, n0⟩ := z1
            obtain ⟨d, n1⟩ := z2
            dsimp only
            by_cases e3 : (c = 32 ∨ c = 33 ∨ (c = 34 ∧ j_byt h.2.2 x5 x4.toNat x1.toNat = true)) ∧ c = d ∧ 2 ≤ x5 ∧ 2 ≤ x3 ∧ (r.map j_cat).sum ≤ 8
            · obtain ⟨f1, f2⟩ := q_kd O w (q := (c, n0)) (by show c ≠ 31; omega) e1
              obtain ⟨f3, f4⟩ := q_k1 O w (q := (d, n1)) (by show d ≠ 31; omega) e2
              rw [f1, f3]
              dsimp only
              rw [if_pos e3, q_byt O w f2, q_cats]
              simp only [q_le2 O]
              rw [if_pos e3]
              split
              · exact q_N (q_cpy O w f2 _ _ _ _)
              · exact True.intro
            · rw [if_neg e3]
              exact True.intro
      · rw [← List.map_drop, ← List.map_take, ← List.map_reverse, List.length_map, q_cats]
        split
        · exact ⟨rfl, rfl, rfl⟩
        · exact True.intro
    case ireturn =>
      rcases st with _ | ⟨x | x | x, _ | ⟨y, r⟩⟩
      all_goals first | exact True.intro | skip
      show q_R p K0 G0 (if j_ret y = 1 then _ else _) (if j_ret y = 1 then _ else _)
      repeat' split
      all_goals first | exact True.intro | exact ⟨rfl, w⟩
    case areturn =>
      rcases st with _ | ⟨x | x | x, _ | ⟨y, r⟩⟩
      all_goals first | exact True.intro | skip
      show q_R p K0 G0 (if j_ret y = 6 then _ else none) (if j_ret y = 6 then _ else none)
      split
      · exact ⟨rfl, w⟩
      · exact True.intro
    case lreturn =>
      rcases st with _ | ⟨x | x | x, _ | ⟨y, r⟩⟩
      · exact True.intro
      · exact True.intro
      · exact True.intro
      · show q_R p K0 G0 (if j_ret y = 2 then _ else _) (if j_ret y = 2 then _ else _)
        split
        · exact ⟨rfl, w⟩
        · exact True.intro
      all_goals exact True.intro
    case return_ =>
      rcases st with _ | ⟨x, r⟩
      · show q_R p K0 G0 (if j_ret y = 0 then _ else _) (if j_ret y = 0 then _ else _)
        split
        · exact ⟨rfl, w⟩
        · exact True.intro
      · exact True.intro
    all_goals exact True.intro
def q_Z (p : Nat → Nat) (K0 G0 : List (Nat × Nat)) : Option j_Z → Option j_Z → Prop
  | none, _ => True
  | some z, some u => u.1 = q_f p z.1 ∧ q_H p K0 G0 z.2 u.2
  | _, _ => False
theorem q_Zr {o q : Option j_Z} (w : q_Z p K0 G0 o q) {z : j_Z} (e : o = some z) : ∃ u, q = some u ∧ u.1 = q_f p z.1 ∧ q_H p K0 G0 z.2 u.2 := by
  subst e
  cases q with
  | none => exact w.elim
  | some u => exact ⟨u, rfl, w⟩
theorem q_run (O : q_Pi p K0 G0) {C D : Nat → List j_V → j_H → Option j_Z} (hC : ∀ k as h g, q_H p K0 G0 h g → q_Z p K0 G0 (C k as h) (D k (as.map (q_v p)) g)) (y : Nat) : ∀ (n pc : Nat) (ls : j_L) (st : List j_V) (h g : j_H), q_H p K0 G0 h g → q_Z p K0 G0 (j_run C n y pc ls st h) (j_run D n y pc (ls.map (q_f p)) (st.map (q_v p)) g) := by
  intro n
  induction n with
  | zero => intro pc ls st h g w; exact True.intro
  | succ n ih =>
    intro pc ls st h g w
    unfold j_run
    rw [j_step_by, j_step_by]
    have e := q_step O w y pc ls st
    generalize j_res y pc ls st h = q at e ⊢
    generalize j_res y pc (ls.map (q_f p)) (st.map (q_v p)) g = q' at e ⊢
    match q, q', e with
    | none, _, e => exact True.intro
    | some (.inl (a, l, s, h1)), some (.inl (a', l', s', g1)), e =>
      obtain ⟨rfl, rfl, rfl, e4⟩ := e
      exact ih _ _ _ _ _ e4
    | some (.inr (.inl (v, h1))), some (.inr (.inl (u, g1))), e => exact e
    | some (.inr (.inr (k, as, r))), some (.inr (.inr (k', as', r'))), e =>
      obtain ⟨rfl, rfl, rfl⟩ := e
      simp only [j_by]
      have e2 := hC k' as h g w
      cases hc : C k' as h with
      | none => exact True.intro
      | some z =>
        cases hd : D k' (as.map (q_v p)) g with
        | none => rw [hc, hd] at e2; exact e2.elim
        | some u =>
          rw [hc, hd] at e2
          obtain ⟨e3, e4⟩ := e2
          have e5 := ih (pc + 3) ls (z.1.toList ++ r) z.2 u.2 e4
          have e6 : (z.1.toList ++ r).map (q_v p) = u.1.toList ++ r.map (q_v p) := by
            rw [List.map_append, e3]
            cases z.1 <;> rfl
          rw [e6] at e5
          exact e5
theorem q_fin (O : q_Pi p K0 G0) {C D : Nat → List j_V → j_H → Option j_Z} (hC : ∀ k as h g, q_H p K0 G0 h g → q_Z p K0 G0 (C k as h) (D k (as.map (q_v p)) g)) (y pc : Nat) (ls : j_L) (st : List j_V) (w : q_H p K0 G0 h g) : q_Z p K0 G0 (j_fin C y pc ls st h) (j_fin D y pc (ls.map (q_f p)) (st.map (q_v p)) g) := by
  cases e : j_fin C y pc ls st h with
  | none => exact True.intro
  | some z =>
    obtain ⟨n, hn⟩ := (j_fin_some C).mp e
    obtain ⟨u, h1, h2⟩ := q_Zr (q_run O hC y n pc ls st h g w) hn
    rw [(j_fin_some D).mpr ⟨n, h1⟩]
    exact h2
theorem q_ent : ∀ as : List j_V, j_ent (as.map (q_v p)) = (j_ent as).map (q_f p)
  | [] => rfl
  | v :: r => by
    have ih := q_ent r
    show (if j_isL (q_v p v) = true then some (q_v p v) :: none :: j_ent (r.map (q_v p)) else some (q_v p v) :: j_ent (r.map (q_v p))) = (if j_isL v = true then some v :: none :: j_ent r else some v :: j_ent r).map (q_f p)
    rw [q_isL, ih]
    split <;> rfl
theorem q_loc (k : Nat) (as : List j_V) : j_loc k (as.map (q_v p)) = (j_loc k as).map (q_f p) := by
  unfold j_loc
  rw [q_ent, List.length_map, List.map_append, List.map_replicate]
  rfl
theorem q_call (O : q_Pi p K0 G0) : ∀ (d k : Nat) (as : List j_V) (h g : j_H), q_H p K0 G0 h g → q_Z p K0 G0 (c_call d k as h) (c_call d k (as.map (q_v p)) g) := by
  intro d
  induction d with
  | zero => intro k as h g w; exact True.intro
  | succ d ih =>
    intro k as h g w
    show q_Z p K0 G0 (if (j_ent as).length ≤ j_ml k then j_fin (c_call d) k 0 (j_loc k as) [] h else none) (if (j_ent (as.map (q_v p))).length ≤ j_ml k then j_fin (c_call d) k 0 (j_loc k (as.map (q_v p))) [] g else none)
    rw [q_loc, q_ent, List.length_map]
    split
    · exact q_fin O ih k 0 _ [] w
    · exact True.intro
end Q_R
end
section
/-! One instruction of the meaning (j_fin), as an equation: by kind. -/
section ST
variable {C : Nat → List j_V → j_H → Option j_Z} {y pc a b : Nat} {z : Int} {ls : j_L} {r : List j_V} {h : j_H}
theorem S_iadd {x v : Int} (hat : j_at y pc = some (.iadd, a, b, z)) : j_fin C y pc ls (jI v :: jI x :: r) h = j_fin C y (pc + 1) ls (jI (w32 (x + v)) :: r) h := by
  rw [j_fin_step]
  unfold j_step
  rw [hat]
  rfl
theorem S_isub {x v : Int} (hat : j_at y pc = some (.isub, a, b, z)) : j_fin C y pc ls (jI v :: jI x :: r) h = j_fin C y (pc + 1) ls (jI (w32 (x - v)) :: r) h := by
  rw [j_fin_step]
  unfold j_step
  rw [hat]
  rfl
theorem S_imul {x v : Int} (hat : j_at y pc = some (.imul, a, b, z)) : j_fin C y pc ls (jI v :: jI x :: r) h = j_fin C y (pc + 1) ls (jI (w32 (x * v)) :: r) h := by
  rw [j_fin_step]
  unfold j_step
  rw [hat]
  rfl
theorem S_iand {x v : Int} (hat : j_at y pc = some (.iand, a, b, z)) : j_fin C y pc ls (jI v :: jI x :: r) h = j_fin C y (pc + 1) ls (jI (j_and x v) :: r) h := by
  rw [j_fin_step]
  unfold j_step
  rw [hat]
  rfl
theorem S_ixor {x v : Int} (hat : j_at y pc = some (.ixor, a, b, z)) : j_fin C y pc ls (jI v :: jI x :: r) h = j_fin C y (pc + 1) ls (jI (j_xor x v) :: r) h := by
  rw [j_fin_step]
  unfold j_step
  rw [hat]
  rfl
theorem S_iushr {x v : Int} (hat : j_at y pc = some (.iushr, a, b, z)) : j_fin C y pc ls (jI v :: jI x :: r) h = j_fin C y (pc + 1) ls (jI (j_ushr x v) :: r) h := by
  rw [j_fin_step]
  unfold j_step
  rw [hat]
  rfl
theorem S_ishl {x v : Int} (hat : j_at y pc = some (.ishl, a, b, z)) : j_fin C y pc ls (jI v :: jI x :: r) h = j_fin C y (pc + 1) ls (jI (j_shl x v) :: r) h := by
  rw [j_fin_step]
  unfold j_step
  rw [hat]
  rfl
theorem S_ishr {x v : Int} (hat : j_at y pc = some (.ishr, a, b, z)) : j_fin C y pc ls (jI v :: jI x :: r) h = j_fin C y (pc + 1) ls (jI (j_shr x v) :: r) h := by
  rw [j_fin_step]
  unfold j_step
  rw [hat]
  rfl
theorem S_ladd {x v : Int} (hat : j_at y pc = some (.ladd, a, b, z)) : j_fin C y pc ls (jL v :: jL x :: r) h = j_fin C y (pc + 1) ls (jL (w64 (x + v)) :: r) h := by
  rw [j_fin_step]
  unfold j_step
  rw [hat]
  rfl
theorem S_lsub {x v : Int} (hat : j_at y pc = some (.lsub, a, b, z)) : j_fin C y pc ls (jL v :: jL x :: r) h = j_fin C y (pc + 1) ls (jL (w64 (x - v)) :: r) h := by
  rw [j_fin_step]
  unfold j_step
  rw [hat]
  rfl
theorem S_lmul {x v : Int} (hat : j_at y pc = some (.lmul, a, b, z)) : j_fin C y pc ls (jL v :: jL x :: r) h = j_fin C y (pc + 1) ls (jL (w64 (x * v)) :: r) h := by
  rw [j_fin_step]
  unfold j_step
  rw [hat]
  rfl
theorem S_land {x v : Int} (hat : j_at y pc = some (.land, a, b, z)) : j_fin C y pc ls (jL v :: jL x :: r) h = j_fin C y (pc + 1) ls (jL (j_land x v) :: r) h := by
  rw [j_fin_step]
  unfold j_step
  rw [hat]
  rfl
theorem S_lor {x v : Int} (hat : j_at y pc = some (.lor, a, b, z)) : j_fin C y pc ls (jL v :: jL x :: r) h = j_fin C y (pc + 1) ls (jL (j_lor x v) :: r) h := by
  rw [j_fin_step]
  unfold j_step
  rw [hat]
  rfl
theorem S_lxor {x v : Int} (hat : j_at y pc = some (.lxor, a, b, z)) : j_fin C y pc ls (jL v :: jL x :: r) h = j_fin C y (pc + 1) ls (jL (j_lxor x v) :: r) h := by
  rw [j_fin_step]
  unfold j_step
  rw [hat]
  rfl
theorem S_lcmp {x v : Int} (hat : j_at y pc = some (.lcmp, a, b, z)) : j_fin C y pc ls (jL v :: jL x :: r) h = j_fin C y (pc + 1) ls (jI (j_cmp x v) :: r) h := by
  rw [j_fin_step]
  unfold j_step
  rw [hat]
  rfl
theorem S_lshl {x v : Int} (hat : j_at y pc = some (.lshl, a, b, z)) : j_fin C y pc ls (jI v :: jL x :: r) h = j_fin C y (pc + 1) ls (jL (j_lshl x v) :: r) h := by
  rw [j_fin_step]
  unfold j_step
  rw [hat]
  rfl
theorem S_idiv {x v : Int} (hat : j_at y pc = some (.idiv, a, b, z)) : j_fin C y pc ls (jI v :: jI x :: r) h = if v = 0 then none else j_fin C y (pc + 1) ls (jI (w32 (x.tdiv v)) :: r) h := by
  rw [j_fin_step]
  unfold j_step
  rw [hat]
  rfl
theorem S_irem {x v : Int} (hat : j_at y pc = some (.irem, a, b, z)) : j_fin C y pc ls (jI v :: jI x :: r) h = if v = 0 then none else j_fin C y (pc + 1) ls (jI (x.tmod v) :: r) h := by
  rw [j_fin_step]
  unfold j_step
  rw [hat]
  rfl
theorem S_ldiv {x v : Int} (hat : j_at y pc = some (.ldiv, a, b, z)) : j_fin C y pc ls (jL v :: jL x :: r) h = if v = 0 then none else j_fin C y (pc + 1) ls (jL (w64 (x.tdiv v)) :: r) h := by
  rw [j_fin_step]
  unfold j_step
  rw [hat]
  rfl
theorem S_lrem {x v : Int} (hat : j_at y pc = some (.lrem, a, b, z)) : j_fin C y pc ls (jL v :: jL x :: r) h = if v = 0 then none else j_fin C y (pc + 1) ls (jL (x.tmod v) :: r) h := by
  rw [j_fin_step]
  unfold j_step
  rw [hat]
  rfl
theorem S_ineg {x : Int} (hat : j_at y pc = some (.ineg, a, b, z)) : j_fin C y pc ls (jI x :: r) h = j_fin C y (pc + 1) ls (jI (w32 (-x)) :: r) h := by
  rw [j_fin_step]
  unfold j_step
  rw [hat]
  rfl
theorem S_lneg {x : Int} (hat : j_at y pc = some (.lneg, a, b, z)) : j_fin C y pc ls (jL x :: r) h = j_fin C y (pc + 1) ls (jL (w64 (-x)) :: r) h := by
  rw [j_fin_step]
  unfold j_step
  rw [hat]
  rfl
theorem S_i2l {x : Int} (hat : j_at y pc = some (.i2l, a, b, z)) : j_fin C y pc ls (jI x :: r) h = j_fin C y (pc + 1) ls (jL (x) :: r) h := by
  rw [j_fin_step]
  unfold j_step
  rw [hat]
  rfl
theorem S_l2i {x : Int} (hat : j_at y pc = some (.l2i, a, b, z)) : j_fin C y pc ls (jL x :: r) h = j_fin C y (pc + 1) ls (jI (w32 x) :: r) h := by
  rw [j_fin_step]
  unfold j_step
  rw [hat]
  rfl
theorem S_i2b {x : Int} (hat : j_at y pc = some (.i2b, a, b, z)) : j_fin C y pc ls (jI x :: r) h = j_fin C y (pc + 1) ls (jI (w8 x) :: r) h := by
  rw [j_fin_step]
  unfold j_step
  rw [hat]
  rfl
theorem S_i2s {x : Int} (hat : j_at y pc = some (.i2s, a, b, z)) : j_fin C y pc ls (jI x :: r) h = j_fin C y (pc + 1) ls (jI (w16 x) :: r) h := by
  rw [j_fin_step]
  unfold j_step
  rw [hat]
  rfl
theorem S_i2c {x : Int} (hat : j_at y pc = some (.i2c, a, b, z)) : j_fin C y pc ls (jI x :: r) h = j_fin C y (pc + 1) ls (jI (j_chr x) :: r) h := by
  rw [j_fin_step]
  unfold j_step
  rw [hat]
  rfl
theorem S_iconst {n : Int} (hat : j_at y pc = some (.iconst n, a, b, z)) : j_fin C y pc ls (r) h = j_fin C y (pc + 1) ls (jI z :: r) h := by
  rw [j_fin_step]
  unfold j_step
  rw [hat]
  rfl
theorem S_bipush {n : Int} (hat : j_at y pc = some (.bipush n, a, b, z)) : j_fin C y pc ls (r) h = j_fin C y (pc + 2) ls (jI z :: r) h := by
  rw [j_fin_step]
  unfold j_step
  rw [hat]
  rfl
theorem S_sipush {n : Int} (hat : j_at y pc = some (.sipush n, a, b, z)) : j_fin C y pc ls (r) h = j_fin C y (pc + 3) ls (jI z :: r) h := by
  rw [j_fin_step]
  unfold j_step
  rw [hat]
  rfl
theorem S_ldc2_w {n : Nat} (hat : j_at y pc = some (.ldc2_w n, a, b, z)) : j_fin C y pc ls (r) h = j_fin C y (pc + 3) ls (jL z :: r) h := by
  rw [j_fin_step]
  unfold j_step
  rw [hat]
  rfl
theorem S_ldc {n : Nat} (ha : a = 0) (hat : j_at y pc = some (.ldc n, a, b, z)) : j_fin C y pc ls (r) h = j_fin C y (pc + 2) ls (jI z :: r) h := by
  rw [j_fin_step]
  unfold j_step
  rw [hat]
  simp only [j_op]
  rw [if_pos ha]
theorem S_ldc_w {n : Nat} (ha : a = 0) (hat : j_at y pc = some (.ldc_w n, a, b, z)) : j_fin C y pc ls (r) h = j_fin C y (pc + 3) ls (jI z :: r) h := by
  rw [j_fin_step]
  unfold j_step
  rw [hat]
  simp only [j_op]
  rw [if_pos ha]
theorem S_ldcT {n : Nat} (ha : a = 1) (hat : j_at y pc = some (.ldc n, a, b, z)) : j_fin C y pc ls (r) h = j_fin C y (pc + 2) ls (jR (1000000 + 2 * b) :: r) h := by
  rw [j_fin_step]
  unfold j_step
  rw [hat]
  simp only [j_op]
  rw [if_neg (by omega), if_pos ha]
theorem S_lconst {n : Fin 2} (hat : j_at y pc = some (.lconst n, a, b, z)) : j_fin C y pc ls (r) h = j_fin C y (pc + 1) ls (jL z :: r) h := by
  rw [j_fin_step]
  unfold j_step
  rw [hat]
  rfl
theorem S_iload_n {k : Fin 4} {x : Int} (hl : j_ld ls k.val = some (jI x)) (hat : j_at y pc = some (.iload_n k, a, b, z)) : j_fin C y pc ls (r) h = j_fin C y (pc + 1) ls (jI x :: r) h := by
  rw [j_fin_step]
  unfold j_step
  rw [hat]
  simp only [j_op]
  rw [hl]
theorem S_iload {k : Nat} {x : Int} (hl : j_ld ls k = some (jI x)) (hat : j_at y pc = some (.iload k, a, b, z)) : j_fin C y pc ls (r) h = j_fin C y (pc + 2) ls (jI x :: r) h := by
  rw [j_fin_step]
  unfold j_step
  rw [hat]
  simp only [j_op]
  rw [hl]
theorem S_lload_n {k : Fin 4} {x : Int} (hl : j_ld ls k.val = some (jL x)) (hat : j_at y pc = some (.lload_n k, a, b, z)) : j_fin C y pc ls (r) h = j_fin C y (pc + 1) ls (jL x :: r) h := by
  rw [j_fin_step]
  unfold j_step
  rw [hat]
  simp only [j_op]
  rw [hl]
theorem S_lload {k : Nat} {x : Int} (hl : j_ld ls k = some (jL x)) (hat : j_at y pc = some (.lload k, a, b, z)) : j_fin C y pc ls (r) h = j_fin C y (pc + 2) ls (jL x :: r) h := by
  rw [j_fin_step]
  unfold j_step
  rw [hat]
  simp only [j_op]
  rw [hl]
theorem S_aload_n {k : Fin 4} {x : Nat} (hl : j_ld ls k.val = some (jR x)) (hat : j_at y pc = some (.aload_n k, a, b, z)) : j_fin C y pc ls (r) h = j_fin C y (pc + 1) ls (jR x :: r) h := by
  rw [j_fin_step]
  unfold j_step
  rw [hat]
  simp only [j_op]
  rw [hl]
theorem S_aload {k : Nat} {x : Nat} (hl : j_ld ls k = some (jR x)) (hat : j_at y pc = some (.aload k, a, b, z)) : j_fin C y pc ls (r) h = j_fin C y (pc + 2) ls (jR x :: r) h := by
  rw [j_fin_step]
  unfold j_step
  rw [hat]
  simp only [j_op]
  rw [hl]
theorem S_istore_n {k : Fin 4} {x : Int} {l1 : j_L} (hl : j_s1 ls k.val (jI x) = some l1) (hat : j_at y pc = some (.istore_n k, a, b, z)) : j_fin C y pc ls (jI x :: r) h = j_fin C y (pc + 1) l1 (r) h := by
  rw [j_fin_step]
  unfold j_step
  rw [hat]
  simp only [j_op, j_uI]
  rw [hl]
theorem S_istore {k : Nat} {x : Int} {l1 : j_L} (hl : j_s1 ls k (jI x) = some l1) (hat : j_at y pc = some (.istore k, a, b, z)) : j_fin C y pc ls (jI x :: r) h = j_fin C y (pc + 2) l1 (r) h := by
  rw [j_fin_step]
  unfold j_step
  rw [hat]
  simp only [j_op, j_uI]
  rw [hl]
theorem S_lstore_n {k : Fin 4} {x : Int} {l1 : j_L} (hl : j_s2 ls k.val (jL x) = some l1) (hat : j_at y pc = some (.lstore_n k, a, b, z)) : j_fin C y pc ls (jL x :: r) h = j_fin C y (pc + 1) l1 (r) h := by
  rw [j_fin_step]
  unfold j_step
  rw [hat]
  simp only [j_op, j_uL]
  rw [hl]
theorem S_lstore {k : Nat} {x : Int} {l1 : j_L} (hl : j_s2 ls k (jL x) = some l1) (hat : j_at y pc = some (.lstore k, a, b, z)) : j_fin C y pc ls (jL x :: r) h = j_fin C y (pc + 2) l1 (r) h := by
  rw [j_fin_step]
  unfold j_step
  rw [hat]
  simp only [j_op, j_uL]
  rw [hl]
theorem S_astore_n {k : Fin 4} {x : Nat} {l1 : j_L} (hl : j_s1 ls k.val (jR x) = some l1) (hat : j_at y pc = some (.astore_n k, a, b, z)) : j_fin C y pc ls (jR x :: r) h = j_fin C y (pc + 1) l1 (r) h := by
  rw [j_fin_step]
  unfold j_step
  rw [hat]
  simp only [j_op]
  rw [hl]
theorem S_astore {k : Nat} {x : Nat} {l1 : j_L} (hl : j_s1 ls k (jR x) = some l1) (hat : j_at y pc = some (.astore k, a, b, z)) : j_fin C y pc ls (jR x :: r) h = j_fin C y (pc + 2) l1 (r) h := by
  rw [j_fin_step]
  unfold j_step
  rw [hat]
  simp only [j_op]
  rw [hl]
theorem S_iinc {k : Nat} {n x : Int} {l1 : j_L} (hx : j_ld ls k = some (jI x)) (hl : j_s1 ls k (jI (w32 (x + n))) = some l1) (hat : j_at y pc = some (.iinc k n, a, b, z)) : j_fin C y pc ls (r) h = j_fin C y (pc + 3) l1 (r) h := by
  rw [j_fin_step]
  unfold j_step
  rw [hat]
  simp only [j_op]
  rw [hx]
  simp only
  rw [hl]
theorem S_dup {v : j_V} (hv : j_cat v = 1) (hat : j_at y pc = some (.dup, a, b, z)) : j_fin C y pc ls (v :: r) h = j_fin C y (pc + 1) ls (v :: v :: r) h := by
  rw [j_fin_step]
  unfold j_step
  rw [hat]
  simp only [j_op]
  rw [if_pos hv]
theorem S_dup2L {x : Int} (hat : j_at y pc = some (.dup2, a, b, z)) : j_fin C y pc ls (jL x :: r) h = j_fin C y (pc + 1) ls (jL x :: jL x :: r) h := by
  rw [j_fin_step]
  unfold j_step
  rw [hat]
  rfl
theorem S_dup2RI {x : Int} {q : Nat} (hat : j_at y pc = some (.dup2, a, b, z)) : j_fin C y pc ls (jI x :: jR q :: r) h = j_fin C y (pc + 1) ls (jI x :: jR q :: jI x :: jR q :: r) h := by
  rw [j_fin_step]
  unfold j_step
  rw [hat]
  rfl
theorem S_goto {n : Int} (hat : j_at y pc = some (.goto n, a, b, z)) : j_fin C y pc ls (r) h = j_fin C y (a) ls (r) h := by
  rw [j_fin_step]
  unfold j_step
  rw [hat]
  rfl
theorem S_if_eq {n x : Int} (hat : j_at y pc = some (.ifCond .eq n, a, b, z)) : j_fin C y pc ls (jI x :: r) h = if x = 0 then j_fin C y (a) ls (r) h else j_fin C y (pc + 3) ls (r) h := by
  rw [j_fin_step]
  unfold j_step
  rw [hat]
  rfl
theorem S_if_ne {n x : Int} (hat : j_at y pc = some (.ifCond .ne n, a, b, z)) : j_fin C y pc ls (jI x :: r) h = if x = 0 then j_fin C y (pc + 3) ls (r) h else j_fin C y (a) ls (r) h := by
  rw [j_fin_step]
  unfold j_step
  rw [hat]
  rfl
theorem S_if_lt {n x : Int} (hat : j_at y pc = some (.ifCond .lt n, a, b, z)) : j_fin C y pc ls (jI x :: r) h = if x < 0 then j_fin C y (a) ls (r) h else j_fin C y (pc + 3) ls (r) h := by
  rw [j_fin_step]
  unfold j_step
  rw [hat]
  rfl
theorem S_if_ge {n x : Int} (hat : j_at y pc = some (.ifCond .ge n, a, b, z)) : j_fin C y pc ls (jI x :: r) h = if x < 0 then j_fin C y (pc + 3) ls (r) h else j_fin C y (a) ls (r) h := by
  rw [j_fin_step]
  unfold j_step
  rw [hat]
  rfl
theorem S_if_gt {n x : Int} (hat : j_at y pc = some (.ifCond .gt n, a, b, z)) : j_fin C y pc ls (jI x :: r) h = if 0 < x then j_fin C y (a) ls (r) h else j_fin C y (pc + 3) ls (r) h := by
  rw [j_fin_step]
  unfold j_step
  rw [hat]
  rfl
theorem S_if_le {n x : Int} (hat : j_at y pc = some (.ifCond .le n, a, b, z)) : j_fin C y pc ls (jI x :: r) h = if 0 < x then j_fin C y (pc + 3) ls (r) h else j_fin C y (a) ls (r) h := by
  rw [j_fin_step]
  unfold j_step
  rw [hat]
  rfl
theorem S_icmp_eq {n x v : Int} (hat : j_at y pc = some (.if_icmp .eq n, a, b, z)) : j_fin C y pc ls (jI v :: jI x :: r) h = if x = v then j_fin C y (a) ls (r) h else j_fin C y (pc + 3) ls (r) h := by
  rw [j_fin_step]
  unfold j_step
  rw [hat]
  rfl
theorem S_icmp_ne {n x v : Int} (hat : j_at y pc = some (.if_icmp .ne n, a, b, z)) : j_fin C y pc ls (jI v :: jI x :: r) h = if x = v then j_fin C y (pc + 3) ls (r) h else j_fin C y (a) ls (r) h := by
  rw [j_fin_step]
  unfold j_step
  rw [hat]
  rfl
theorem S_icmp_lt {n x v : Int} (hat : j_at y pc = some (.if_icmp .lt n, a, b, z)) : j_fin C y pc ls (jI v :: jI x :: r) h = if x < v then j_fin C y (a) ls (r) h else j_fin C y (pc + 3) ls (r) h := by
  rw [j_fin_step]
  unfold j_step
  rw [hat]
  rfl
theorem S_icmp_ge {n x v : Int} (hat : j_at y pc = some (.if_icmp .ge n, a, b, z)) : j_fin C y pc ls (jI v :: jI x :: r) h = if x < v then j_fin C y (pc + 3) ls (r) h else j_fin C y (a) ls (r) h := by
  rw [j_fin_step]
  unfold j_step
  rw [hat]
  rfl
theorem S_icmp_gt {n x v : Int} (hat : j_at y pc = some (.if_icmp .gt n, a, b, z)) : j_fin C y pc ls (jI v :: jI x :: r) h = if v < x then j_fin C y (a) ls (r) h else j_fin C y (pc + 3) ls (r) h := by
  rw [j_fin_step]
  unfold j_step
  rw [hat]
  rfl
theorem S_icmp_le {n x v : Int} (hat : j_at y pc = some (.if_icmp .le n, a, b, z)) : j_fin C y pc ls (jI v :: jI x :: r) h = if v < x then j_fin C y (pc + 3) ls (r) h else j_fin C y (a) ls (r) h := by
  rw [j_fin_step]
  unfold j_step
  rw [hat]
  rfl
theorem S_iaload {q N : Nat} {i : Int} (hK : h.1[q]? = some (32, N)) (hat : j_at y pc = some (.iaload, a, b, z)) : j_fin C y pc ls (jI i :: jR q :: r) h = if 0 ≤ i ∧ i < (N : Int) then j_fin C y (pc + 1) ls (jI (h.2.2 q i.toNat) :: r) h else none := by
  rw [j_fin_step]
  unfold j_step
  rw [hat]
  simp only [j_op, j_el, j_rg]
  rw [hK]
  rfl
theorem S_laload {q N : Nat} {i : Int} (hK : h.1[q]? = some (33, N)) (hat : j_at y pc = some (.laload, a, b, z)) : j_fin C y pc ls (jI i :: jR q :: r) h = if 0 ≤ i ∧ i < (N : Int) then j_fin C y (pc + 1) ls (jL (h.2.2 q i.toNat) :: r) h else none := by
  rw [j_fin_step]
  unfold j_step
  rw [hat]
  simp only [j_op, j_el, j_rg]
  rw [hK]
  rfl
theorem S_baload34 {q N : Nat} {i : Int} (hK : j_kd h q = some (34, N)) (hat : j_at y pc = some (.baload, a, b, z)) : j_fin C y pc ls (jI i :: jR q :: r) h = if 0 ≤ i ∧ i < (N : Int) then j_fin C y (pc + 1) ls (jI (h.2.2 q i.toNat) :: r) h else none := by
  rw [j_fin_step]
  unfold j_step
  rw [hat]
  simp only [j_op, j_el]
  rw [hK]
  simp
theorem S_baload35 {q N : Nat} {i : Int} (hK : j_kd h q = some (35, N)) (hat : j_at y pc = some (.baload, a, b, z)) : j_fin C y pc ls (jI i :: jR q :: r) h = if 0 ≤ i ∧ i < (N : Int) then j_fin C y (pc + 1) ls (jI (h.2.2 q i.toNat) :: r) h else none := by
  rw [j_fin_step]
  unfold j_step
  rw [hat]
  simp only [j_op, j_el]
  rw [hK]
  simp
theorem S_aaload {q N : Nat} {i : Int} (hK : h.1[q]? = some (36, N)) {B : Nat} (hrf : 0 ≤ i → i < (N : Int) → j_rf h q i.toNat = some B) (hat : j_at y pc = some (.aaload, a, b, z)) : j_fin C y pc ls (jI i :: jR q :: r) h = if 0 ≤ i ∧ i < (N : Int) then j_fin C y (pc + 1) ls (jR B :: r) h else none := by
  rw [j_fin_step]
  unfold j_step
  rw [hat]
  simp only [j_op, j_el, j_rg]
  rw [hK]
  simp only
  rw [if_pos trivial]
  split
  · rename_i hi
    rw [hrf hi.1 hi.2]
  · rfl
theorem S_iastore {q N : Nat} {i x : Int} (h2 : 2 ≤ q) (hK : h.1[q]? = some (32, N)) (hat : j_at y pc = some (.iastore, a, b, z)) : j_fin C y pc ls (jI x :: jI i :: jR q :: r) h = if 0 ≤ i ∧ i < (N : Int) then j_fin C y (pc + 1) ls (r) (h.1, h.2.1, j_up h.2.2 q i.toNat x) else none := by
  rw [j_fin_step]
  unfold j_step
  rw [hat]
  simp only [j_op, j_sI, j_rg]
  rw [hK, if_neg (by omega)]
  rfl
theorem S_lastore {q N : Nat} {i x : Int} (h2 : 2 ≤ q) (hK : h.1[q]? = some (33, N)) (hat : j_at y pc = some (.lastore, a, b, z)) : j_fin C y pc ls (jL x :: jI i :: jR q :: r) h = if 0 ≤ i ∧ i < (N : Int) then j_fin C y (pc + 1) ls (r) (h.1, h.2.1, j_up h.2.2 q i.toNat x) else none := by
  rw [j_fin_step]
  unfold j_step
  rw [hat]
  simp only [j_op, j_sL, j_rg]
  rw [hK, if_neg (by omega)]
  rfl
theorem S_bastore34 {q N : Nat} {i x : Int} (h2 : 2 ≤ q) (hK : h.1[q]? = some (34, N)) (hat : j_at y pc = some (.bastore, a, b, z)) : j_fin C y pc ls (jI x :: jI i :: jR q :: r) h = if 0 ≤ i ∧ i < (N : Int) then j_fin C y (pc + 1) ls (r) (h.1, h.2.1, j_up h.2.2 q i.toNat (w8 x)) else none := by
  rw [j_fin_step]
  unfold j_step
  rw [hat]
  simp only [j_op, j_sI]
  rw [hK, if_neg (by omega)]
  rfl
theorem S_bastore35 {q N : Nat} {i x : Int} (h2 : 2 ≤ q) (hK : h.1[q]? = some (35, N)) (hat : j_at y pc = some (.bastore, a, b, z)) : j_fin C y pc ls (jI x :: jI i :: jR q :: r) h = if 0 ≤ i ∧ i < (N : Int) then (if x = 0 ∨ x = 1 then j_fin C y (pc + 1) ls (r) (h.1, h.2.1, j_up h.2.2 q i.toNat x) else none) else none := by
  rw [j_fin_step]
  unfold j_step
  rw [hat]
  simp only [j_op, j_sI]
  rw [hK, if_neg (by omega)]
  simp
theorem S_alen {q k N : Nat} (hK : j_kd h q = some (k, N)) (hk : 32 ≤ k) (hat : j_at y pc = some (.arraylength, a, b, z)) : j_fin C y pc ls (jR q :: r) h = j_fin C y (pc + 1) ls (jI N :: r) h := by
  rw [j_fin_step]
  unfold j_step
  rw [hat]
  simp only [j_op]
  rw [hK]
  simp only
  rw [if_pos hk]
theorem S_get0 {q N n : Nat} (hK : h.1[q]? = some (a, N)) (hty : j_ty a b = 0) (hat : j_at y pc = some (.getfield n, a, b, z)) : j_fin C y pc ls (jR q :: r) h = j_fin C y (pc + 3) ls (jI (h.2.2 q b) :: r) h := by
  rw [j_fin_step]
  unfold j_step
  rw [hat]
  simp only [j_op, j_obk, j_fk, j_kd]
  rw [hK]
  simp only
  rw [if_pos trivial]
  unfold j_get
  rw [hty]
  rfl
theorem S_getK0 {q N n : Nat} (hK : j_kd h q = some (a, N)) (hb : b ≤ 1) (hty : j_ty a b = 0) (hat : j_at y pc = some (.getfield n, a, b, z)) : j_fin C y pc ls (jR q :: r) h = j_fin C y (pc + 3) ls (jI (h.2.2 q b) :: r) h := by
  rw [j_fin_step]
  unfold j_step
  rw [hat]
  simp only [j_op, j_obk, j_fk]
  rw [hK]
  simp only
  rw [if_pos trivial]
  unfold j_get
  rw [hty, if_pos hb]
  simp only
  split <;> rfl
theorem S_get1 {q N n : Nat} (hK : h.1[q]? = some (a, N)) (hty : j_ty a b = 1) (hat : j_at y pc = some (.getfield n, a, b, z)) : j_fin C y pc ls (jR q :: r) h = j_fin C y (pc + 3) ls (jL (h.2.2 q b) :: r) h := by
  rw [j_fin_step]
  unfold j_step
  rw [hat]
  simp only [j_op, j_obk, j_fk, j_kd]
  rw [hK]
  simp only
  rw [if_pos trivial]
  unfold j_get
  rw [hty]
  rfl
theorem S_getK1 {q N n : Nat} (hK : j_kd h q = some (a, N)) (hb : b ≤ 1) (hty : j_ty a b = 1) (hat : j_at y pc = some (.getfield n, a, b, z)) : j_fin C y pc ls (jR q :: r) h = j_fin C y (pc + 3) ls (jL (h.2.2 q b) :: r) h := by
  rw [j_fin_step]
  unfold j_step
  rw [hat]
  simp only [j_op, j_obk, j_fk]
  rw [hK]
  simp only
  rw [if_pos trivial]
  unfold j_get
  rw [hty, if_pos hb]
  simp only
  split <;> rfl
theorem S_get2 {q N n : Nat} (hK : h.1[q]? = some (a, N)) (hty : j_ty a b = 2) (hat : j_at y pc = some (.getfield n, a, b, z)) : j_fin C y pc ls (jR q :: r) h = j_fin C y (pc + 3) ls (jI (h.2.2 q b) :: r) h := by
  rw [j_fin_step]
  unfold j_step
  rw [hat]
  simp only [j_op, j_obk, j_fk, j_kd]
  rw [hK]
  simp only
  rw [if_pos trivial]
  unfold j_get
  rw [hty]
  rfl
theorem S_getK2 {q N n : Nat} (hK : j_kd h q = some (a, N)) (hb : b ≤ 1) (hty : j_ty a b = 2) (hat : j_at y pc = some (.getfield n, a, b, z)) : j_fin C y pc ls (jR q :: r) h = j_fin C y (pc + 3) ls (jI (h.2.2 q b) :: r) h := by
  rw [j_fin_step]
  unfold j_step
  rw [hat]
  simp only [j_op, j_obk, j_fk]
  rw [hK]
  simp only
  rw [if_pos trivial]
  unfold j_get
  rw [hty, if_pos hb]
  simp only
  split <;> rfl
theorem S_getR {q N n B : Nat} (hK : h.1[q]? = some (a, N)) (hty : j_ty a b = 3) (hrf : j_rf h q b = some B) (hat : j_at y pc = some (.getfield n, a, b, z)) : j_fin C y pc ls (jR q :: r) h = j_fin C y (pc + 3) ls (jR B :: r) h := by
  rw [j_fin_step]
  unfold j_step
  rw [hat]
  simp only [j_op, j_obk, j_fk, j_kd]
  rw [hK]
  simp only
  rw [if_pos trivial]
  unfold j_get j_rk1
  rw [hty, hK]
  simp only [j_op]
  rw [hrf]
theorem S_getKR {q N n B : Nat} (hK : j_kd h q = some (a, N)) (hb : b ≤ 1) (hty : j_ty a b = 3) (hrf : j_rk1 h q b = some B) (hat : j_at y pc = some (.getfield n, a, b, z)) : j_fin C y pc ls (jR q :: r) h = j_fin C y (pc + 3) ls (jR B :: r) h := by
  rw [j_fin_step]
  unfold j_step
  rw [hat]
  simp only [j_op, j_obk, j_fk]
  rw [hK]
  simp only
  rw [if_pos trivial]
  unfold j_get
  rw [hty, if_pos hb, hrf]
  simp only [j_op]
  split <;> rfl
theorem S_put0 {q N n : Nat} {x : Int} (hK : h.1[q]? = some (a, N)) (hty : j_ty a b = 0) (hat : j_at y pc = some (.putfield n, a, b, z)) : j_fin C y pc ls (jI x :: jR q :: r) h = j_fin C y (pc + 3) ls (r) (h.1, h.2.1, j_up h.2.2 q b x) := by
  rw [j_fin_step]
  unfold j_step
  rw [hat]
  simp only [j_op, j_ob]
  rw [hK]
  simp only
  rw [if_pos trivial]
  unfold j_put
  rw [hty]
  rfl
theorem S_put1 {q N n : Nat} {x : Int} (hK : h.1[q]? = some (a, N)) (hty : j_ty a b = 1) (hat : j_at y pc = some (.putfield n, a, b, z)) : j_fin C y pc ls (jL x :: jR q :: r) h = j_fin C y (pc + 3) ls (r) (h.1, h.2.1, j_up h.2.2 q b x) := by
  rw [j_fin_step]
  unfold j_step
  rw [hat]
  simp only [j_op, j_ob]
  rw [hK]
  simp only
  rw [if_pos trivial]
  unfold j_put
  rw [hty]
  rfl
theorem S_putR {q N n B : Nat} (hK : h.1[q]? = some (a, N)) (hty : j_ty a b = 3) (hat : j_at y pc = some (.putfield n, a, b, z)) : j_fin C y pc ls (jR B :: jR q :: r) h = j_fin C y (pc + 3) ls (r) (h.1, j_srf h q b B, h.2.2) := by
  rw [j_fin_step]
  unfold j_step
  rw [hat]
  simp only [j_op, j_ob]
  rw [hK]
  simp only
  rw [if_pos trivial]
  unfold j_put
  rw [hty]
  rfl
theorem S_put2 {q N n : Nat} {x : Int} (hK : h.1[q]? = some (a, N)) (hty : j_ty a b = 2) (hat : j_at y pc = some (.putfield n, a, b, z)) : j_fin C y pc ls (jI x :: jR q :: r) h = if x = 0 ∨ x = 1 then j_fin C y (pc + 3) ls (r) (h.1, h.2.1, j_up h.2.2 q b x) else none := by
  rw [j_fin_step]
  unfold j_step
  rw [hat]
  simp only [j_op, j_ob]
  rw [hK]
  simp only
  rw [if_pos trivial]
  unfold j_put
  rw [hty]
  rfl
theorem S_gets {n : Nat} (ha : a = 99) (hat : j_at y pc = some (.getstatic n, a, b, z)) : j_fin C y pc ls (r) h = j_fin C y (pc + 3) ls (jR 1 :: r) h := by
  rw [j_fin_step]
  unfold j_step
  rw [hat]
  simp only [j_op]
  rw [if_pos ha]
theorem S_getsI {n : Nat} (ha : a = 98) (hat : j_at y pc = some (.getstatic n, a, b, z)) : j_fin C y pc ls (r) h = j_fin C y (pc + 3) ls (jI 1 :: r) h := by
  rw [j_fin_step]
  unfold j_step
  rw [hat]
  simp only [j_op]
  rw [if_neg (by omega), if_pos ha]
theorem S_getsD {n : Nat} (ha : a = 96 ∨ a = 97) (hat : j_at y pc = some (.getstatic n, a, b, z)) : j_fin C y pc ls (r) h = j_fin C y (pc + 3) ls (jR (999924 + a) :: r) h := by
  rw [j_fin_step]
  unfold j_step
  rw [hat]
  simp only [j_op]
  rw [if_neg (by omega), if_neg (by omega), if_pos ha]
theorem S_pop {v : j_V} (hv : j_cat v = 1) (hat : j_at y pc = some (.pop, a, b, z)) : j_fin C y pc ls (v :: r) h = j_fin C y (pc + 1) ls (r) h := by
  rw [j_fin_step]
  unfold j_step
  rw [hat]
  simp only [j_op]
  rw [if_pos hv]
theorem S_dup_x1 {v w : j_V} (hv : j_cat v = 1) (hw : j_cat w = 1) (hat : j_at y pc = some (.dup_x1, a, b, z)) : j_fin C y pc ls (v :: w :: r) h = j_fin C y (pc + 1) ls (v :: w :: v :: r) h := by
  rw [j_fin_step]
  unfold j_step
  rw [hat]
  simp only [j_op]
  rw [if_pos ⟨hv, hw⟩]
theorem S_nnull {n : Int} {q : Nat} (hat : j_at y pc = some (.ifnonnull n, a, b, z)) : j_fin C y pc ls (jR q :: r) h = j_fin C y (a) ls (r) h := by
  rw [j_fin_step]
  unfold j_step
  rw [hat]
  rfl
theorem S_cast {n q N : Nat} (hK : h.1[q]? = some (34, N)) (hat : j_at y pc = some (.checkcast n, a, b, z)) : j_fin C y pc ls (jR q :: r) h = j_fin C y (pc + 3) ls (jR q :: r) h := by
  rw [j_fin_step]
  unfold j_step
  rw [hat]
  simp only [j_op, j_ob]
  rw [hK]
  rfl
theorem S_newarr {t : ArrayType} {n : Int} (hn : j_atc t < 36 ∧ 0 ≤ n ∧ n ≤ 100000 ∧ h.1.length < 900000) (hat : j_at y pc = some (.newarray t, a, b, z)) : j_fin C y pc ls (jI n :: r) h = j_fin C y (pc + 2) ls (jR h.1.length :: r) (j_new h (j_atc t) n.toNat) := by
  rw [j_fin_step]
  unfold j_step
  rw [hat]
  simp only [j_op, j_uI]
  rw [if_pos hn]
theorem S_cln {n A N : Nat} {st : List j_V} (ha : a = 9996) (hst : st.drop b = jR A :: r) (hK : h.1[A]? = some (34, N)) (hB : j_byt h.2.2 A 0 N = true) (hl : h.1.length < 900000) (hcat : (r.map j_cat).sum ≤ 8) (hat : j_at y pc = some (.invokevirtual n, a, b, z)) : j_fin C y pc ls (st) h = j_fin C y (pc + 3) ls (jR h.1.length :: r) (j_cln h A N) := by
  rw [j_fin_step]
  unfold j_step
  rw [hat]
  simp only [j_op]
  rw [hst, if_pos ha, hK]
  simp only
  rw [if_pos ⟨⟨trivial, hB⟩, hl, hcat⟩]
theorem S_new {n : Nat} (ha : a < 13 ∧ h.1.length < 900000) (hat : j_at y pc = some (.new n, a, b, z)) : j_fin C y pc ls (r) h = j_fin C y (pc + 3) ls (jR h.1.length :: r) (j_new h a (j_cz a)) := by
  rw [j_fin_step]
  unfold j_step
  rw [hat]
  simp only [j_op]
  rw [if_pos ha]
theorem S_tsw {d lo hi : Int} {offs : Array Int} {x : Int} (hat : j_at y pc = some (.tableswitch d lo hi offs, a, b, z)) : j_fin C y pc ls (jI x :: r) h = if lo ≤ x ∧ x ≤ hi then j_op (offs[(x - lo).toNat]?) none (fun o => if 0 ≤ (pc : Int) + o then j_fin C y ((pc : Int) + o).toNat ls r h else none) else if 0 ≤ (pc : Int) + d then j_fin C y ((pc : Int) + d).toNat ls r h else none := by
  rw [j_fin_step]
  unfold j_step
  rw [hat]
  rfl
theorem S_invv {n A N own kd np : Nat} {st : List j_V} (ha : a ≠ 9996) (hkn : j_kn[a]? = some (own, kd, np)) (hst : st.drop b = jR A :: r) (hK : j_kd h A = some (j_rcv own, N)) (hcat : (r.map j_cat).sum ≤ 8) (hat : j_at y pc = some (.invokevirtual n, a, b, z)) : j_fin C y pc ls (st) h = (C a (jR A :: (st.take b).reverse) h).bind fun z => j_fin C y (pc + 3) ls (z.1.toList ++ r) z.2 := by
  rw [j_fin_step]
  unfold j_step
  rw [hat]
  obtain ⟨mq, hmq, ho⟩ : ∃ mq, j_meth[a]? = some mq ∧ mq.2.2.2.2.1 = own := by
    rw [← j_kn_ok, List.getElem?_map] at hkn
    cases hm : j_meth[a]? with
    | none => rw [hm] at hkn; cases hkn
    | some mq => rw [hm] at hkn; cases hkn; exact ⟨mq, rfl, rfl⟩
  simp only [j_op]
  rw [hst]
  simp only
  rw [if_neg ha, hmq]
  simp only [j_obk]
  rw [hK, ho]
  simp only
  rw [if_pos trivial, if_pos hcat]
theorem S_objI {n A : Nat} {st : List j_V} (ha : a = 9998) (hst : st.drop b = jR A :: r) (hcat : (r.map j_cat).sum ≤ 8) (hat : j_at y pc = some (.invokespecial n, a, b, z)) : j_fin C y pc ls (st) h = j_fin C y (pc + 3) ls (r) h := by
  rw [j_fin_step]
  unfold j_step
  rw [hat]
  simp only [j_op]
  rw [if_neg (by omega), hst]
  simp only
  rw [if_pos hcat, if_pos ha]
theorem S_invi {n A own kd np : Nat} {st : List j_V} (ha : a < 9000) (hkn : j_kn[a]? = some (own, 2, np)) (hst : st.drop b = jR A :: r) (hcat : (r.map j_cat).sum ≤ 8) (hat : j_at y pc = some (.invokespecial n, a, b, z)) : j_fin C y pc ls (st) h = (C a (jR A :: (st.take b).reverse) h).bind fun z => j_fin C y (pc + 3) ls (z.1.toList ++ r) z.2 := by
  rw [j_fin_step]
  unfold j_step
  rw [hat]
  obtain ⟨mq, hmq, ho⟩ : ∃ mq, j_meth[a]? = some mq ∧ mq.2.2.2.2.2.1 = 2 := by
    rw [← j_kn_ok, List.getElem?_map] at hkn
    cases hm : j_meth[a]? with
    | none => rw [hm] at hkn; cases hkn
    | some mq => rw [hm] at hkn; cases hkn; exact ⟨mq, rfl, rfl⟩
  simp only [j_op]
  rw [if_neg (by omega), hst]
  simp only [j_obs]
  rw [if_pos hcat, if_neg (by omega), hmq]
  simp only
  rw [if_pos ho]
theorem S_invp {n A N own kd np : Nat} {st : List j_V} (ha : a < 9000) (hkn : j_kn[a]? = some (own, kd, np)) (hst : st.drop b = jR A :: r) (hK : j_kd h A = some (j_rcv own, N)) (hcat : (r.map j_cat).sum ≤ 8) (hat : j_at y pc = some (.invokespecial n, a, b, z)) : j_fin C y pc ls (st) h = (C a (jR A :: (st.take b).reverse) h).bind fun z => j_fin C y (pc + 3) ls (z.1.toList ++ r) z.2 := by
  rw [j_fin_step]
  unfold j_step
  rw [hat]
  obtain ⟨mq, hmq, ho⟩ : ∃ mq, j_meth[a]? = some mq ∧ mq.2.2.2.2.1 = own := by
    rw [← j_kn_ok, List.getElem?_map] at hkn
    cases hm : j_meth[a]? with
    | none => rw [hm] at hkn; cases hkn
    | some mq => rw [hm] at hkn; cases hkn; exact ⟨mq, rfl, rfl⟩
  simp only [j_op]
  rw [if_neg (by omega), hst]
  simp only [j_obs, j_obk]
  rw [if_pos hcat, if_neg (by omega), hmq]
  simp only
  rw [hK, ho]
  simp only
  rw [if_pos trivial]
  split <;> rfl
theorem S_invs {n : Nat} {st : List j_V} (ha : a < 9000) (hlen : b ≤ st.length) (hcat : ((st.drop b).map j_cat).sum ≤ 8) (hat : j_at y pc = some (.invokestatic n, a, b, z)) : j_fin C y pc ls (st) h = (C a (st.take b).reverse h).bind fun z => j_fin C y (pc + 3) ls (z.1.toList ++ st.drop b) z.2 := by
  rw [j_fin_step]
  unfold j_step
  rw [hat]
  simp only [j_op]
  rw [if_neg (by omega), if_neg (by omega), if_pos ⟨hlen, hcat⟩]
theorem S_cpy {n0 q1 q0 k N0 N1 : Nat} {n dp sp : Int} (ha : a = 9999) (hk : k = 32 ∨ k = 33) (h0 : j_kd h q0 = some (k, N0)) (h1 : h.1[q1]? = some (k, N1)) (hq : 2 ≤ q0 ∧ 2 ≤ q1) (hcat : (r.map j_cat).sum ≤ 8) (hat : j_at y pc = some (.invokestatic n0, a, b, z)) : j_fin C y pc ls (jI n :: jI dp :: jR q1 :: jI sp :: jR q0 :: r) h = if 0 ≤ n ∧ 0 ≤ sp ∧ 0 ≤ dp ∧ sp + n ≤ (N0 : Int) ∧ dp + n ≤ (N1 : Int) then j_fin C y (pc + 3) ls (r) (h.1, h.2.1, j_cpy h.2.2 q0 sp.toNat q1 dp.toNat n.toNat) else none := by
  rw [j_fin_step]
  unfold j_step
  rw [hat]
  simp only [j_op]
  rw [if_neg (by omega), if_pos ha]
  rw [h0, h1]
  simp only
  rw [if_pos ⟨by rcases hk with h | h <;> simp [h], trivial, hq.1, hq.2, hcat⟩]
theorem S_cpyB {n0 q1 q0 N0 N1 : Nat} {n dp sp : Int} (ha : a = 9999) (hB : j_byt h.2.2 q0 sp.toNat n.toNat = true) (h0 : j_kd h q0 = some (34, N0)) (h1 : h.1[q1]? = some (34, N1)) (hq : 2 ≤ q0 ∧ 2 ≤ q1) (hcat : (r.map j_cat).sum ≤ 8) (hat : j_at y pc = some (.invokestatic n0, a, b, z)) : j_fin C y pc ls (jI n :: jI dp :: jR q1 :: jI sp :: jR q0 :: r) h = if 0 ≤ n ∧ 0 ≤ sp ∧ 0 ≤ dp ∧ sp + n ≤ (N0 : Int) ∧ dp + n ≤ (N1 : Int) then j_fin C y (pc + 3) ls (r) (h.1, h.2.1, j_cpy h.2.2 q0 sp.toNat q1 dp.toNat n.toNat) else none := by
  rw [j_fin_step]
  unfold j_step
  rw [hat]
  simp only [j_op]
  rw [if_neg (by omega), if_pos ha]
  rw [h0, h1]
  simp only
  rw [if_pos ⟨.inr (.inr ⟨trivial, hB⟩), trivial, hq.1, hq.2, hcat⟩]
theorem S_ireti {x : Int} (hr : j_ret y = 1) (hat : j_at y pc = some (.ireturn, a, b, z)) : j_fin C y pc ls ([jI x]) h = some (some (jI x), h) := by
  rw [j_fin_step]
  unfold j_step
  rw [hat]
  simp only [j_op]
  rw [if_pos hr]
theorem S_iretz {x : Int} (hr : j_ret y = 3) (hat : j_at y pc = some (.ireturn, a, b, z)) : j_fin C y pc ls ([jI x]) h = if x = 0 ∨ x = 1 then some (some (jI x), h) else none := by
  rw [j_fin_step]
  unfold j_step
  rw [hat]
  simp only [j_op]
  rw [if_neg (by rw [hr]; decide), if_pos hr]
theorem S_iretb {x : Int} (hr : j_ret y = 4) (hx : -128 ≤ x ∧ x ≤ 127) (hat : j_at y pc = some (.ireturn, a, b, z)) : j_fin C y pc ls ([jI x]) h = some (some (jI x), h) := by
  rw [j_fin_step]
  unfold j_step
  rw [hat]
  simp only [j_op]
  rw [if_neg (by rw [hr]; decide), if_neg (by rw [hr]; decide), if_pos hr, if_pos hx]
theorem S_iretc {x : Int} (hr : j_ret y = 5) (hx : 0 ≤ x ∧ x ≤ 65535) (hat : j_at y pc = some (.ireturn, a, b, z)) : j_fin C y pc ls ([jI x]) h = some (some (jI x), h) := by
  rw [j_fin_step]
  unfold j_step
  rw [hat]
  simp only [j_op]
  rw [if_neg (by rw [hr]; decide), if_neg (by rw [hr]; decide), if_neg (by rw [hr]; decide), if_pos hr, if_pos hx]
theorem S_aret {q : Nat} (hr : j_ret y = 6) (hat : j_at y pc = some (.areturn, a, b, z)) : j_fin C y pc ls ([jR q]) h = some (some (jR q), h) := by
  rw [j_fin_step]
  unfold j_step
  rw [hat]
  simp only [j_op]
  rw [if_pos hr]
theorem S_lret {x : Int} (hr : j_ret y = 2) (hat : j_at y pc = some (.lreturn, a, b, z)) : j_fin C y pc ls ([jL x]) h = some (some (jL x), h) := by
  rw [j_fin_step]
  unfold j_step
  rw [hat]
  simp only [j_op]
  rw [if_pos hr]
theorem S_ret (hr : j_ret y = 0) (hat : j_at y pc = some (.return_, a, b, z)) : j_fin C y pc ls (([] : List j_V)) h = some (none, h) := by
  rw [j_fin_step]
  unfold j_step
  rw [hat]
  simp only [j_op]
  rw [if_pos hr]
end ST
end
