/-! Names, fields, codes (printed rows, by program). -/
def va_AOA (ty : FieldType) (U : State) : Prop := (Cond.arrayOver (.array ty)).before #[] U = true
theorem va_AOA.of {ty : FieldType} {A : Array Value} {U : State} (h : (Cond.arrayOver (.array ty)).before A U = true) : va_AOA ty U := h
theorem va_AOA.use {ty : FieldType} {A : Array Value} {U : State} (h : va_AOA ty U) : (Cond.arrayOver (.array ty)).before A U = true := h
theorem va_AOA.moved {ty : FieldType} {u U : State} (hvm : u.vm.Alike U.vm) (h : va_AOA ty u) : va_AOA ty U := Jvm.Stand.arrayOver_alikeB hvm h
/-! ===== BEGIN new T[n][m]: the outer array a place, the inner ones among the pooled ===== -/
/-- f, but v at every address of l -/
def vr_up {α : Type} (f : Nat → α) (l : List Nat) (v : α) : Nat → α := fun a => if a ∈ l then v else f a
theorem vr_up_in {α : Type} {f : Nat → α} {l : List Nat} {v : α} {a : Nat} (h : a ∈ l) : vr_up f l v a = v := if_pos h
theorem vr_up_ne {α : Type} {f : Nat → α} {l : List Nat} {v : α} {a : Nat} (h : a ∉ l) : vr_up f l v a = f a := if_neg h
theorem vr_rows {L l : List Nat} {f : Nat → va_E} {e : va_E} (h : ∀ a, a ∈ l → a ∉ L) : va_pl L f ++ l.map (fun a => (a, e)) = va_pl (L ++ l) (vr_up f l e) := by
  unfold va_pl
  rw [List.map_append]
  congr 1
  · apply List.map_congr_left
    intro a ha
    rw [vr_up_ne (fun q => h a q ha)]
  · apply List.map_congr_left
    intro a ha
    rw [vr_up_in ha]
theorem vr_lay {X rows : va_W} {x : Nat × va_E} {pl : va_W} {D : va_G} {cl : List vw_C} {H : Heap} (hP : va_P D cl (((X ++ pl) ++ [x]) ++ rows) H) : va_P D cl ((X ++ [x]) ++ (pl ++ rows)) H := by
  rw [List.append_assoc (X ++ pl)] at hP
  have h := va_P.swap hP
  rw [← List.append_assoc X] at h
  have h2 := va_P.swap h
  rw [List.append_assoc (X ++ [x])] at h2
  exact h2
theorem vr_layD {X rows : va_W} {x : Nat × va_E} {pl : va_W} {A : Nat → Prop} (hD : va_D A (((X ++ pl) ++ [x]) ++ rows)) : va_D A ((X ++ [x]) ++ (pl ++ rows)) := by
  rw [List.append_assoc (X ++ pl)] at hD
  have h := va_D.swap hD
  rw [← List.append_assoc X] at h
  have h2 := va_D.swap h
  rw [List.append_assoc (X ++ [x])] at h2
  exact h2
theorem vr_outer (c : ClassId) (N h0 : Nat) : ∀ i : Nat, Jvm.Free.Multi.outerC c N h0 i = arrV c N (fun j => va_rf (if j < i then some (h0 + 1 + j) else none))
  | 0 => by
    show ({ cls := c, slots := Array.replicate N .null, vm := .none } : Cell) = _
    rw [arrV_new]
    refine congrArg (arrV c N) (funext fun j => ?_)
    simp [va_rf]
  | i + 1 => by
    show (Jvm.Free.Multi.outerC c N h0 i).setSlot i (.ref (h0 + 1 + i)) = _
    rw [vr_outer c N h0 i, arrV_store]
    refine congrArg (arrV c N) (funext fun j => ?_)
    by_cases e : j = i
    · subst e
      simp [updV, va_rf]
    · by_cases h : j < i
      · simp [updV, e, h, Nat.lt_succ_of_lt h]
      · simp [updV, e, h, show ¬ j < i + 1 by omega]
section VGM
variable {p : Program} {l : Launch} {e : Env} {R : Room} {s : State} {m : MethodId} {args : Array Value} {below : List Frame} {meth : Method} {c : Code} {H : Heap} {locs : List Loc} {cells slots : Nat} {Q : State → Prop}
variable {cc : ByteArray} {pc : Nat} {ls : Array Slot} {rest : List Value} {D : va_G} {cl : List vw_C} {A : Nat → Prop} {a : Nat} {tys : List (ClassId × FieldType)} {ws : va_W} {H0 : Heap}
theorem va_mna {X : va_W} {L : List Nat} {f : Nat → va_E} {cc : ByteArray} (hexec : p.tables.exec = Jvm.exec) (hb : c.code = cc) {own : String} {index : Nat} {ty : FieldType} {cy : ClassId} (hown : s.vm.findClass own = some m.cls) (hclink : (Cond.classLink own index ("[" ++ (FieldType.array ty).toString)).before args s = true) (hover : va_AOA ty s) (harr : (Cond.arrayClass ty).before args s = true) (hcy : s.vm.findClass (FieldType.array ty).toString = some cy)
    (hK : va_K D cl tys s) (hP : va_P D cl (X ++ va_pl L f) H) (hD : va_D A (X ++ va_pl L f)) (hS : va_S A H0 H locs) (hA : ∀ q, H0.size ≤ q → A q) {n k : Int32} {N' K' : Nat} {z : vp_A} (hn : ¬ n < 0) (hk : ¬ k < 0) (hN : n.toNatClampNeg = N') (hM : k.toNatClampNeg = K')
    (hb1 : N' * 4 ≤ 536870912) (hb2 : K' * componentBytes ty ≤ 536870912) (hb3 : K' ≤ 536870912) (hdf : fits ty (defaultValue ty) = true) (hdd : (defaultValue ty).isDefault = true) (hcells : cells + (1 + N') ≤ R.cells) (hslots : slots + (N' + N' * K') ≤ R.slots) (hz : ∀ c : ClassId, Jvm.Free.Multi.innerC c K' (defaultValue ty) = vp_cell c z) (hdg : decode cc pc = .ok (.multianewarray index 2, 4))
    (kk : ∀ (q : Nat) (r : Nat → Nat) (cA : ClassId) (H1 : Heap), (∀ i j : Nat, i < N' → j < N' → r i = r j → i = j) → (∀ i : Nat, i < N' → r i ∉ L) → va_K D cl (tys ++ [(cA, .array ty)]) s →
      va_P D cl ((X ++ [(q, .inl (cA, N', .inr (.inr (.inr (.inr (fun i => if i < N' then some (r i) else none))))))]) ++ va_pl (L ++ (List.range N').map r) (vr_up f ((List.range N').map r) (.inl (cy, z)))) H1 → va_D A ((X ++ [(q, .inl (cA, N', .inr (.inr (.inr (.inr (fun i => if i < N' then some (r i) else none))))))]) ++ va_pl (L ++ (List.range N').map r) (vr_up f ((List.range N').map r) (.inl (cy, z)))) → va_S A H0 H1 locs →
      W p l e R s m args below meth c H1 locs (cells + 1 + N') (slots + N' + N' * K') Q (F0 m (pc + 4) ls (.ref q :: rest))) : W p l e R s m args below meth c H locs cells slots Q (F0 m pc ls (.int k :: .int n :: rest)) := by
  subst hN
  subst hM
  intro T hT Xs
  obtain ⟨vm₁, cA, comp, -, fA, fC, hO, -, X', step⟩ := Xs.multianewarray2F hexec hown hclink (va_AOA.use hover) harr (g := F0 m pc ls (.int k :: .int n :: rest)) rfl (by rw [hb]; exact hdg) rfl hn hk hb1 hb2 hb3 hdf hdd hcells hslots
  have ec : some cy = some comp := hcy.symm.trans fC
  cases ec
  generalize hF : Jvm.Free.Multi.fill (T.setVm vm₁) cA cy n.toNatClampNeg k.toNatClampNeg (defaultValue ty) n.toNatClampNeg = F at X' step
  have hTh : (T.setVm vm₁).heap = H := hT
  obtain ⟨f1, f2, -, -⟩ := Jvm.Free.Multi.fill_facts (T.setVm vm₁) cA cy n.toNatClampNeg k.toNatClampNeg (defaultValue ty) n.toNatClampNeg
  rw [hF, hTh] at f1 f2
  have hold : ∀ x : Nat, x < H.size → F.heap[x]? = H[x]? := fun x hx => by
    have := Jvm.Free.Multi.fill_old (T.setVm vm₁) cA cy n.toNatClampNeg k.toNatClampNeg (defaultValue ty) (a := x) (by rw [hTh]; exact hx) n.toNatClampNeg
    rw [hF, hTh] at this
    exact this
  have hrow : ∀ j : Nat, j < n.toNatClampNeg → F.heap[H.size + 1 + j]? = some (vp_cell cy z) := fun j hj => by
    have := Jvm.Free.Multi.fill_inner (T.setVm vm₁) cA cy n.toNatClampNeg k.toNatClampNeg (defaultValue ty) n.toNatClampNeg j hj
    rw [hF, hTh, hz] at this
    exact this
  have hout : Jvm.Free.Multi.outerC cA n.toNatClampNeg H.size n.toNatClampNeg = vp_cell cA (n.toNatClampNeg, .inr (.inr (.inr (.inr (fun i => if i < n.toNatClampNeg then some (H.size + 1 + i) else none))))) := by
    rw [vp_cell_q]
    exact vr_outer cA n.toNatClampNeg H.size n.toNatClampNeg
  rw [hout] at f2
  have hlt : ∀ a, a ∈ L → a < H.size := fun a ha => by
    obtain ⟨k9, hk9⟩ := va_pl_get (X := X) (f := f) ha
    exact (hP k9 _ hk9).lt
  have hnl : ∀ i : Nat, i < n.toNatClampNeg → H.size + 1 + i ∉ L := fun i _ h => by
    have := hlt _ h
    omega
  have hnm : ∀ a, a ∈ (List.range n.toNatClampNeg).map (fun i => H.size + 1 + i) → a ∉ L := fun a ha h => by
    obtain ⟨i, -, rfl⟩ := List.mem_map.mp ha
    have := hlt _ h
    omega
  have hP0 : va_P D cl (X ++ va_pl L f) F.heap := hP.kept (fun k9 x hx => hold x.1 ((hP k9 x hx).lt))
  have hP1 : va_P D cl ((X ++ va_pl L f) ++ [(H.size, .inl (cA, n.toNatClampNeg, .inr (.inr (.inr (.inr (fun i => if i < n.toNatClampNeg then some (H.size + 1 + i) else none))))))]) F.heap := hP0.app (fun k9 x hx => by
    have h0 : k9 < 1 := (List.getElem?_eq_some_iff.mp hx).1
    rw [show k9 = 0 by omega] at hx
    cases hx
    exact f2)
  have hP2 : va_P D cl (((X ++ va_pl L f) ++ [(H.size, .inl (cA, n.toNatClampNeg, .inr (.inr (.inr (.inr (fun i => if i < n.toNatClampNeg then some (H.size + 1 + i) else none))))))]) ++ ((List.range n.toNatClampNeg).map (fun i => H.size + 1 + i)).map (fun a => (a, .inl (cy, z)))) F.heap := hP1.app (fun k9 x hx => by
    obtain ⟨a, ha, rfl⟩ := List.mem_map.mp (List.mem_of_getElem? hx)
    obtain ⟨i, hi, rfl⟩ := List.mem_map.mp ha
    exact hrow i (List.mem_range.mp hi))
  have hD2 : va_D A (((X ++ va_pl L f) ++ [(H.size, .inl (cA, n.toNatClampNeg, .inr (.inr (.inr (.inr (fun i => if i < n.toNatClampNeg then some (H.size + 1 + i) else none))))))]) ++ ((List.range n.toNatClampNeg).map (fun i => H.size + 1 + i)).map (fun a => (a, .inl (cy, z)))) := by
    have hD1 := hD.push (e := .inl (cA, n.toNatClampNeg, .inr (.inr (.inr (.inr (fun i => if i < n.toNatClampNeg then some (H.size + 1 + i) else none)))))) hP rfl (hA _ hS.1)
    generalize hW1 : (X ++ va_pl L f) ++ [(H.size, .inl (cA, n.toNatClampNeg, .inr (.inr (.inr (.inr (fun i => if i < n.toNatClampNeg then some (H.size + 1 + i) else none))))))] = W1 at hD1 hP1 ⊢
    have hle : ∀ (k9 : Nat) (x : Nat × va_E), W1[k9]? = some x → x.1 ≤ H.size := fun k9 x hx => by
      rw [← hW1] at hx
      by_cases hl : k9 < (X ++ va_pl L f).length
      · rw [List.getElem?_append_left hl] at hx
        exact Nat.le_of_lt ((hP k9 x hx).lt)
      · rw [List.getElem?_append_right (by omega)] at hx
        have h0 : k9 - (X ++ va_pl L f).length < 1 := (List.getElem?_eq_some_iff.mp hx).1
        rw [show k9 - (X ++ va_pl L f).length = 0 by omega] at hx
        cases hx
        exact Nat.le_refl _
    have hr : ∀ (k9 : Nat) (x : Nat × va_E), (((List.range n.toNatClampNeg).map (fun i => H.size + 1 + i)).map (fun a => ((a, .inl (cy, z)) : Nat × va_E)))[k9]? = some x → x.1 = H.size + 1 + k9 := fun k9 x hx => by
      rw [List.getElem?_map, List.getElem?_map] at hx
      by_cases h9 : k9 < n.toNatClampNeg
      · rw [List.getElem?_range h9] at hx
        cases hx
        rfl
      · have hn0 : (List.range n.toNatClampNeg)[k9]? = none := List.getElem?_eq_none (by rw [List.length_range]; omega)
        rw [hn0] at hx
        cases hx
    refine ⟨fun i j x y hi hj hxy => ?_, fun k9 x hx => ?_⟩
    · by_cases h1 : i < W1.length <;> by_cases h2 : j < W1.length
      · rw [List.getElem?_append_left h1] at hi
        rw [List.getElem?_append_left h2] at hj
        exact hD1.1 i j x y hi hj hxy
      · rw [List.getElem?_append_left h1] at hi
        rw [List.getElem?_append_right (by omega)] at hj
        have := hle _ _ hi
        have := hr _ _ hj
        omega
      · rw [List.getElem?_append_right (by omega)] at hi
        rw [List.getElem?_append_left h2] at hj
        have := hle _ _ hj
        have := hr _ _ hi
        omega
      · rw [List.getElem?_append_right (by omega)] at hi hj
        have := hr _ _ hi
        have := hr _ _ hj
        omega
    · by_cases h1 : k9 < W1.length
      · rw [List.getElem?_append_left h1] at hx
        exact hD1.2 k9 x hx
      · rw [List.getElem?_append_right (by omega)] at hx
        have := hr _ _ hx
        exact hA _ (by have := hS.1; omega)
  have hAr : ArrOfT s cA (.array ty) := fun N9 z9 => by
    obtain ⟨-, k9, hk9, cm9, hkk9⟩ := (hO 0 0 0).1
    exact ⟨(fun q hq => by cases hq), k9, hk9, cm9, hkk9⟩
  have hK2 : va_K D cl (tys ++ [(cA, .array ty)]) s := ⟨hK.1, fun k9 x hx => by
    by_cases hl : k9 < tys.length
    · rw [List.getElem?_append_left hl] at hx
      exact hK.2 k9 x hx
    · rw [List.getElem?_append_right (by omega)] at hx
      have h0 : k9 - tys.length < 1 := (List.getElem?_eq_some_iff.mp hx).1
      rw [show k9 - tys.length = 0 by omega] at hx
      cases hx
      exact ⟨hAr, fA⟩⟩
  obtain ⟨t, a1, b1⟩ := kk H.size (fun i => H.size + 1 + i) cA F.heap (fun i j _ _ h => by have h9 : H.size + 1 + i = H.size + 1 + j := h; omega) hnl hK2 (by rw [← vr_rows hnm]; exact vr_lay hP2) (by rw [← vr_rows hnm]; exact vr_layD hD2) ⟨by rw [f1]; have := hS.1; omega, fun x h1 h2 => (hold x (Nat.lt_of_lt_of_le h1 hS.1)).trans (hS.2.1 x h1 h2), hS.2.2⟩ F rfl X'
  refine ⟨t, step t ?_, b1⟩
  have e : T.heap.size = H.size := by rw [hT]
  rw [e]
  exact a1
end VGM
def RX0 : String := "WholePacks$Cuts"
def TX0 : u_T := fun k => match k with
  | 0 => ("WholePacks$Cuts", "number", "I", false)
  | 1 => ("WholePacks$Cuts", "divisors", "[J", true)
  | 2 => ("WholePacks$Cuts", "forms", "[J", true)
  | _ => ("WholePacks$Cuts", "weights", "[J", true)
def tyX0 : Nat → FieldType := fun k => match k with
  | 0 => .int
  | 1 => .array .long
  | 2 => .array .long
  | _ => .array .long
abbrev wsX00 : List Cond := u_ws RX0 TX0 4
theorem nmX0 : ∀ a, a < 4 → ∀ b, b < 4 → a ≠ b → (TX0 a).2.1 ≠ (TX0 b).2.1 := by decide +kernel
theorem tyX0_ok : ∀ k, k < 4 → parseFieldDescriptor (TX0 k).2.2.1 = some (tyX0 k) := by decide +kernel
abbrev cX0_init : ByteArray := prog_2_method_1_code
def yX0_init : MethodName := ⟨RX0, "<init>", "()V"⟩
abbrev cX0_clear : ByteArray := prog_2_method_2_code
def yX0_clear : MethodName := ⟨RX0, "clear", "()V"⟩
abbrev cX0_formOf : ByteArray := prog_2_method_3_code
def yX0_formOf : MethodName := ⟨RX0, "formOf", "(II)J"⟩
abbrev cX0_weightOf : ByteArray := prog_2_method_4_code
def yX0_weightOf : MethodName := ⟨RX0, "weightOf", "(II)J"⟩
abbrev cX0_make : ByteArray := prog_2_method_5_code
def yX0_make : MethodName := ⟨RX0, "make", "(LWholePacks$Table;ILWholePacks$Packs;)Z"⟩
abbrev cX0_tellIn : ByteArray := prog_2_method_6_code
def yX0_tellIn : MethodName := ⟨RX0, "tellIn", "(LWholePacks$Table;ILWholePacks$Packs;I)J"⟩
abbrev cX0_isProved : ByteArray := prog_2_method_7_code
def yX0_isProved : MethodName := ⟨RX0, "isProved", "(ILWholePacks$Packs;)Z"⟩
def RX1 : String := "WholePacks$Packs"
def TX1 : u_T := fun k => match k with
  | 0 => ("WholePacks$Packs", "number", "I", false)
  | 1 => ("WholePacks$Packs", "rules", "I", false)
  | 2 => ("WholePacks$Packs", "costs", "[I", true)
  | 3 => ("WholePacks$Packs", "sorts", "[I", true)
  | 4 => ("WholePacks$Packs", "bounds", "[I", true)
  | _ => ("WholePacks$Packs", "factors", "[I", true)
def tyX1 : Nat → FieldType := fun k => match k with
  | 0 => .int
  | 1 => .int
  | 2 => .array .int
  | 3 => .array .int
  | 4 => .array .int
  | _ => .array .int
abbrev wsX10 : List Cond := u_ws RX1 TX1 6
theorem nmX1 : ∀ a, a < 6 → ∀ b, b < 6 → a ≠ b → (TX1 a).2.1 ≠ (TX1 b).2.1 := by decide +kernel
theorem tyX1_ok : ∀ k, k < 6 → parseFieldDescriptor (TX1 k).2.2.1 = some (tyX1 k) := by decide +kernel
abbrev cX1_init : ByteArray := prog_3_method_1_code
def yX1_init : MethodName := ⟨RX1, "<init>", "()V"⟩
abbrev cX1_become : ByteArray := prog_3_method_2_code
def yX1_become : MethodName := ⟨RX1, "become", "(LWholePacks$Packs;)V"⟩
abbrev cX1_startAgain : ByteArray := prog_3_method_3_code
def yX1_startAgain : MethodName := ⟨RX1, "startAgain", "(I)V"⟩
abbrev cX1_addRule : ByteArray := prog_3_method_4_code
def yX1_addRule : MethodName := ⟨RX1, "addRule", "(II)V"⟩
abbrev cX1_factorOf : ByteArray := prog_3_method_5_code
def yX1_factorOf : MethodName := ⟨RX1, "factorOf", "(II)I"⟩
abbrev cX1_setFactor : ByteArray := prog_3_method_6_code
def yX1_setFactor : MethodName := ⟨RX1, "setFactor", "(III)V"⟩
abbrev cX1_formOf : ByteArray := prog_3_method_7_code
def yX1_formOf : MethodName := ⟨RX1, "formOf", "(II)I"⟩
abbrev cX1_costOf : ByteArray := prog_3_method_8_code
def yX1_costOf : MethodName := ⟨RX1, "costOf", "(I)I"⟩
abbrev cX1_firstBroken : ByteArray := prog_3_method_9_code
def yX1_firstBroken : MethodName := ⟨RX1, "firstBroken", "(I)I"⟩
abbrev cX1_digitOf : ByteArray := prog_3_method_10_code
def yX1_digitOf : MethodName := ⟨RX1, "digitOf", "(II)I"⟩
abbrev cX1_change : ByteArray := prog_3_method_11_code
def yX1_change : MethodName := ⟨RX1, "change", "(III)V"⟩
abbrev cX1_drawRules : ByteArray := prog_3_method_12_code
def yX1_drawRules : MethodName := ⟨RX1, "drawRules", "(II)V"⟩
abbrev cX1_stirred : ByteArray := prog_3_method_13_code
def yX1_stirred : MethodName := ⟨RX1, "stirred", "(I)I"⟩
def RX2 : String := "WholePacks$Shelf"
def TX2 : u_T := fun k => match k with
  | 0 => ("WholePacks$Shelf", "number", "I", false)
  | 1 => ("WholePacks$Shelf", "codes", "[I", true)
  | 2 => ("WholePacks$Shelf", "costs", "[I", true)
  | _ => ("WholePacks$Shelf", "asks", "[I", true)
def tyX2 : Nat → FieldType := fun k => match k with
  | 0 => .int
  | 1 => .array .int
  | 2 => .array .int
  | _ => .array .int
abbrev wsX20 : List Cond := u_ws RX2 TX2 4
theorem nmX2 : ∀ a, a < 4 → ∀ b, b < 4 → a ≠ b → (TX2 a).2.1 ≠ (TX2 b).2.1 := by decide +kernel
theorem tyX2_ok : ∀ k, k < 4 → parseFieldDescriptor (TX2 k).2.2.1 = some (tyX2 k) := by decide +kernel
abbrev cX2_init : ByteArray := prog_4_method_1_code
def yX2_init : MethodName := ⟨RX2, "<init>", "()V"⟩
abbrev cX2_become : ByteArray := prog_4_method_2_code
def yX2_become : MethodName := ⟨RX2, "become", "(LWholePacks$Shelf;)V"⟩
abbrev cX2_clear : ByteArray := prog_4_method_3_code
def yX2_clear : MethodName := ⟨RX2, "clear", "()V"⟩
abbrev cX2_placeOf : ByteArray := prog_4_method_4_code
def yX2_placeOf : MethodName := ⟨RX2, "placeOf", "(I)I"⟩
abbrev cX2_gainOf : ByteArray := prog_4_method_5_code
def yX2_gainOf : MethodName := ⟨RX2, "gainOf", "(I)I"⟩
abbrev cX2_insert : ByteArray := prog_4_method_6_code
def yX2_insert : MethodName := ⟨RX2, "insert", "(III)V"⟩
abbrev cX2_keepIfCheap : ByteArray := prog_4_method_7_code
def yX2_keepIfCheap : MethodName := ⟨RX2, "keepIfCheap", "(II)V"⟩
abbrev cX2_isAhead : ByteArray := prog_4_method_8_code
def yX2_isAhead : MethodName := ⟨RX2, "isAhead", "(III)Z"⟩
def RX3 : String := "WholePacks$Solution"
def TX3 : u_T := fun k => match k with
  | 0 => ("WholePacks$Solution", "table", "LWholePacks$Table;", true)
  | 1 => ("WholePacks$Solution", "cuts", "LWholePacks$Cuts;", true)
  | _ => ("WholePacks$Solution", "state", "I", false)
def tyX3 : Nat → FieldType := fun k => match k with
  | 0 => .object "WholePacks$Table"
  | 1 => .object "WholePacks$Cuts"
  | _ => .int
abbrev wsX30 : List Cond := u_ws RX3 TX3 3
theorem nmX3 : ∀ a, a < 3 → ∀ b, b < 3 → a ≠ b → (TX3 a).2.1 ≠ (TX3 b).2.1 := by decide +kernel
theorem tyX3_ok : ∀ k, k < 3 → parseFieldDescriptor (TX3 k).2.2.1 = some (tyX3 k) := by decide +kernel
abbrev cX3_init : ByteArray := prog_5_method_1_code
def yX3_init : MethodName := ⟨RX3, "<init>", "()V"⟩
abbrev cX3_work : ByteArray := prog_5_method_2_code
def yX3_work : MethodName := ⟨RX3, "work", "(LWholePacks$Packs;I)I"⟩
abbrev cX3_worthOf : ByteArray := prog_5_method_3_code
def yX3_worthOf : MethodName := ⟨RX3, "worthOf", "(LWholePacks$Packs;)I"⟩
def RX4 : String := "WholePacks$State"
def TX4 : u_T := fun k => match k with
  | 0 => ("WholePacks$State", "packs", "LWholePacks$Packs;", true)
  | 1 => ("WholePacks$State", "offers", "LWholePacks$Shelf;", true)
  | 2 => ("WholePacks$State", "hands", "[I", true)
  | 3 => ("WholePacks$State", "by", "I", false)
  | 4 => ("WholePacks$State", "box", "I", false)
  | 5 => ("WholePacks$State", "seen", "I", false)
  | 6 => ("WholePacks$State", "seenPacks", "[I", true)
  | 7 => ("WholePacks$State", "seenMany", "[I", true)
  | 8 => ("WholePacks$State", "planned", "I", false)
  | 9 => ("WholePacks$State", "planWhats", "[I", true)
  | 10 => ("WholePacks$State", "planPlaces", "[I", true)
  | _ => ("WholePacks$State", "planValues", "[I", true)
def tyX4 : Nat → FieldType := fun k => match k with
  | 0 => .object "WholePacks$Packs"
  | 1 => .object "WholePacks$Shelf"
  | 2 => .array .int
  | 3 => .int
  | 4 => .int
  | 5 => .int
  | 6 => .array .int
  | 7 => .array .int
  | 8 => .int
  | 9 => .array .int
  | 10 => .array .int
  | _ => .array .int
abbrev wsX40 : List Cond := u_ws RX4 TX4 12
theorem nmX4 : ∀ a, a < 12 → ∀ b, b < 12 → a ≠ b → (TX4 a).2.1 ≠ (TX4 b).2.1 := by decide +kernel
theorem tyX4_ok : ∀ k, k < 12 → parseFieldDescriptor (TX4 k).2.2.1 = some (tyX4 k) := by decide +kernel
abbrev cX4_init : ByteArray := prog_6_method_1_code
def yX4_init : MethodName := ⟨RX4, "<init>", "()V"⟩
abbrev cX4_become : ByteArray := prog_6_method_2_code
def yX4_become : MethodName := ⟨RX4, "become", "(LWholePacks$State;)V"⟩
abbrev cX4_startAgain : ByteArray := prog_6_method_3_code
def yX4_startAgain : MethodName := ⟨RX4, "startAgain", "(I)V"⟩
abbrev cX4_addSeen : ByteArray := prog_6_method_4_code
def yX4_addSeen : MethodName := ⟨RX4, "addSeen", "(II)V"⟩
abbrev cX4_addPlan : ByteArray := prog_6_method_5_code
def yX4_addPlan : MethodName := ⟨RX4, "addPlan", "(III)V"⟩
abbrev cX4_handForm : ByteArray := prog_6_method_6_code
def yX4_handForm : MethodName := ⟨RX4, "handForm", "(I)J"⟩
def RX5 : String := "WholePacks$Table"
def TX5 : u_T := fun k => match k with
  | 0 => ("WholePacks$Table", "rows", "I", false)
  | 1 => ("WholePacks$Table", "columns", "I", false)
  | 2 => ("WholePacks$Table", "pivots", "I", false)
  | 3 => ("WholePacks$Table", "base", "J", false)
  | 4 => ("WholePacks$Table", "divisor", "J", false)
  | 5 => ("WholePacks$Table", "rowOwners", "[I", true)
  | 6 => ("WholePacks$Table", "columnOwners", "[I", true)
  | 7 => ("WholePacks$Table", "entries", "[J", true)
  | 8 => ("WholePacks$Table", "rights", "[J", true)
  | 9 => ("WholePacks$Table", "rises", "[J", true)
  | 10 => ("WholePacks$Table", "freshEntries", "[J", true)
  | 11 => ("WholePacks$Table", "freshRights", "[J", true)
  | _ => ("WholePacks$Table", "freshRises", "[J", true)
def tyX5 : Nat → FieldType := fun k => match k with
  | 0 => .int
  | 1 => .int
  | 2 => .int
  | 3 => .long
  | 4 => .long
  | 5 => .array .int
  | 6 => .array .int
  | 7 => .array .long
  | 8 => .array .long
  | 9 => .array .long
  | 10 => .array .long
  | 11 => .array .long
  | _ => .array .long
abbrev wsX50 : List Cond := u_ws RX5 TX5 13
theorem nmX5 : ∀ a, a < 13 → ∀ b, b < 13 → a ≠ b → (TX5 a).2.1 ≠ (TX5 b).2.1 := by decide +kernel
theorem tyX5_ok : ∀ k, k < 13 → parseFieldDescriptor (TX5 k).2.2.1 = some (tyX5 k) := by decide +kernel
abbrev cX5_init : ByteArray := prog_7_method_1_code
def yX5_init : MethodName := ⟨RX5, "<init>", "()V"⟩
abbrev cX5_start : ByteArray := prog_7_method_2_code
def yX5_start : MethodName := ⟨RX5, "start", "(LWholePacks$Packs;)V"⟩
abbrev cX5_addRow : ByteArray := prog_7_method_3_code
def yX5_addRow : MethodName := ⟨RX5, "addRow", "(IJ)I"⟩
abbrev cX5_addLeast : ByteArray := prog_7_method_4_code
def yX5_addLeast : MethodName := ⟨RX5, "addLeast", "(IJ)V"⟩
abbrev cX5_addMost : ByteArray := prog_7_method_5_code
def yX5_addMost : MethodName := ⟨RX5, "addMost", "(IJ)V"⟩
abbrev cX5_addCut : ByteArray := prog_7_method_6_code
def yX5_addCut : MethodName := ⟨RX5, "addCut", "(II)V"⟩
abbrev cX5_restOf : ByteArray := prog_7_method_7_code
def yX5_restOf : MethodName := ⟨RX5, "restOf", "(J)J"⟩
abbrev cX5_wholeOf : ByteArray := prog_7_method_8_code
def yX5_wholeOf : MethodName := ⟨RX5, "wholeOf", "(J)J"⟩
abbrev cX5_repair : ByteArray := prog_7_method_9_code
def yX5_repair : MethodName := ⟨RX5, "repair", "()I"⟩
abbrev cX5_lowestRow : ByteArray := prog_7_method_10_code
def yX5_lowestRow : MethodName := ⟨RX5, "lowestRow", "()I"⟩
abbrev cX5_nearestColumn : ByteArray := prog_7_method_11_code
def yX5_nearestColumn : MethodName := ⟨RX5, "nearestColumn", "(I)I"⟩
abbrev cX5_isNearer : ByteArray := prog_7_method_12_code
def yX5_isNearer : MethodName := ⟨RX5, "isNearer", "(III)Z"⟩
abbrev cX5_pivot : ByteArray := prog_7_method_13_code
def yX5_pivot : MethodName := ⟨RX5, "pivot", "(II)Z"⟩
abbrev cX5_freshenRow : ByteArray := prog_7_method_14_code
def yX5_freshenRow : MethodName := ⟨RX5, "freshenRow", "(III)Z"⟩
abbrev cX5_mixed : ByteArray := prog_7_method_15_code
def yX5_mixed : MethodName := ⟨RX5, "mixed", "(JJJII)J"⟩
abbrev cX5_rowOf : ByteArray := prog_7_method_16_code
def yX5_rowOf : MethodName := ⟨RX5, "rowOf", "(I)I"⟩
abbrev cX5_rightOf : ByteArray := prog_7_method_17_code
def yX5_rightOf : MethodName := ⟨RX5, "rightOf", "(I)J"⟩
abbrev cX5_floorOf : ByteArray := prog_7_method_18_code
def yX5_floorOf : MethodName := ⟨RX5, "floorOf", "(I)J"⟩
abbrev cX5_riseOf : ByteArray := prog_7_method_19_code
def yX5_riseOf : MethodName := ⟨RX5, "riseOf", "(I)J"⟩
abbrev cX5_partedRow : ByteArray := prog_7_method_20_code
def yX5_partedRow : MethodName := ⟨RX5, "partedRow", "()I"⟩
abbrev cX5_partedPack : ByteArray := prog_7_method_21_code
def yX5_partedPack : MethodName := ⟨RX5, "partedPack", "()I"⟩
abbrev cX5_rowNumber : ByteArray := prog_7_method_22_code
def yX5_rowNumber : MethodName := ⟨RX5, "rowNumber", "(II)J"⟩
abbrev cX5_costNumber : ByteArray := prog_7_method_23_code
def yX5_costNumber : MethodName := ⟨RX5, "costNumber", "(I)J"⟩
def RX6 : String := "WholePacks$Tapes"
def TX6 : u_T := fun k => match k with
  | 0 => ("WholePacks$Tapes", "sorts", "[I", true)
  | 1 => ("WholePacks$Tapes", "lengths", "[I", true)
  | _ => ("WholePacks$Tapes", "cells", "[[J", true)
def tyX6 : Nat → FieldType := fun k => match k with
  | 0 => .array .int
  | 1 => .array .int
  | _ => .array (.array .long)
abbrev wsX60 : List Cond := u_ws RX6 TX6 3
theorem nmX6 : ∀ a, a < 3 → ∀ b, b < 3 → a ≠ b → (TX6 a).2.1 ≠ (TX6 b).2.1 := by decide +kernel
theorem tyX6_ok : ∀ k, k < 3 → parseFieldDescriptor (TX6 k).2.2.1 = some (tyX6 k) := by decide +kernel
abbrev cX6_init : ByteArray := prog_8_method_1_code
def yX6_init : MethodName := ⟨RX6, "<init>", "()V"⟩
abbrev cX6_lay : ByteArray := prog_8_method_2_code
def yX6_lay : MethodName := ⟨RX6, "lay", "(III)V"⟩
abbrev cX6_trimmed : ByteArray := prog_8_method_3_code
def yX6_trimmed : MethodName := ⟨RX6, "trimmed", "(IJ)J"⟩
abbrev cX6_holds : ByteArray := prog_8_method_4_code
def yX6_holds : MethodName := ⟨RX6, "holds", "(III)Z"⟩
def RX7 : String := "WholePacks$Text"
def TX7 : u_T := fun k => match k with
  | 0 => ("WholePacks$Text", "length", "I", false)
  | 1 => ("WholePacks$Text", "clauses", "I", false)
  | 2 => ("WholePacks$Text", "signs", "[B", true)
  | 3 => ("WholePacks$Text", "place", "I", false)
  | 4 => ("WholePacks$Text", "letters", "I", false)
  | 5 => ("WholePacks$Text", "sorts", "[I", true)
  | 6 => ("WholePacks$Text", "bounds", "[I", true)
  | _ => ("WholePacks$Text", "factors", "[I", true)
def tyX7 : Nat → FieldType := fun k => match k with
  | 0 => .int
  | 1 => .int
  | 2 => .array .byte
  | 3 => .int
  | 4 => .int
  | 5 => .array .int
  | 6 => .array .int
  | _ => .array .int
abbrev wsX70 : List Cond := u_ws RX7 TX7 8
theorem nmX7 : ∀ a, a < 8 → ∀ b, b < 8 → a ≠ b → (TX7 a).2.1 ≠ (TX7 b).2.1 := by decide +kernel
theorem tyX7_ok : ∀ k, k < 8 → parseFieldDescriptor (TX7 k).2.2.1 = some (tyX7 k) := by decide +kernel
abbrev cX7_init : ByteArray := prog_9_method_1_code
def yX7_init : MethodName := ⟨RX7, "<init>", "()V"⟩
abbrev cX7_findFault : ByteArray := prog_9_method_2_code
def yX7_findFault : MethodName := ⟨RX7, "findFault", "(I)I"⟩
abbrev cX7_addRulesTo : ByteArray := prog_9_method_3_code
def yX7_addRulesTo : MethodName := ⟨RX7, "addRulesTo", "(LWholePacks$Packs;)V"⟩
abbrev cX7_here : ByteArray := prog_9_method_4_code
def yX7_here : MethodName := ⟨RX7, "here", "()I"⟩
abbrev cX7_skip : ByteArray := prog_9_method_5_code
def yX7_skip : MethodName := ⟨RX7, "skip", "(C)Z"⟩
abbrev cX7_atDigit : ByteArray := prog_9_method_6_code
def yX7_atDigit : MethodName := ⟨RX7, "atDigit", "()Z"⟩
abbrev cX7_readClause : ByteArray := prog_9_method_7_code
def yX7_readClause : MethodName := ⟨RX7, "readClause", "()Z"⟩
abbrev cX7_readTerm : ByteArray := prog_9_method_8_code
def yX7_readTerm : MethodName := ⟨RX7, "readTerm", "(Z)Z"⟩
abbrev cX7_readBound : ByteArray := prog_9_method_9_code
def yX7_readBound : MethodName := ⟨RX7, "readBound", "(Z)Z"⟩
def RX8 : String := "WholePacks$Tree"
def TX8 : u_T := fun k => match k with
  | 0 => ("WholePacks$Tree", "nodes", "I", false)
  | 1 => ("WholePacks$Tree", "pivots", "I", false)
  | 2 => ("WholePacks$Tree", "depths", "[I", true)
  | 3 => ("WholePacks$Tree", "floors", "[J", true)
  | 4 => ("WholePacks$Tree", "table", "LWholePacks$Table;", true)
  | 5 => ("WholePacks$Tree", "leasts", "[J", true)
  | 6 => ("WholePacks$Tree", "mosts", "[J", true)
  | 7 => ("WholePacks$Tree", "bases", "[J", true)
  | 8 => ("WholePacks$Tree", "divisors", "[J", true)
  | 9 => ("WholePacks$Tree", "parted", "[I", true)
  | _ => ("WholePacks$Tree", "waits", "[Z", true)
def tyX8 : Nat → FieldType := fun k => match k with
  | 0 => .int
  | 1 => .int
  | 2 => .array .int
  | 3 => .array .long
  | 4 => .object "WholePacks$Table"
  | 5 => .array .long
  | 6 => .array .long
  | 7 => .array .long
  | 8 => .array .long
  | 9 => .array .int
  | _ => .array .boolean
abbrev wsX80 : List Cond := u_ws RX8 TX8 11
theorem nmX8 : ∀ a, a < 11 → ∀ b, b < 11 → a ≠ b → (TX8 a).2.1 ≠ (TX8 b).2.1 := by decide +kernel
theorem tyX8_ok : ∀ k, k < 11 → parseFieldDescriptor (TX8 k).2.2.1 = some (tyX8 k) := by decide +kernel
abbrev cX8_init : ByteArray := prog_10_method_1_code
def yX8_init : MethodName := ⟨RX8, "<init>", "()V"⟩
abbrev cX8_grow : ByteArray := prog_10_method_2_code
def yX8_grow : MethodName := ⟨RX8, "grow", "(LWholePacks$Packs;)I"⟩
abbrev cX8_split : ByteArray := prog_10_method_3_code
def yX8_split : MethodName := ⟨RX8, "split", "(LWholePacks$Packs;I)Z"⟩
abbrev cX8_inherit : ByteArray := prog_10_method_4_code
def yX8_inherit : MethodName := ⟨RX8, "inherit", "(I)V"⟩
abbrev cX8_relax : ByteArray := prog_10_method_5_code
def yX8_relax : MethodName := ⟨RX8, "relax", "(LWholePacks$Packs;)Z"⟩
abbrev cX8_mostHopeful : ByteArray := prog_10_method_6_code
def yX8_mostHopeful : MethodName := ⟨RX8, "mostHopeful", "()I"⟩
abbrev cX8_valueOf : ByteArray := prog_10_method_7_code
def yX8_valueOf : MethodName := ⟨RX8, "valueOf", "(I)J"⟩
def RX9 : String := "WholePacks$Walk"
def TX9 : u_T := fun k => match k with
  | 0 => ("WholePacks$Walk", "mixes", "I", false)
  | 1 => ("WholePacks$Walk", "code", "I", false)
  | 2 => ("WholePacks$Walk", "cost", "I", false)
  | 3 => ("WholePacks$Walk", "box", "I", false)
  | 4 => ("WholePacks$Walk", "packs", "LWholePacks$Packs;", true)
  | 5 => ("WholePacks$Walk", "digits", "[I", true)
  | _ => ("WholePacks$Walk", "lefts", "[I", true)
def tyX9 : Nat → FieldType := fun k => match k with
  | 0 => .int
  | 1 => .int
  | 2 => .int
  | 3 => .int
  | 4 => .object "WholePacks$Packs"
  | 5 => .array .int
  | _ => .array .int
abbrev wsX90 : List Cond := u_ws RX9 TX9 7
theorem nmX9 : ∀ a, a < 7 → ∀ b, b < 7 → a ≠ b → (TX9 a).2.1 ≠ (TX9 b).2.1 := by decide +kernel
theorem tyX9_ok : ∀ k, k < 7 → parseFieldDescriptor (TX9 k).2.2.1 = some (tyX9 k) := by decide +kernel
abbrev cX9_init : ByteArray := prog_11_method_1_code
def yX9_init : MethodName := ⟨RX9, "<init>", "()V"⟩
abbrev cX9_start : ByteArray := prog_11_method_2_code
def yX9_start : MethodName := ⟨RX9, "start", "(LWholePacks$Packs;I)V"⟩
abbrev cX9_step : ByteArray := prog_11_method_3_code
def yX9_step : MethodName := ⟨RX9, "step", "()V"⟩
abbrev cX9_move : ByteArray := prog_11_method_4_code
def yX9_move : MethodName := ⟨RX9, "move", "(II)V"⟩
abbrev cX9_obeys : ByteArray := prog_11_method_5_code
def yX9_obeys : MethodName := ⟨RX9, "obeys", "()Z"⟩
abbrev cX9_broken : ByteArray := prog_11_method_6_code
def yX9_broken : MethodName := ⟨RX9, "broken", "()I"⟩
abbrev cX9_isBeyond : ByteArray := prog_11_method_7_code
def yX9_isBeyond : MethodName := ⟨RX9, "isBeyond", "([J)Z"⟩
def RX10 : String := "WholePacks"
def TX10 : u_T := fun k => match k with
  | 0 => ("WholePacks", "now", "LWholePacks$State;", true)
  | 1 => ("WholePacks", "kept", "LWholePacks$State;", true)
  | 2 => ("WholePacks", "thought", "LWholePacks$Packs;", true)
  | 3 => ("WholePacks", "solved", "LWholePacks$Solution;", true)
  | 4 => ("WholePacks", "trial", "LWholePacks$Solution;", true)
  | 5 => ("WholePacks", "tree", "LWholePacks$Tree;", true)
  | 6 => ("WholePacks", "walk", "LWholePacks$Walk;", true)
  | 7 => ("WholePacks", "cheapest", "LWholePacks$Shelf;", true)
  | 8 => ("WholePacks", "text", "LWholePacks$Text;", true)
  | 9 => ("WholePacks", "tapes", "LWholePacks$Tapes;", true)
  | 10 => ("WholePacks", "asked", "[J", true)
  | 11 => ("WholePacks", "tabled", "Z", false)
  | _ => ("WholePacks", "imaged", "Z", false)
def tyX10 : Nat → FieldType := fun k => match k with
  | 0 => .object "WholePacks$State"
  | 1 => .object "WholePacks$State"
  | 2 => .object "WholePacks$Packs"
  | 3 => .object "WholePacks$Solution"
  | 4 => .object "WholePacks$Solution"
  | 5 => .object "WholePacks$Tree"
  | 6 => .object "WholePacks$Walk"
  | 7 => .object "WholePacks$Shelf"
  | 8 => .object "WholePacks$Text"
  | 9 => .object "WholePacks$Tapes"
  | 10 => .array .long
  | 11 => .boolean
  | _ => .boolean
abbrev wsX100 : List Cond := u_ws RX10 TX10 13
theorem nmX10 : ∀ a, a < 13 → ∀ b, b < 13 → a ≠ b → (TX10 a).2.1 ≠ (TX10 b).2.1 := by decide +kernel
theorem tyX10_ok : ∀ k, k < 13 → parseFieldDescriptor (TX10 k).2.2.1 = some (tyX10 k) := by decide +kernel
abbrev cX10_init : ByteArray := prog_1_method_1_code
def yX10_init : MethodName := ⟨RX10, "<init>", "()V"⟩
abbrev cX10_size : ByteArray := prog_1_method_2_code
def yX10_size : MethodName := ⟨RX10, "size", "(I)I"⟩
abbrev cX10_cost : ByteArray := prog_1_method_3_code
def yX10_cost : MethodName := ⟨RX10, "cost", "(II)I"⟩
abbrev cX10_rule : ByteArray := prog_1_method_4_code
def yX10_rule : MethodName := ⟨RX10, "rule", "(II)I"⟩
abbrev cX10_factor : ByteArray := prog_1_method_5_code
def yX10_factor : MethodName := ⟨RX10, "factor", "(III)I"⟩
abbrev cX10_bound : ByteArray := prog_1_method_6_code
def yX10_bound : MethodName := ⟨RX10, "bound", "(II)I"⟩
abbrev cX10_less : ByteArray := prog_1_method_7_code
def yX10_less : MethodName := ⟨RX10, "less", "()I"⟩
abbrev cX10_feed : ByteArray := prog_1_method_8_code
def yX10_feed : MethodName := ⟨RX10, "feed", "(I)I"⟩
abbrev cX10_read : ByteArray := prog_1_method_9_code
def yX10_read : MethodName := ⟨RX10, "read", "()I"⟩
abbrev cX10_ruleOf : ByteArray := prog_1_method_10_code
def yX10_ruleOf : MethodName := ⟨RX10, "ruleOf", "(II)I"⟩
abbrev cX10_solve : ByteArray := prog_1_method_11_code
def yX10_solve : MethodName := ⟨RX10, "solve", "(I)I"⟩
abbrev cX10_entry : ByteArray := prog_1_method_12_code
def yX10_entry : MethodName := ⟨RX10, "entry", "(II)J"⟩
abbrev cX10_amount : ByteArray := prog_1_method_13_code
def yX10_amount : MethodName := ⟨RX10, "amount", "(II)J"⟩
abbrev cX10_value : ByteArray := prog_1_method_14_code
def yX10_value : MethodName := ⟨RX10, "value", "(I)J"⟩
abbrev cX10_price : ByteArray := prog_1_method_15_code
def yX10_price : MethodName := ⟨RX10, "price", "(II)J"⟩
abbrev cX10_cut : ByteArray := prog_1_method_16_code
def yX10_cut : MethodName := ⟨RX10, "cut", "(II)J"⟩
abbrev cX10_weight : ByteArray := prog_1_method_17_code
def yX10_weight : MethodName := ⟨RX10, "weight", "(III)J"⟩
abbrev cX10_proved : ByteArray := prog_1_method_18_code
def yX10_proved : MethodName := ⟨RX10, "proved", "(I)I"⟩
abbrev cX10_hand : ByteArray := prog_1_method_19_code
def yX10_hand : MethodName := ⟨RX10, "hand", "(II)I"⟩
abbrev cX10_by : ByteArray := prog_1_method_20_code
def yX10_by : MethodName := ⟨RX10, "by", "(I)I"⟩
abbrev cX10_points : ByteArray := prog_1_method_21_code
def yX10_points : MethodName := ⟨RX10, "points", "(I)J"⟩
abbrev cX10_bites : ByteArray := prog_1_method_22_code
def yX10_bites : MethodName := ⟨RX10, "bites", "()I"⟩
abbrev cX10_box : ByteArray := prog_1_method_23_code
def yX10_box : MethodName := ⟨RX10, "box", "(I)I"⟩
abbrev cX10_nth : ByteArray := prog_1_method_24_code
def yX10_nth : MethodName := ⟨RX10, "nth", "(I)I"⟩
abbrev cX10_many : ByteArray := prog_1_method_25_code
def yX10_many : MethodName := ⟨RX10, "many", "(I)I"⟩
abbrev cX10_breaks : ByteArray := prog_1_method_26_code
def yX10_breaks : MethodName := ⟨RX10, "breaks", "(I)I"⟩
abbrev cX10_lost : ByteArray := prog_1_method_27_code
def yX10_lost : MethodName := ⟨RX10, "lost", "(I)I"⟩
abbrev cX10_branch : ByteArray := prog_1_method_28_code
def yX10_branch : MethodName := ⟨RX10, "branch", "(I)I"⟩
abbrev cX10_would : ByteArray := prog_1_method_29_code
def yX10_would : MethodName := ⟨RX10, "would", "(II)I"⟩
abbrev cX10_see : ByteArray := prog_1_method_30_code
def yX10_see : MethodName := ⟨RX10, "see", "(II)I"⟩
abbrev cX10_fits : ByteArray := prog_1_method_31_code
def yX10_fits : MethodName := ⟨RX10, "fits", "(II)I"⟩
abbrev cX10_odds : ByteArray := prog_1_method_32_code
def yX10_odds : MethodName := ⟨RX10, "odds", "(IIIII)J"⟩
abbrev cX10_mean : ByteArray := prog_1_method_33_code
def yX10_mean : MethodName := ⟨RX10, "mean", "(I)J"⟩
abbrev cX10_drawn : ByteArray := prog_1_method_34_code
def yX10_drawn : MethodName := ⟨RX10, "drawn", "(II)I"⟩
abbrev cX10_offer : ByteArray := prog_1_method_35_code
def yX10_offer : MethodName := ⟨RX10, "offer", "(II)I"⟩
abbrev cX10_offered : ByteArray := prog_1_method_36_code
def yX10_offered : MethodName := ⟨RX10, "offered", "(II)I"⟩
abbrev cX10_upTo : ByteArray := prog_1_method_37_code
def yX10_upTo : MethodName := ⟨RX10, "upTo", "(I)I"⟩
abbrev cX10_dearest : ByteArray := prog_1_method_38_code
def yX10_dearest : MethodName := ⟨RX10, "dearest", "()I"⟩
abbrev cX10_plan : ByteArray := prog_1_method_39_code
def yX10_plan : MethodName := ⟨RX10, "plan", "(III)I"⟩
abbrev cX10_ends : ByteArray := prog_1_method_40_code
def yX10_ends : MethodName := ⟨RX10, "ends", "()I"⟩
abbrev cX10_judge : ByteArray := prog_1_method_41_code
def yX10_judge : MethodName := ⟨RX10, "judge", "(II)I"⟩
abbrev cX10_image : ByteArray := prog_1_method_42_code
def yX10_image : MethodName := ⟨RX10, "image", "()I"⟩
abbrev cX10_undo : ByteArray := prog_1_method_43_code
def yX10_undo : MethodName := ⟨RX10, "undo", "()I"⟩
abbrev cX10_count : ByteArray := prog_1_method_44_code
def yX10_count : MethodName := ⟨RX10, "count", "(I)I"⟩
abbrev cX10_tape : ByteArray := prog_1_method_45_code
def yX10_tape : MethodName := ⟨RX10, "tape", "(III)I"⟩
abbrev cX10_item : ByteArray := prog_1_method_46_code
def yX10_item : MethodName := ⟨RX10, "item", "(IIJ)I"⟩
abbrev cX10_peek : ByteArray := prog_1_method_47_code
def yX10_peek : MethodName := ⟨RX10, "peek", "(II)J"⟩
abbrev cX10_shift : ByteArray := prog_1_method_48_code
def yX10_shift : MethodName := ⟨RX10, "shift", "(IIIII)I"⟩
abbrev cX10_isPack : ByteArray := prog_1_method_49_code
def yX10_isPack : MethodName := ⟨RX10, "isPack", "(I)Z"⟩
abbrev cX10_isRule : ByteArray := prog_1_method_50_code
def yX10_isRule : MethodName := ⟨RX10, "isRule", "(I)Z"⟩
abbrev cX10_isCut : ByteArray := prog_1_method_51_code
def yX10_isCut : MethodName := ⟨RX10, "isCut", "(I)Z"⟩
abbrev cX10_isCode : ByteArray := prog_1_method_52_code
def yX10_isCode : MethodName := ⟨RX10, "isCode", "(I)Z"⟩
abbrev cX10_isBound : ByteArray := prog_1_method_53_code
def yX10_isBound : MethodName := ⟨RX10, "isBound", "(I)Z"⟩
abbrev cX10_isFactor : ByteArray := prog_1_method_54_code
def yX10_isFactor : MethodName := ⟨RX10, "isFactor", "(I)Z"⟩
abbrev cX10_isPart : ByteArray := prog_1_method_55_code
def yX10_isPart : MethodName := ⟨RX10, "isPart", "(I)Z"⟩
abbrev cX10_isTape : ByteArray := prog_1_method_56_code
def yX10_isTape : MethodName := ⟨RX10, "isTape", "(I)Z"⟩
abbrev cX10_isPlanned : ByteArray := prog_1_method_57_code
def yX10_isPlanned : MethodName := ⟨RX10, "isPlanned", "(II)Z"⟩
abbrev cX10_isNear : ByteArray := prog_1_method_58_code
def yX10_isNear : MethodName := ⟨RX10, "isNear", "(J)Z"⟩
abbrev cX10_isSeenSo : ByteArray := prog_1_method_59_code
def yX10_isSeenSo : MethodName := ⟨RX10, "isSeenSo", "()Z"⟩
abbrev cX10_lowest : ByteArray := prog_1_method_60_code
def yX10_lowest : MethodName := ⟨RX10, "lowest", "(JJI)J"⟩
def RX11 : String := "WholePacksModel$Table"
def TX11 : u_T := fun k => match k with
  | 0 => ("WholePacksModel$Table", "entry", "[J", true)
  | 1 => ("WholePacksModel$Table", "right", "[J", true)
  | 2 => ("WholePacksModel$Table", "rise", "[J", true)
  | 3 => ("WholePacksModel$Table", "fresh", "[J", true)
  | 4 => ("WholePacksModel$Table", "freshRight", "[J", true)
  | 5 => ("WholePacksModel$Table", "freshRise", "[J", true)
  | 6 => ("WholePacksModel$Table", "owner", "[I", true)
  | 7 => ("WholePacksModel$Table", "owns", "[I", true)
  | 8 => ("WholePacksModel$Table", "point", "[J", true)
  | 9 => ("WholePacksModel$Table", "limit", "[J", true)
  | 10 => ("WholePacksModel$Table", "weight", "[J", true)
  | 11 => ("WholePacksModel$Table", "below", "[J", true)
  | 12 => ("WholePacksModel$Table", "base", "J", false)
  | 13 => ("WholePacksModel$Table", "divisor", "J", false)
  | 14 => ("WholePacksModel$Table", "columns", "I", false)
  | 15 => ("WholePacksModel$Table", "rows", "I", false)
  | 16 => ("WholePacksModel$Table", "cuts", "I", false)
  | 17 => ("WholePacksModel$Table", "pivots", "I", false)
  | 18 => ("WholePacksModel$Table", "isThere", "Z", false)
  | _ => ("WholePacksModel$Table", "isWhole", "Z", false)
def tyX11 : Nat → FieldType := fun k => match k with
  | 0 => .array .long
  | 1 => .array .long
  | 2 => .array .long
  | 3 => .array .long
  | 4 => .array .long
  | 5 => .array .long
  | 6 => .array .int
  | 7 => .array .int
  | 8 => .array .long
  | 9 => .array .long
  | 10 => .array .long
  | 11 => .array .long
  | 12 => .long
  | 13 => .long
  | 14 => .int
  | 15 => .int
  | 16 => .int
  | 17 => .int
  | 18 => .boolean
  | _ => .boolean
abbrev wsX110 : List Cond := u_ws RX11 TX11 20
theorem nmX11 : ∀ a, a < 20 → ∀ b, b < 20 → a ≠ b → (TX11 a).2.1 ≠ (TX11 b).2.1 := by decide +kernel
theorem tyX11_ok : ∀ k, k < 20 → parseFieldDescriptor (TX11 k).2.2.1 = some (tyX11 k) := by decide +kernel
abbrev cX11_init : ByteArray := prog_14_method_1_code
def yX11_init : MethodName := ⟨RX11, "<init>", "()V"⟩
def RX12 : String := "WholePacksModel"
def TX12 : u_T := fun k => match k with
  | 0 => ("WholePacksModel", "g", "[I", true)
  | 1 => ("WholePacksModel", "kept", "[I", true)
  | 2 => ("WholePacksModel", "lent", "[I", true)
  | 3 => ("WholePacksModel", "isKept", "Z", false)
  | 4 => ("WholePacksModel", "text", "[I", true)
  | 5 => ("WholePacksModel", "clause", "[I", true)
  | 6 => ("WholePacksModel", "fed", "I", false)
  | 7 => ("WholePacksModel", "at", "I", false)
  | 8 => ("WholePacksModel", "fault", "I", false)
  | 9 => ("WholePacksModel", "stays", "LWholePacksModel$Table;", true)
  | 10 => ("WholePacksModel", "thought", "LWholePacksModel$Table;", true)
  | 11 => ("WholePacksModel", "mix", "[I", true)
  | 12 => ("WholePacksModel", "bestCode", "[I", true)
  | 13 => ("WholePacksModel", "bestCost", "[I", true)
  | 14 => ("WholePacksModel", "leastOf", "[I", true)
  | 15 => ("WholePacksModel", "mostOf", "[I", true)
  | 16 => ("WholePacksModel", "depth", "[I", true)
  | 17 => ("WholePacksModel", "amounts", "[J", true)
  | 18 => ("WholePacksModel", "bases", "[J", true)
  | 19 => ("WholePacksModel", "divisors", "[J", true)
  | 20 => ("WholePacksModel", "waits", "[Z", true)
  | 21 => ("WholePacksModel", "nodes", "I", false)
  | 22 => ("WholePacksModel", "allPivots", "I", false)
  | 23 => ("WholePacksModel", "answer", "I", false)
  | 24 => ("WholePacksModel", "seed", "I", false)
  | 25 => ("WholePacksModel", "sort", "[I", true)
  | 26 => ("WholePacksModel", "count", "[I", true)
  | 27 => ("WholePacksModel", "item", "[J", true)
  | _ => ("WholePacksModel", "lifted", "[J", true)
def tyX12 : Nat → FieldType := fun k => match k with
  | 0 => .array .int
  | 1 => .array .int
  | 2 => .array .int
  | 3 => .boolean
  | 4 => .array .int
  | 5 => .array .int
  | 6 => .int
  | 7 => .int
  | 8 => .int
  | 9 => .object "WholePacksModel$Table"
  | 10 => .object "WholePacksModel$Table"
  | 11 => .array .int
  | 12 => .array .int
  | 13 => .array .int
  | 14 => .array .int
  | 15 => .array .int
  | 16 => .array .int
  | 17 => .array .long
  | 18 => .array .long
  | 19 => .array .long
  | 20 => .array .boolean
  | 21 => .int
  | 22 => .int
  | 23 => .int
  | 24 => .int
  | 25 => .array .int
  | 26 => .array .int
  | 27 => .array .long
  | _ => .array .long
abbrev wsX120 : List Cond := u_ws RX12 TX12 29
theorem nmX12 : ∀ a, a < 29 → ∀ b, b < 29 → a ≠ b → (TX12 a).2.1 ≠ (TX12 b).2.1 := by decide +kernel
theorem tyX12_ok : ∀ k, k < 29 → parseFieldDescriptor (TX12 k).2.2.1 = some (tyX12 k) := by decide +kernel
abbrev cX12_init : ByteArray := prog_13_method_1_code
def yX12_init : MethodName := ⟨RX12, "<init>", "()V"⟩
abbrev cX12_begins : ByteArray := prog_13_method_2_code
def yX12_begins : MethodName := ⟨RX12, "begins", "(I)V"⟩
abbrev cX12_isIn : ByteArray := prog_13_method_3_code
def yX12_isIn : MethodName := ⟨RX12, "isIn", "(JJJ)Z"⟩
abbrev cX12_n : ByteArray := prog_13_method_4_code
def yX12_n : MethodName := ⟨RX12, "n", "()I"⟩
abbrev cX12_isPack : ByteArray := prog_13_method_5_code
def yX12_isPack : MethodName := ⟨RX12, "isPack", "(I)Z"⟩
abbrev cX12_isRule : ByteArray := prog_13_method_6_code
def yX12_isRule : MethodName := ⟨RX12, "isRule", "(I)Z"⟩
abbrev cX12_sortOf : ByteArray := prog_13_method_7_code
def yX12_sortOf : MethodName := ⟨RX12, "sortOf", "(I)I"⟩
abbrev cX12_boundOf : ByteArray := prog_13_method_8_code
def yX12_boundOf : MethodName := ⟨RX12, "boundOf", "(I)I"⟩
abbrev cX12_factorOf : ByteArray := prog_13_method_9_code
def yX12_factorOf : MethodName := ⟨RX12, "factorOf", "(II)I"⟩
abbrev cX12_pointOf : ByteArray := prog_13_method_10_code
def yX12_pointOf : MethodName := ⟨RX12, "pointOf", "(II)J"⟩
abbrev cX12_limitOf : ByteArray := prog_13_method_11_code
def yX12_limitOf : MethodName := ⟨RX12, "limitOf", "(I)J"⟩
abbrev cX12_size : ByteArray := prog_13_method_12_code
def yX12_size : MethodName := ⟨RX12, "size", "(I)I"⟩
abbrev cX12_cost : ByteArray := prog_13_method_13_code
def yX12_cost : MethodName := ⟨RX12, "cost", "(II)I"⟩
abbrev cX12_addsRule : ByteArray := prog_13_method_14_code
def yX12_addsRule : MethodName := ⟨RX12, "addsRule", "(II)V"⟩
abbrev cX12_rule : ByteArray := prog_13_method_15_code
def yX12_rule : MethodName := ⟨RX12, "rule", "(II)I"⟩
abbrev cX12_factor : ByteArray := prog_13_method_16_code
def yX12_factor : MethodName := ⟨RX12, "factor", "(III)I"⟩
abbrev cX12_bound : ByteArray := prog_13_method_17_code
def yX12_bound : MethodName := ⟨RX12, "bound", "(II)I"⟩
abbrev cX12_less : ByteArray := prog_13_method_18_code
def yX12_less : MethodName := ⟨RX12, "less", "()I"⟩
abbrev cX12_ruleOf : ByteArray := prog_13_method_19_code
def yX12_ruleOf : MethodName := ⟨RX12, "ruleOf", "(II)I"⟩
abbrev cX12_feed : ByteArray := prog_13_method_20_code
def yX12_feed : MethodName := ⟨RX12, "feed", "(I)I"⟩
abbrev cX12_here : ByteArray := prog_13_method_21_code
def yX12_here : MethodName := ⟨RX12, "here", "()I"⟩
abbrev cX12_takes : ByteArray := prog_13_method_22_code
def yX12_takes : MethodName := ⟨RX12, "takes", "(I)Z"⟩
abbrev cX12_isDigit : ByteArray := prog_13_method_23_code
def yX12_isDigit : MethodName := ⟨RX12, "isDigit", "()Z"⟩
abbrev cX12_readsTerm : ByteArray := prog_13_method_24_code
def yX12_readsTerm : MethodName := ⟨RX12, "readsTerm", "(II)Z"⟩
abbrev cX12_readsSum : ByteArray := prog_13_method_25_code
def yX12_readsSum : MethodName := ⟨RX12, "readsSum", "(I)Z"⟩
abbrev cX12_readsBound : ByteArray := prog_13_method_26_code
def yX12_readsBound : MethodName := ⟨RX12, "readsBound", "(I)Z"⟩
abbrev cX12_readsClause : ByteArray := prog_13_method_27_code
def yX12_readsClause : MethodName := ⟨RX12, "readsClause", "(I)Z"⟩
abbrev cX12_readsAll : ByteArray := prog_13_method_28_code
def yX12_readsAll : MethodName := ⟨RX12, "readsAll", "()I"⟩
abbrev cX12_read : ByteArray := prog_13_method_29_code
def yX12_read : MethodName := ⟨RX12, "read", "()I"⟩
abbrev cX12_addsRow : ByteArray := prog_13_method_30_code
def yX12_addsRow : MethodName := ⟨RX12, "addsRow", "(LWholePacksModel$Table;IJ)V"⟩
abbrev cX12_first : ByteArray := prog_13_method_31_code
def yX12_first : MethodName := ⟨RX12, "first", "(LWholePacksModel$Table;)V"⟩
abbrev cX12_isNear : ByteArray := prog_13_method_32_code
def yX12_isNear : MethodName := ⟨RX12, "isNear", "(J)Z"⟩
abbrev cX12_tries : ByteArray := prog_13_method_33_code
def yX12_tries : MethodName := ⟨RX12, "tries", "(LWholePacksModel$Table;II)Z"⟩
abbrev cX12_pivots : ByteArray := prog_13_method_34_code
def yX12_pivots : MethodName := ⟨RX12, "pivots", "(LWholePacksModel$Table;II)Z"⟩
abbrev cX12_columnFor : ByteArray := prog_13_method_35_code
def yX12_columnFor : MethodName := ⟨RX12, "columnFor", "(LWholePacksModel$Table;I)I"⟩
abbrev cX12_repairs : ByteArray := prog_13_method_36_code
def yX12_repairs : MethodName := ⟨RX12, "repairs", "(LWholePacksModel$Table;)I"⟩
abbrev cX12_rowOf : ByteArray := prog_13_method_37_code
def yX12_rowOf : MethodName := ⟨RX12, "rowOf", "(LWholePacksModel$Table;I)I"⟩
abbrev cX12_partly : ByteArray := prog_13_method_38_code
def yX12_partly : MethodName := ⟨RX12, "partly", "(LWholePacksModel$Table;)I"⟩
abbrev cX12_leftPoint : ByteArray := prog_13_method_39_code
def yX12_leftPoint : MethodName := ⟨RX12, "leftPoint", "(LWholePacksModel$Table;II)J"⟩
abbrev cX12_leftLimit : ByteArray := prog_13_method_40_code
def yX12_leftLimit : MethodName := ⟨RX12, "leftLimit", "(LWholePacksModel$Table;I)J"⟩
abbrev cX12_tells : ByteArray := prog_13_method_41_code
def yX12_tells : MethodName := ⟨RX12, "tells", "(LWholePacksModel$Table;I)Z"⟩
abbrev cX12_cuts : ByteArray := prog_13_method_42_code
def yX12_cuts : MethodName := ⟨RX12, "cuts", "(LWholePacksModel$Table;I)Z"⟩
abbrev cX12_slot : ByteArray := prog_13_method_43_code
def yX12_slot : MethodName := ⟨RX12, "slot", "(I)I"⟩
abbrev cX12_solves : ByteArray := prog_13_method_44_code
def yX12_solves : MethodName := ⟨RX12, "solves", "(LWholePacksModel$Table;I)I"⟩
abbrev cX12_worth : ByteArray := prog_13_method_45_code
def yX12_worth : MethodName := ⟨RX12, "worth", "()I"⟩
abbrev cX12_solve : ByteArray := prog_13_method_46_code
def yX12_solve : MethodName := ⟨RX12, "solve", "(I)I"⟩
abbrev cX12_entry : ByteArray := prog_13_method_47_code
def yX12_entry : MethodName := ⟨RX12, "entry", "(II)J"⟩
abbrev cX12_lowest : ByteArray := prog_13_method_48_code
def yX12_lowest : MethodName := ⟨RX12, "lowest", "(JJI)J"⟩
abbrev cX12_isPart : ByteArray := prog_13_method_49_code
def yX12_isPart : MethodName := ⟨RX12, "isPart", "(I)Z"⟩
abbrev cX12_amountIn : ByteArray := prog_13_method_50_code
def yX12_amountIn : MethodName := ⟨RX12, "amountIn", "(LWholePacksModel$Table;I)J"⟩
abbrev cX12_amount : ByteArray := prog_13_method_51_code
def yX12_amount : MethodName := ⟨RX12, "amount", "(II)J"⟩
abbrev cX12_value : ByteArray := prog_13_method_52_code
def yX12_value : MethodName := ⟨RX12, "value", "(I)J"⟩
abbrev cX12_price : ByteArray := prog_13_method_53_code
def yX12_price : MethodName := ⟨RX12, "price", "(II)J"⟩
abbrev cX12_isCut : ByteArray := prog_13_method_54_code
def yX12_isCut : MethodName := ⟨RX12, "isCut", "(I)Z"⟩
abbrev cX12_cut : ByteArray := prog_13_method_55_code
def yX12_cut : MethodName := ⟨RX12, "cut", "(II)J"⟩
abbrev cX12_weight : ByteArray := prog_13_method_56_code
def yX12_weight : MethodName := ⟨RX12, "weight", "(III)J"⟩
abbrev cX12_weighed : ByteArray := prog_13_method_57_code
def yX12_weighed : MethodName := ⟨RX12, "weighed", "(II)J"⟩
abbrev cX12_proved : ByteArray := prog_13_method_58_code
def yX12_proved : MethodName := ⟨RX12, "proved", "(I)I"⟩
abbrev cX12_hand : ByteArray := prog_13_method_59_code
def yX12_hand : MethodName := ⟨RX12, "hand", "(II)I"⟩
abbrev cX12_by : ByteArray := prog_13_method_60_code
def yX12_by : MethodName := ⟨RX12, "by", "(I)I"⟩
abbrev cX12_points : ByteArray := prog_13_method_61_code
def yX12_points : MethodName := ⟨RX12, "points", "(I)J"⟩
abbrev cX12_bites : ByteArray := prog_13_method_62_code
def yX12_bites : MethodName := ⟨RX12, "bites", "()I"⟩
abbrev cX12_codes : ByteArray := prog_13_method_63_code
def yX12_codes : MethodName := ⟨RX12, "codes", "()I"⟩
abbrev cX12_isCode : ByteArray := prog_13_method_64_code
def yX12_isCode : MethodName := ⟨RX12, "isCode", "(I)Z"⟩
abbrev cX12_mixes : ByteArray := prog_13_method_65_code
def yX12_mixes : MethodName := ⟨RX12, "mixes", "(I)V"⟩
abbrev cX12_costOf : ByteArray := prog_13_method_66_code
def yX12_costOf : MethodName := ⟨RX12, "costOf", "(I)I"⟩
abbrev cX12_isBroken : ByteArray := prog_13_method_67_code
def yX12_isBroken : MethodName := ⟨RX12, "isBroken", "(I)Z"⟩
abbrev cX12_broken : ByteArray := prog_13_method_68_code
def yX12_broken : MethodName := ⟨RX12, "broken", "()I"⟩
abbrev cX12_nextCode : ByteArray := prog_13_method_69_code
def yX12_nextCode : MethodName := ⟨RX12, "nextCode", "(I)I"⟩
abbrev cX12_box : ByteArray := prog_13_method_70_code
def yX12_box : MethodName := ⟨RX12, "box", "(I)I"⟩
abbrev cX12_nth : ByteArray := prog_13_method_71_code
def yX12_nth : MethodName := ⟨RX12, "nth", "(I)I"⟩
abbrev cX12_many : ByteArray := prog_13_method_72_code
def yX12_many : MethodName := ⟨RX12, "many", "(I)I"⟩
abbrev cX12_breaks : ByteArray := prog_13_method_73_code
def yX12_breaks : MethodName := ⟨RX12, "breaks", "(I)I"⟩
abbrev cX12_isLost : ByteArray := prog_13_method_74_code
def yX12_isLost : MethodName := ⟨RX12, "isLost", "(I)Z"⟩
abbrev cX12_lost : ByteArray := prog_13_method_75_code
def yX12_lost : MethodName := ⟨RX12, "lost", "(I)I"⟩
abbrev cX12_comes : ByteArray := prog_13_method_76_code
def yX12_comes : MethodName := ⟨RX12, "comes", "(IIII)I"⟩
abbrev cX12_bounds : ByteArray := prog_13_method_77_code
def yX12_bounds : MethodName := ⟨RX12, "bounds", "(LWholePacksModel$Table;II)V"⟩
abbrev cX12_relaxes : ByteArray := prog_13_method_78_code
def yX12_relaxes : MethodName := ⟨RX12, "relaxes", "(I)I"⟩
abbrev cX12_hopeful : ByteArray := prog_13_method_79_code
def yX12_hopeful : MethodName := ⟨RX12, "hopeful", "()I"⟩
abbrev cX12_partlyOf : ByteArray := prog_13_method_80_code
def yX12_partlyOf : MethodName := ⟨RX12, "partlyOf", "(I)I"⟩
abbrev cX12_branches : ByteArray := prog_13_method_81_code
def yX12_branches : MethodName := ⟨RX12, "branches", "()I"⟩
abbrev cX12_branch : ByteArray := prog_13_method_82_code
def yX12_branch : MethodName := ⟨RX12, "branch", "(I)I"⟩
abbrev cX12_worthWith : ByteArray := prog_13_method_83_code
def yX12_worthWith : MethodName := ⟨RX12, "worthWith", "(II)I"⟩
abbrev cX12_would : ByteArray := prog_13_method_84_code
def yX12_would : MethodName := ⟨RX12, "would", "(II)I"⟩
abbrev cX12_see : ByteArray := prog_13_method_85_code
def yX12_see : MethodName := ⟨RX12, "see", "(II)I"⟩
abbrev cX12_isSeen : ByteArray := prog_13_method_86_code
def yX12_isSeen : MethodName := ⟨RX12, "isSeen", "()Z"⟩
abbrev cX12_fits : ByteArray := prog_13_method_87_code
def yX12_fits : MethodName := ⟨RX12, "fits", "(II)I"⟩
abbrev cX12_odds : ByteArray := prog_13_method_88_code
def yX12_odds : MethodName := ⟨RX12, "odds", "(IIIII)J"⟩
abbrev cX12_mean : ByteArray := prog_13_method_89_code
def yX12_mean : MethodName := ⟨RX12, "mean", "(I)J"⟩
abbrev cX12_lends : ByteArray := prog_13_method_90_code
def yX12_lends : MethodName := ⟨RX12, "lends", "()V"⟩
abbrev cX12_takesBack : ByteArray := prog_13_method_91_code
def yX12_takesBack : MethodName := ⟨RX12, "takesBack", "()V"⟩
abbrev cX12_draws : ByteArray := prog_13_method_92_code
def yX12_draws : MethodName := ⟨RX12, "draws", "(I)I"⟩
abbrev cX12_drawn : ByteArray := prog_13_method_93_code
def yX12_drawn : MethodName := ⟨RX12, "drawn", "(II)I"⟩
abbrev cX12_offerOf : ByteArray := prog_13_method_94_code
def yX12_offerOf : MethodName := ⟨RX12, "offerOf", "(I)I"⟩
abbrev cX12_offer : ByteArray := prog_13_method_95_code
def yX12_offer : MethodName := ⟨RX12, "offer", "(II)I"⟩
abbrev cX12_isAhead : ByteArray := prog_13_method_96_code
def yX12_isAhead : MethodName := ⟨RX12, "isAhead", "(II)Z"⟩
abbrev cX12_place : ByteArray := prog_13_method_97_code
def yX12_place : MethodName := ⟨RX12, "place", "(I)I"⟩
abbrev cX12_offered : ByteArray := prog_13_method_98_code
def yX12_offered : MethodName := ⟨RX12, "offered", "(II)I"⟩
abbrev cX12_upTo : ByteArray := prog_13_method_99_code
def yX12_upTo : MethodName := ⟨RX12, "upTo", "(I)I"⟩
abbrev cX12_gain : ByteArray := prog_13_method_100_code
def yX12_gain : MethodName := ⟨RX12, "gain", "(I)I"⟩
abbrev cX12_dearest : ByteArray := prog_13_method_101_code
def yX12_dearest : MethodName := ⟨RX12, "dearest", "()I"⟩
abbrev cX12_isStep : ByteArray := prog_13_method_102_code
def yX12_isStep : MethodName := ⟨RX12, "isStep", "(II)Z"⟩
abbrev cX12_plan : ByteArray := prog_13_method_103_code
def yX12_plan : MethodName := ⟨RX12, "plan", "(III)I"⟩
abbrev cX12_goes : ByteArray := prog_13_method_104_code
def yX12_goes : MethodName := ⟨RX12, "goes", "(III)V"⟩
abbrev cX12_ends : ByteArray := prog_13_method_105_code
def yX12_ends : MethodName := ⟨RX12, "ends", "()I"⟩
abbrev cX12_isTape : ByteArray := prog_13_method_106_code
def yX12_isTape : MethodName := ⟨RX12, "isTape", "(I)Z"⟩
abbrev cX12_judge : ByteArray := prog_13_method_107_code
def yX12_judge : MethodName := ⟨RX12, "judge", "(II)I"⟩
abbrev cX12_image : ByteArray := prog_13_method_108_code
def yX12_image : MethodName := ⟨RX12, "image", "()I"⟩
abbrev cX12_undo : ByteArray := prog_13_method_109_code
def yX12_undo : MethodName := ⟨RX12, "undo", "()I"⟩
abbrev cX12_count : ByteArray := prog_13_method_110_code
def yX12_count : MethodName := ⟨RX12, "count", "(I)I"⟩
abbrev cX12_tape : ByteArray := prog_13_method_111_code
def yX12_tape : MethodName := ⟨RX12, "tape", "(III)I"⟩
abbrev cX12_held : ByteArray := prog_13_method_112_code
def yX12_held : MethodName := ⟨RX12, "held", "(IJ)J"⟩
abbrev cX12_item : ByteArray := prog_13_method_113_code
def yX12_item : MethodName := ⟨RX12, "item", "(IIJ)I"⟩
abbrev cX12_peek : ByteArray := prog_13_method_114_code
def yX12_peek : MethodName := ⟨RX12, "peek", "(II)J"⟩
abbrev cX12_shift : ByteArray := prog_13_method_115_code
def yX12_shift : MethodName := ⟨RX12, "shift", "(IIIII)I"⟩
def RJ9 : String := "java/lang/Math"
def TJ9 : u_T := fun k => match k with
  | _ => ("", "", "", false)
def tyJ9 : Nat → FieldType := fun k => match k with
  | _ => .int
abbrev wsJ90 : List Cond := u_ws RJ9 TJ9 0
theorem nmJ9 : ∀ a, a < 0 → ∀ b, b < 0 → a ≠ b → (TJ9 a).2.1 ≠ (TJ9 b).2.1 := by decide +kernel
theorem tyJ9_ok : ∀ k, k < 0 → parseFieldDescriptor (TJ9 k).2.2.1 = some (tyJ9 k) := by decide +kernel
abbrev cJ9_floorDiv_7cf53 : ByteArray := prog_15_method_47_code
def yJ9_floorDiv_7cf53 : MethodName := ⟨RJ9, "floorDiv", "(II)I"⟩
abbrev cJ9_floorDiv_b2ac5 : ByteArray := prog_15_method_48_code
def yJ9_floorDiv_b2ac5 : MethodName := ⟨RJ9, "floorDiv", "(JI)J"⟩
abbrev cJ9_floorDiv_f86c9 : ByteArray := prog_15_method_49_code
def yJ9_floorDiv_f86c9 : MethodName := ⟨RJ9, "floorDiv", "(JJ)J"⟩
abbrev cJ9_floorMod_f86c9 : ByteArray := prog_15_method_52_code
def yJ9_floorMod_f86c9 : MethodName := ⟨RJ9, "floorMod", "(JJ)J"⟩
abbrev cJ9_abs_067f4 : ByteArray := prog_15_method_61_code
def yJ9_abs_067f4 : MethodName := ⟨RJ9, "abs", "(J)J"⟩
abbrev cJ9_min_7cf53 : ByteArray := prog_15_method_69_code
def yJ9_min_7cf53 : MethodName := ⟨RJ9, "min", "(II)I"⟩
def RJ10 : String := "java/lang/System"
def TJ10 : u_T := fun k => match k with
  | _ => ("", "", "", false)
def tyJ10 : Nat → FieldType := fun k => match k with
  | _ => .int
abbrev wsJ100 : List Cond := u_ws RJ10 TJ10 0
theorem nmJ10 : ∀ a, a < 0 → ∀ b, b < 0 → a ≠ b → (TJ10 a).2.1 ≠ (TJ10 b).2.1 := by decide +kernel
theorem tyJ10_ok : ∀ k, k < 0 → parseFieldDescriptor (TJ10 k).2.2.1 = some (tyJ10 k) := by decide +kernel
def RJ7 : String := "java/util/Arrays"
def TJ7 : u_T := fun k => match k with
  | _ => ("", "", "", false)
def tyJ7 : Nat → FieldType := fun k => match k with
  | _ => .int
abbrev wsJ70 : List Cond := u_ws RJ7 TJ7 0
theorem nmJ7 : ∀ a, a < 0 → ∀ b, b < 0 → a ≠ b → (TJ7 a).2.1 ≠ (TJ7 b).2.1 := by decide +kernel
theorem tyJ7_ok : ∀ k, k < 0 → parseFieldDescriptor (TJ7 k).2.2.1 = some (tyJ7 k) := by decide +kernel
abbrev cJ7_fill_d0a16 : ByteArray := prog_17_method_101_code
def yJ7_fill_d0a16 : MethodName := ⟨RJ7, "fill", "([JJ)V"⟩
abbrev cJ7_fill_53178 : ByteArray := prog_17_method_103_code
def yJ7_fill_53178 : MethodName := ⟨RJ7, "fill", "([II)V"⟩
def RL : String := "WholePacksLaw"
abbrev cL_law : ByteArray := code
def yL_law : MethodName := ⟨RL, "law", "([I)Z"⟩
abbrev vwCl : List vw_C := [(RX0, TX0, 4), (RX1, TX1, 6), (RX2, TX2, 4), (RX3, TX3, 3), (RX4, TX4, 12), (RX5, TX5, 13), (RX6, TX6, 3), (RX7, TX7, 8), (RX8, TX8, 11), (RX9, TX9, 7), (RX10, TX10, 13), (RX11, TX11, 20), (RX12, TX12, 29)]
