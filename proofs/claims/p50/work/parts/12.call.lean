/-! new T[k][n]; calls; returns. -/
theorem j_mul_1 {g : j_H} {n : Nat} : ∀ k, (j_mul g n k).1 = g.1 ++ List.replicate k (33, n)
  | 0 => by simp [j_mul]
  | k + 1 => by
    show (j_mul g n k).1 ++ [(33, n)] = _
    rw [j_mul_1 k, List.append_assoc, ← List.replicate_succ']
theorem j_mul_2 {g : j_H} {n : Nat} : ∀ k, (j_mul g n k).2.1 = g.2.1 ++ List.replicate k []
  | 0 => by simp [j_mul]
  | k + 1 => by
    show (j_mul g n k).2.1 ++ [[]] = _
    rw [j_mul_2 k, List.append_assoc, ← List.replicate_succ']
theorem j_mul_3 {g : j_H} {n i : Nat} : ∀ k j, (j < g.1.length → (j_mul g n k).2.2 j i = g.2.2 j i) ∧ (g.1.length ≤ j → j < g.1.length + k → (j_mul g n k).2.2 j i = 0)
  | 0, j => ⟨fun _ => rfl, fun h1 h2 => by omega⟩
  | k + 1, j => by
    have e : (j_mul g n (k + 1)).2.2 j i = j_zero (j_mul g n k).2.2 (g.1.length + k) j i := by
      show j_zero (j_mul g n k).2.2 (j_mul g n k).1.length j i = _
      rw [j_mul_1]
      simp
    rw [e]
    unfold j_zero
    constructor
    · intro h1
      rw [if_neg (by omega)]
      exact (j_mul_3 k j).1 h1
    · intro h1 h2
      split
      · rfl
      · exact (j_mul_3 k j).2 h1 (by omega)
theorem j_mul_4 {g : j_H} {n i : Nat} : ∀ k j, g.1.length + k ≤ j → (j_mul g n k).2.2 j i = g.2.2 j i
  | 0, j, _ => rfl
  | k + 1, j, h => by
    have e : (j_mul g n (k + 1)).2.2 j i = j_zero (j_mul g n k).2.2 (g.1.length + k) j i := by
      show j_zero (j_mul g n k).2.2 (j_mul g n k).1.length j i = _
      rw [j_mul_1]
      simp
    rw [e]
    unfold j_zero
    rw [if_neg (by omega)]
    exact j_mul_4 k j (by omega)
section SC
variable {p : Program} {l : Launch} {e : Env} {R : Room} {s : State} {m : MethodId} {args : Array Value} {below : List Frame} {meth : Method} {c : Code} {Q : State → Prop} {D : va_G} {b : Nat} {tt : Nat → Nat} {L sb nL zc zs mc ms pc : Nat} {xs : Nat → Int32} {ρ0 : j_P} {q : j_M} {ls : j_L} {r : List j_V} {h : j_H}
theorem r_mna (hC : s_C p s m args meth c R q b tt L sb xs nL) {n k : Int} (h6 : q.2.2.2.2.1 = 8) (hw0 : Cond.classLink RX6 18 ("[" ++ (FieldType.array FieldType.long).toString) ∈ lwW) (hw1 : Cond.arrayClass .long ∈ lwW) (hn : 0 ≤ n ∧ n ≤ 1000 ∧ 0 ≤ k ∧ k ≤ 1000) (hlt : h.1.length < 900000) (hany : h.1.any (fun q => q.1 == 33) = true) (hcz : h.1.length + (1 + k.toNat) ≤ zc) (hsz : s_sl h + (k.toNat + k.toNat * n.toNat) ≤ zs) (hRc : mc ≤ R.cells) (hRs : ms ≤ R.slots) (hdg : decode q.2.1 pc = .ok (.multianewarray 18 2, 4))
    (K : s_G D b tt L sb xs s ρ0 nL zc zs mc ms m (fun H locs cells slots g => W p l e R s m args below meth c H locs cells slots Q g) (pc + 4) ls (jR h.1.length :: r) (j_mna h k.toNat n.toNat)) : s_G D b tt L sb xs s ρ0 nL zc zs mc ms m (fun H locs cells slots g => W p l e R s m args below meth c H locs cells slots Q g) pc ls (jI n :: jI k :: r) h := by
  intro H locs cells slots ws tys lsR rl stR hS hx hl hv hst hc hs
  obtain ⟨w1, w2, z, rfl, ⟨n1, rfl, e1⟩, ⟨n2, rfl, e2⟩, hz⟩ := s_st2 hst
  have hRO := hC.2.2.2.2.2.2.2.2
  have hw := s_words hC
  obtain ⟨cy, hcy0, hcy⟩ : ∃ cy, (cy, FieldType.long) ∈ tys ∧ s.vm.findClass (FieldType.array FieldType.long).toString = some cy := by
    obtain ⟨x, hx1, hx2⟩ := List.any_eq_true.mp hany
    obtain ⟨A, hA⟩ := List.getElem?_of_mem hx1
    have hx3 : x.1 = 33 := by simpa using hx2
    have hA2 : h.1[A]? = some (33, x.2) := by rw [hA, ← hx3]
    have h2 := s_w_two hS.1 hA2 (by omega)
    have hlt := (List.getElem?_eq_some_iff.mp hA2).1
    have hl1 := hS.1.1
    obtain ⟨q1, hq1⟩ : ∃ q1, s_ρ b tt ws A = some q1 := ⟨_, (s_ρ_in (by omega)).trans (List.getElem?_eq_getElem (by simp; omega))⟩
    obtain ⟨k3, cA, f, -, -, ht, -⟩ := s_w_long hS.1 hA2 hq1
    obtain ⟨t0, ht0⟩ := List.getElem?_of_mem ht
    exact ⟨cA, ht, (hS.2.2.1.2 t0 _ ht0).2⟩
  have k1 : n1.toNatClampNeg = n.toNat := by rw [← e1]; rfl
  have k2 : n2.toNatClampNeg = k.toNat := by rw [← e2]; rfl
  have neg : ∀ (x : Int32) (y : Int), x.toInt = y → 0 ≤ y → ¬ x < 0 := fun x y hxy hy h1 => by
    have := Int32.lt_iff_toInt_lt.mp h1
    have h0 : (0 : Int32).toInt = 0 := rfl
    omega
  have hown : s.vm.findClass RX6 = some m.cls := by have := hC.2.2.2.1; rw [h6] at this; exact this
  have hP0 : va_P D vwCl (ws ++ va_pl [] (fun _ => .inr (0, []))) H := by rw [show va_pl [] (fun _ => (.inr (0, []) : va_E)) = [] from rfl, List.append_nil]; exact hS.2.1
  have hD0 : va_D (s_A sb) (ws ++ va_pl [] (fun _ => .inr (0, []))) := by rw [show va_pl [] (fun _ => (.inr (0, []) : va_E)) = [] from rfl, List.append_nil]; exact hS.2.2.2.1
  refine va_mna (z := (n.toNat, .inr (.inl (fun _ => 0)))) hC.1 hC.2.1 hown (hw _ hw0) hRO.2.2.2.2.2.2.2.1.1 (hw _ hw1) hcy hS.2.2.1 hP0 hD0 hS.2.2.2.2 (fun q hq => Nat.le_trans hRO.2.2.2.2.2.2.2.2 hq) (neg _ _ e2 hn.2.2.1) (neg _ _ e1 hn.1) k2 k1 (by omega) (Nat.le_trans (Nat.mul_le_mul_right _ (show n.toNat ≤ 1000 by omega)) (by decide)) (by omega) rfl rfl (by omega) (by omega) (fun c => ?_) hdg (fun q1 rr cA H1 hinj hnl hK1 hP1 hD1 hS1 => ?_)
  · show ({ cls := c, slots := Array.replicate n.toNat (.long 0), vm := .none } : Cell) = _
    rw [arrV_new]
    rfl
  · have hl1 := hS.1.1
    have hl2 := hS.1.2.1
    have hrows : ∀ i : Nat, i < k.toNat → (va_pl ([] ++ (List.range k.toNat).map rr) (vr_up (fun _ => (.inr (0, []) : va_E)) ((List.range k.toNat).map rr) (.inl (cy, (n.toNat, .inr (.inl (fun _ => 0)))))))[i]? = some (rr i, .inl (cy, (n.toNat, .inr (.inl (fun _ => 0))))) := by
      intro i hi
      unfold va_pl
      rw [List.nil_append, List.getElem?_map, List.getElem?_map, List.getElem?_range hi]
      show some (rr i, _) = _
      rw [vr_up_in (List.mem_map.mpr ⟨i, List.mem_range.mpr hi, rfl⟩)]
    generalize hrw : va_pl ([] ++ (List.range k.toNat).map rr) (vr_up (fun _ => (.inr (0, []) : va_E)) ((List.range k.toNat).map rr) (.inl (cy, (n.toNat, .inr (.inl (fun _ => 0)))))) = rows at hP1 hD1 hrows
    have hrl : rows.length = k.toNat := by rw [← hrw]; simp [va_pl]
    rw [List.append_assoc] at hP1 hD1
    have hm1 : (j_mna h k.toNat n.toNat).1 = h.1 ++ ((36, k.toNat) :: List.replicate k.toNat (33, n.toNat)) := by
      unfold j_mna
      rw [j_mul_1]
      simp
    have hm2 : (j_mna h k.toNat n.toNat).2.1 = h.2.1 ++ ((List.range k.toNat).map (fun i => some (h.1.length + 1 + i)) :: List.replicate k.toNat []) := by
      unfold j_mna
      rw [j_mul_2]
      simp
    have hgl : (h.1 ++ [(36, k.toNat)]).length = h.1.length + 1 := by simp
    have hm3 : ∀ j, j < h.1.length → ∀ i, (j_mna h k.toNat n.toNat).2.2 j i = h.2.2 j i := by
      intro j hj i
      unfold j_mna
      rw [(j_mul_3 k.toNat j).1 (by rw [hgl]; omega)]
      show j_zero h.2.2 h.1.length j i = _
      unfold j_zero
      rw [if_neg (by omega)]
    have hm4 : ∀ j, h.1.length + 1 ≤ j → j < h.1.length + 1 + k.toNat → ∀ i, (j_mna h k.toNat n.toNat).2.2 j i = 0 := by
      intro j h1 h2 i
      unfold j_mna
      exact (j_mul_3 k.toNat j).2 (by rw [hgl]; omega) (by rw [hgl]; omega)
    have hρ1 : s_ρ b tt (ws ++ ([(q1, .inl (cA, (k.toNat, .inr (.inr (.inr (.inr (fun i => if i < k.toNat then some (rr i) else none)))))))] ++ rows)) (h.1.length) = some q1 := by
      rw [hl1, s_ρ_in (by simp)]
      show ((ws ++ _).map (fun q => q.1))[ws.length]? = some q1
      simp
    have hρ2 : ∀ i, i < k.toNat → s_ρ b tt (ws ++ ([(q1, .inl (cA, (k.toNat, .inr (.inr (.inr (.inr (fun i => if i < k.toNat then some (rr i) else none)))))))] ++ rows)) (h.1.length + 1 + i) = some (rr i) := by
      intro i hi
      rw [hl1, show ws.length + 2 + 1 + i = (ws.length + (1 + i)) + 2 by omega, s_ρ_in (by simp [hrl]; omega)]
      show ((ws ++ _).map (fun q => q.1))[ws.length + (1 + i)]? = some (rr i)
      rw [List.map_append, List.getElem?_append_right (by simp)]
      simp only [List.length_map, Nat.add_sub_cancel_left]
      rw [List.map_append, List.getElem?_append_right (by simp)]
      simp [hrows i hi]
    have hW2 : s_w b tt L xs (tys ++ [(cA, FieldType.array .long)]) (j_mna h k.toNat n.toNat) (ws ++ ([(q1, .inl (cA, (k.toNat, .inr (.inr (.inr (.inr (fun i => if i < k.toNat then some (rr i) else none)))))))] ++ rows)) := by
      refine s_w_app hS.1 (fun _ h => List.mem_append_left _ h) ⟨_, hm1, by simp [hrl], fun q hq => ?_⟩ ⟨_, hm2, by simp [hrl]⟩ hm3 (fun i x hx => ?_) (by rw [hm1]; simp; omega) (fun a i g1 g2 => ?_)
      · rcases List.mem_cons.mp hq with rfl | hq
        · show k.toNat ≤ 100000
          omega
        · rw [(List.mem_replicate.mp hq).2]
          show n.toNat ≤ 100000
          omega
      · cases i with
        | zero =>
          cases hx
          refine ⟨by rw [hm1]; simp, List.mem_append_right _ (List.mem_singleton.mpr rfl), fun i hi => ?_⟩
          have hrf : j_rf (j_mna h k.toNat n.toNat) (h.1.length + 0) i = some (h.1.length + 1 + i) := by
            unfold j_rf
            rw [hm2]
            simp only [Nat.add_zero, List.getD_eq_getElem?_getD]
            rw [List.getElem?_append_right (by omega), show h.1.length - h.2.1.length = 0 by omega]
            simp [List.getElem?_range hi]
          rw [hrf]
          refine ⟨rr i, ?_, hρ2 i hi⟩
          show va_rf (if i < k.toNat then some (rr i) else none) = _
          rw [if_pos hi]
          rfl
        | succ i =>
          have hx : rows[i]? = some x := by simpa using hx
          have hik : i < k.toNat := by have := (List.getElem?_eq_some_iff.mp hx).1; omega
          rw [hrows i hik] at hx
          cases hx
          refine ⟨?_, List.mem_append_left _ hcy0, fun j hj => ?_⟩
          · rw [hm1, List.getElem?_append_right (by omega), show h.1.length + (i + 1) - h.1.length = i + 1 by omega]
            simp [List.getElem?_replicate, hik]
          · rw [hm4 _ (by omega) (by omega)]
            rfl
      · have h7 := hS.1.2.2.2.2.2.2.2 a i g1 g2
        rw [← h7]
        unfold j_mna
        rw [j_mul_4 k.toNat a (by rw [hgl]; omega)]
        show j_zero h.2.2 h.1.length a i = _
        unfold j_zero
        rw [if_neg (by omega)]
    have hb : ws.length + ([(q1, (.inl (cA, (k.toNat, .inr (.inr (.inr (.inr (fun i => if i < k.toNat then some (rr i) else none)))))) : va_E))] ++ rows).length + 2 ≤ 1000000 := by
      rw [List.length_append, List.length_singleton, hrl]
      omega
    have hcnt : (j_mna h k.toNat n.toNat).1.length = h.1.length + (1 + k.toNat) := by rw [hm1]; simp; omega
    have hsl : s_sl (j_mna h k.toNat n.toNat) = s_sl h + (k.toNat + k.toNat * n.toNat) := by
      unfold s_sl
      rw [hm1]
      simp
    exact K H1 locs _ _ _ _ lsR rl (.ref q1 :: z) ⟨hW2, hP1, hK1, hD1, hS1⟩ (fun a q hq => s_ρ_app hb a q (hx a q hq)) (s_lo_mono (s_ρ_app hb) hl) hv ⟨⟨q1, rfl, hρ1⟩, s_st_mono (s_ρ_app hb) hz⟩ (by rw [hcnt]; omega) (by rw [hsl]; omega)
/-! what a method answers -/
def s_ov (ρ : j_P) (v : Option j_V) (w : Option Value) : Prop := match v, w with
  | none, none => True
  | some v, some w => s_val ρ v w
  | _, _ => False
def s_Q (D : va_G) (b : Nat) (tt : Nat → Nat) (L sb : Nat) (xs : Nat → Int32) (ρ0 : j_P) (h : j_H) (v : Option j_V) : Array Value → State → Outcome → State → Prop := fun _ st oc t =>
  (∃ (ov : Option Value) (ws : va_W) (tys : List (ClassId × FieldType)), oc = .returned ov ∧ s_ov (s_ρ b tt ws) v ov ∧ s_w b tt L xs tys h ws ∧ va_P D vwCl ws t.heap ∧ va_K D vwCl tys t ∧ va_D (s_A sb) ws ∧ ∀ a q : Nat, ρ0 a = some q → s_ρ b tt ws a = some q) ∧ va_F (s_A sb) st t
def s_Pre (D : va_G) (b : Nat) (tt : Nat → Nat) (L sb : Nat) (xs : Nat → Int32) (tys : List (ClassId × FieldType)) (ws : va_W) (U : State) : Prop := va_P D vwCl ws U.heap ∧ va_K D vwCl tys U ∧ va_D (s_A sb) ws ∧ s_RO b tt L sb xs U U.heap
def s_rm (d mc ms : Nat) : Room := { frames := d, cells := mc, slots := ms, locals := 92 + 32 * d }
def s_ws (q : j_M) : List Cond := .code q.1 q.2.1 q.2.2.1 q.2.2.2.1 :: lwW
theorem s_RK_move {s U : State} {H H1 : Heap} (h : s_RK tt sb s H) (hW : s.WarmedH U.vm) (hk : ∀ a : Nat, a < H.size → ¬ s_A sb a → H1[a]? = H[a]?) : s_RK tt sb U H1 := by
  obtain ⟨a1, a2, a3, a4, a5, a6, a7, v, a8, a9⟩ := h
  exact ⟨(a1.moved hW.alike).kept hk, (a2.moved hW.alike).kept hk, (a3.moved hW.alike).kept hk, fun a N e => ((a4 a N e).moved hW.alike).kept hk, fun k e => ⟨((a5 k e).1.moved hW.alike).kept hk, ((a5 k e).2.1.moved hW.alike).kept hk, ((a5 k e).2.2.moved hW.alike).kept hk⟩, fun k x e => vk_R.warm hW (a6 k x e), va_Nw.warmC hW a7, v, a8, (a9.moved hW.alike).kept hk⟩
theorem s_RK_same {s : State} {H : Heap} (h : s_RK tt sb s H) {U : State} (hv : U.vm = s.vm) : s_RK tt sb U H := by
  obtain ⟨a1, a2, a3, a4, a5, a6, a7, v, a8, a9⟩ := h
  have hA : s.vm.Alike U.vm := by rw [hv]; exact Vm.Alike.refl s.vm
  exact ⟨a1.moved hA, a2.moved hA, a3.moved hA, fun a N e => (a4 a N e).moved hA, fun k e => ⟨(a5 k e).1.moved hA, (a5 k e).2.1.moved hA, (a5 k e).2.2.moved hA⟩, fun k x e => vk_R.same hv (a6 k x e), va_Nw.same rfl hv.symm a7, v, a8, a9.moved hA⟩
theorem s_RO_move {s U : State} {H H1 : Heap} (h : s_RO b tt L sb xs s H) (hW : s.WarmedH U.vm) (hz : H.size ≤ H1.size) (hk : ∀ a : Nat, a < H.size → ¬ s_A sb a → H1[a]? = H[a]?) : s_RO b tt L sb xs U H1 := by
  obtain ⟨a1, a2, a3, a4, a5, a6, a7, a8, a9⟩ := h
  exact ⟨(a1.moved hW.alike).kept hk, a2, (a3.moved hW.alike).kept hk, (a4.moved hW.alike).kept hk, fun t ht => va_Nw.warmF hW (a5 t ht), fun t ht => va_Nw.warmF hW (a6 t ht), fun t ht => va_Nw.warmM hW (a7 t ht), ⟨va_AOA.moved hW.alike a8.1, s_RK_move a8.2 hW hk⟩, Nat.le_trans a9 hz⟩
theorem s_blind {D : va_G} {tys : List (ClassId × FieldType)} {ws : va_W} {was : List Value} : FrameBlind (va_Pc was (s_Pre D b tt L sb xs tys ws)) := by
  intro a U g mk ⟨h0, h1, h2, h3, a1, a2, a3, a4, a5, a6, a7, a8, a9⟩
  exact ⟨h0, h1, va_K.moved (u := U) (U := U.calling g mk a) (Vm.Alike.refl U.vm) h2, h3, a1.moved (U := U.calling g mk a) (Vm.Alike.refl U.vm), a2, a3.moved (U := U.calling g mk a) (Vm.Alike.refl U.vm), a4.moved (U := U.calling g mk a) (Vm.Alike.refl U.vm), fun t ht => va_Nw.same (U := U.calling g mk a) rfl rfl (a5 t ht), fun t ht => va_Nw.same (U := U.calling g mk a) rfl rfl (a6 t ht), fun t ht => va_Nw.same (U := U.calling g mk a) rfl rfl (a7 t ht), ⟨va_AOA.moved (U := U.calling g mk a) (Vm.Alike.refl U.vm) a8.1, s_RK_same a8.2 rfl⟩, a9⟩
theorem s_start (hC : s_C p s m args meth c R q b tt L sb xs nL) {H : Heap} {locs : List Loc} {tys : List (ClassId × FieldType)} {ws : va_W} (hS : s_St D b tt L sb xs s h H locs tys ws) {was : List Value} : ∀ U : State, U.heap = H → s.WarmedH U.vm → va_Pc was (s_Pre D b tt L sb xs tys ws) was.toArray U := by
  intro U hU hW
  obtain ⟨h1, h2, h3, h4, h5⟩ := hS
  refine ⟨rfl, by rw [hU]; exact h2, va_K.moved hW.alike h3, h4, s_RO_move hC.2.2.2.2.2.2.2.2 hW (by rw [hU]; exact h5.1) (fun a ha hn => by rw [hU]; exact h5.2.1 a ha hn)⟩
theorem r_call {k1 k2 : Nat} {H : Heap} {locs : List Loc} {cells slots : Nat} {lsR : Array Slot} {st0 rest : List Value} {a : Array Value} {g : j_H} {v : Option j_V}
    (hr : va_Run p l e R s m args below meth c H locs cells slots k1 k2 (F0 m pc lsR st0) rest (s_Q D b tt L sb xs ρ0 g v a) (s_A sb)) (hS : va_S (s_A sb) s.heap H locs)
    (kk : ∀ (ov : Option Value) (H1 : Heap) (locs1 : List Loc) (ws : va_W) (tys : List (ClassId × FieldType)), s_ov (s_ρ b tt ws) v ov → s_St D b tt L sb xs s g H1 locs1 tys ws → (∀ a q : Nat, ρ0 a = some q → s_ρ b tt ws a = some q) → W p l e R s m args below meth c H1 locs1 (cells + k1) (slots + k2) Q (F0 m (pc + 3) lsR (ov.toList ++ rest))) : W p l e R s m args below meth c H locs cells slots Q (F0 m pc lsR st0) := by
  intro T hT X
  obtain ⟨v, st₀, t, T', L, h0, X', hL, e1, e2, ⟨⟨ov, ws, tys, hv, ho, hw, hP, hK, hD, hρ⟩, hz, hk⟩, st⟩ := hr T hT X
  cases hv
  rw [h0] at hz hk
  obtain ⟨t2, a1, b1⟩ := kk v T'.heap (locs ++ L) ws tys ho
    ⟨hw, by rw [e1]; exact hP, va_K.moved (by rw [← e2]; exact X'.warmed.alike.symm) hK, hD, ⟨Nat.le_trans hS.1 (by rw [e1]; exact hz), fun q h1 h2 => by rw [e1, hk q (Nat.lt_of_lt_of_le h1 hS.1) h2]; exact hS.2.1 q h1 h2, fun q hq => by
      rcases List.mem_append.mp hq with h | h
      · exact hS.2.2 q h
      · exact hL q h⟩⟩ hρ T' rfl X'
  exact ⟨t2, st t2 a1, b1⟩
/-! returns -/
theorem r_ret {H : Heap} {locs : List Loc} {tys : List (ClassId × FieldType)} {ws : va_W} {v : Option j_V} {ov : Option Value} (hS : s_St D b tt L sb xs s h H locs tys ws) (hx : ∀ a q : Nat, ρ0 a = some q → s_ρ b tt ws a = some q) (ho : s_ov (s_ρ b tt ws) v ov) : (∀ t : State, t.heap = H → s.WarmedH t.vm → s_Q D b tt L sb xs ρ0 h v args s (.returned ov) t) ∧ ∀ q ∈ locs, s_A sb q.base := by
  obtain ⟨h1, h2, h3, h4, h5⟩ := hS
  exact ⟨fun t ht hW => ⟨⟨ov, ws, tys, rfl, ho, h1, by rw [ht]; exact h2, va_K.moved hW.alike h3, h4, hx⟩, h5.F ht⟩, h5.2.2⟩
end SC
