/-! The law's walk: the terms of a text (pc 133 to 373). -/
def tF (n F A : Nat) (co : Nat → Int) (k : Nat) (B : j_B) (m : j_M0) (U V : Nat) (s : List Int) (φ : Nat → Int) : Prop := aI (hH B m) A 4 co ∧ aI (hH B m) F 4 φ ∧ sT (hH B m) U V s ∧ 2 ≤ V ∧ suP n s φ (80 - k) ∧ s.length ≤ 3 * k ∧ (0 < k → s ≠ []) ∧ ∀ p : Nat, p < 4 → -9 ≤ φ p ∧ φ p ≤ 9
theorem sgF_l (less : Bool) (s : List Int) : (sgF less s).length ≤ 1 := by
  unfold sgF
  repeat' split
  all_goals decide
theorem suP_0 {n v : Nat} {s : List Int} {φ : Nat → Int} (w : suP n s φ v) (h : s = []) (p : Nat) : φ p = 0 := by
  rcases w with w | w
  · exact w.2 p
  · exact absurd h w.1
/-- the facts behind a term that is appended -/
theorem tF_s {n F A k p bu : Nat} {co φ : Nat → Int} {B Bn : j_B} {m mn : j_M0} {U V U1 V1 : Nat} {s : List Int} {f X : Int} {less om : Bool} (h : tF n F A co k B m U V s φ) (w : lJ bu B m) (hk : k < 3) (hn : 2 ≤ n ∧ n ≤ 4) (hp : p < n) (hf : 0 ≤ f ∧ f ≤ 9) (ho : om = true → f = 1) (hX : φ p + sgV less * f = X) (hr : -9 ≤ X ∧ X ≤ 9) (hAF : A ≠ F) (x : xF (fun _ => False) 13 5200 (hH B (j_up m F p X)) (hH Bn mn)) (t : sT (hH Bn mn) U1 V1 (s ++ sgF less s ++ dlF om f p)) (hV : 2 ≤ V1) : tF n F A co (k + 1) Bn mn U1 V1 (s ++ sgF less s ++ dlF om f p) (fun j => if j = p then X else φ j) := by
  obtain ⟨h1, h2, h3, h4, h5, h6, h7, h8⟩ := h
  have l1 := sgF_l less s
  have l2 := dlF_l (om := om) (f := f) (p := p)
  refine ⟨aI_x x (aI_k h1 (fun z => up_ne (by omega))) (fun h => h), aI_x x (aI_up h2) (fun h => h), t, hV, ?_, ?_, fun _ hE => ?_, fun q hq => ?_⟩
  · rw [← hX]
    exact suP_step (suP_w h5 (by omega)) (by omega) (by omega) hp hf ho (by omega)
  · rw [List.length_append, List.length_append]
    omega
  · have := congrArg List.length hE
    rw [List.length_append] at this
    have h0 : ([] : List Int).length = 0 := rfl
    omega
  · show -9 ≤ (if q = p then X else φ q) ∧ (if q = p then X else φ q) ≤ 9
    by_cases e : q = p
    · rw [if_pos e]; exact hr
    · rw [if_neg e]; exact h8 q hq
theorem T_133 {Ls : Nat} {xs : Nat → Int32} {A n T F : Nat} {Q e : Int} {co : Nat → Int} {g : Nat → Int} {t : Nat → Int} {B : j_B} {m : j_M0} {k bu U V : Nat} {s : List Int} {φ : Nat → Int} {d12 d13 d14 d15 : Option j_V} (hn : 2 ≤ n ∧ n ≤ 4) (hA : 114 ≤ F ∧ F < 200000) (hAF : A ≠ F) (w : lJ bu B m) (hbu : bu ≤ 5000) (r : Rel xs g none t 0 m) (h : tF n F A co k B m U V s φ) (hk : k < 3) (K : ∀ (Bn : j_B) (mn : j_M0) (U V : Nat) (s : List Int) (φ : Nat → Int) (d12 d13 d14 d15 : Option j_V), nL d12 → nL d13 → nL d14 → nL d15 → Bn.1 = B.1 → lJ (bu + 13) Bn mn → Rel xs g none t 0 mn → tF n F A co (k + 1) Bn mn U V s φ → lG Ls (j_fin (c_call 10) 271 133 [some (jR 0), some (jR 2), some (jI Q), some (jI (n : Int)), some (jI 1), some (jR A), some (jI (T : Int)), some (jI (T : Int)), some (jI e), some (jR F), some (jR U), some (jI (((k + 1 : Nat) : Int))), d12, d13, d14, d15, none, none, none, none, none, none] [] (hH Bn mn))) : lG Ls (j_fin (c_call 10) 271 133 [some (jR 0), some (jR 2), some (jI Q), some (jI (n : Int)), some (jI 1), some (jR A), some (jI (T : Int)), some (jI (T : Int)), some (jI e), some (jR F), some (jR U), some (jI (k : Int)), d12, d13, d14, d15, none, none, none, none, none, none] [] (hH B m)) := by
  obtain ⟨h1, h2, h3, h4, h5, h6, h7, h8⟩ := h
  obtain ⟨f, hf, hf2⟩ : ∃ f, j_and (j_shr e (w32 (4 * (k : Int)))) 7 = f ∧ 0 ≤ f ∧ f ≤ 7 := ⟨_, rfl, and_r _ 7 (by decide)⟩
  obtain ⟨y, hy, hy2⟩ : ∃ y, j_and (j_shr e (w32 ((w32 (4 * (k : Int))) + 12))) 15 = y ∧ 0 ≤ y ∧ y ≤ 15 := ⟨_, rfl, and_r _ 15 (by decide)⟩
  have ty := tmod_r hy2.1 (show (0 : Int) < (n : Int) by omega)
  obtain ⟨p, hp, hpn⟩ : ∃ p : Nat, Int.tmod y (n : Int) = (p : Int) ∧ p < n := ⟨(Int.tmod y (n : Int)).toNat, by omega, by omega⟩
  have f8 := h8 p (by omega)
  by_cases hz8 : j_and (j_shr e (w32 (4 * (k : Int)))) 8 = 0
  · skip
    obtain ⟨X, hX⟩ : ∃ X, w32 ((φ p) + f) = X := ⟨_, rfl⟩
    have hX' : φ p + sgV false * f = X := by
      rw [← hX, w32_id (by omega) (by omega)]
      show φ p + 1 * f = _
      omega
    have sv : sgV false = 1 := rfl
    rw [sv] at hX'
    by_cases c1 : 9 < X
    · skip
      have K1 := K B m U V s φ (some (jI f)) (some (jI (p : Int))) (some (jI 0)) (some (jI 0)) (nL_i _) (nL_i _) (nL_i _) (nL_i _) rfl (lJ_w w (by omega)) r ⟨h1, h2, h3, h4, suP_w h5 (by omega), by omega, fun _ hE => (by have := suP_0 h5 hE p; omega), h8⟩
      refine gS (S_iload rfl at_271_133) ?_
      refine gS (S_iconst at_271_135) ?_
      refine gS (S_icmp_ge at_271_136) ?_
      refine gS (if_pos (by omega)) ?_
      refine gS (S_iload rfl at_271_139) ?_
      refine gS (S_iconst at_271_141) ?_
      refine gS (S_iload rfl at_271_142) ?_
      refine gS (S_imul at_271_144) ?_
      refine gS (S_ishr at_271_145) ?_
      refine gS (S_bipush at_271_146) ?_
      refine gS (S_iand at_271_148) ?_
      rw [show j_and (j_shr e (w32 (4 * (k : Int)))) 7 = f from hf]
      refine gS (S_istore (l1 := [some (jR 0), some (jR 2), some (jI Q), some (jI (n : Int)), some (jI 1), some (jR A), some (jI (T : Int)), some (jI (T : Int)), some (jI e), some (jR F), some (jR U), some (jI (k : Int)), some (jI f), d13, d14, d15, none, none, none, none, none, none]) rfl at_271_149) ?_
      refine gS (S_iload rfl at_271_151) ?_
      refine gS (S_iconst at_271_153) ?_
      refine gS (S_iload rfl at_271_154) ?_
      refine gS (S_imul at_271_156) ?_
      refine gS (S_bipush at_271_157) ?_
      refine gS (S_iadd at_271_159) ?_
      refine gS (S_ishr at_271_160) ?_
      refine gS (S_bipush at_271_161) ?_
      refine gS (S_iand at_271_163) ?_
      rw [show j_and (j_shr e (w32 ((w32 (4 * (k : Int))) + 12))) 15 = y from hy]
      refine gS (S_iload_n rfl at_271_164) ?_
      refine gS (S_irem at_271_165) ?_
      refine gS (if_neg (by omega)) ?_
      rw [show Int.tmod y (n : Int) = (p : Int) from hp]
      refine gS (S_istore (l1 := [some (jR 0), some (jR 2), some (jI Q), some (jI (n : Int)), some (jI 1), some (jR A), some (jI (T : Int)), some (jI (T : Int)), some (jI e), some (jR F), some (jR U), some (jI (k : Int)), some (jI f), some (jI (p : Int)), d14, d15, none, none, none, none, none, none]) rfl at_271_166) ?_
      refine gS (S_iload rfl at_271_168) ?_
      refine gS (S_iconst at_271_170) ?_
      refine gS (S_iload rfl at_271_171) ?_
      refine gS (S_imul at_271_173) ?_
      refine gS (S_ishr at_271_174) ?_
      refine gS (S_bipush at_271_175) ?_
      refine gS (S_iand at_271_177) ?_
      refine gS (S_if_eq at_271_178) ?_
      refine gS (if_pos hz8) ?_
      refine gS (S_iconst at_271_185) ?_
      refine gS (S_istore (l1 := [some (jR 0), some (jR 2), some (jI Q), some (jI (n : Int)), some (jI 1), some (jR A), some (jI (T : Int)), some (jI (T : Int)), some (jI e), some (jR F), some (jR U), some (jI (k : Int)), some (jI f), some (jI (p : Int)), some (jI 0), d15, none, none, none, none, none, none]) rfl at_271_186) ?_
      refine gS (S_aload rfl at_271_188) ?_
      refine gS (S_iload rfl at_271_190) ?_
      refine gS (S_iaload (aI_1 h2) at_271_192) ?_
      refine gS (if_pos ⟨by omega, by omega⟩) ?_
      rw [show (hH B m).2.2 F (p : Int).toNat = φ p from h2.2 p (by omega)]
      refine gS (S_iload rfl at_271_193) ?_
      refine gS (S_if_eq at_271_195) ?_
      refine gS (if_pos (by decide)) ?_
      refine gS (S_iload rfl at_271_204) ?_
      refine gS (S_iadd at_271_206) ?_
      rw [show w32 ((φ p) + f) = X from hX]
      refine gS (S_bipush at_271_207) ?_
      refine gS (S_icmp_gt at_271_209) ?_
      refine gS (if_pos c1) ?_
      refine gS (S_iconst at_271_240) ?_
      refine gS (S_istore (l1 := [some (jR 0), some (jR 2), some (jI Q), some (jI (n : Int)), some (jI 1), some (jR A), some (jI (T : Int)), some (jI (T : Int)), some (jI e), some (jR F), some (jR U), some (jI (k : Int)), some (jI f), some (jI (p : Int)), some (jI 0), some (jI 0), none, none, none, none, none, none]) rfl at_271_241) ?_
      refine gS (S_iload rfl at_271_243) ?_
      refine gS (S_if_eq at_271_245) ?_
      refine gS (if_pos (by decide)) ?_
      refine gS (S_iinc (l1 := [some (jR 0), some (jR 2), some (jI Q), some (jI (n : Int)), some (jI 1), some (jR A), some (jI (T : Int)), some (jI (T : Int)), some (jI e), some (jR F), some (jR U), some (jI (w32 ((k : Int) + 1))), some (jI f), some (jI (p : Int)), some (jI 0), some (jI 0), none, none, none, none, none, none]) rfl rfl at_271_367) ?_
      rw [show w32 ((k : Int) + 1) = ((k + 1 : Nat) : Int) from nat1 (by omega)]
      refine gS (S_goto at_271_370) ?_
      exact K1
    · by_cases c2 : X < -9
      · skip
        have K1 := K B m U V s φ (some (jI f)) (some (jI (p : Int))) (some (jI 0)) (some (jI 0)) (nL_i _) (nL_i _) (nL_i _) (nL_i _) rfl (lJ_w w (by omega)) r ⟨h1, h2, h3, h4, suP_w h5 (by omega), by omega, fun _ hE => (by have := suP_0 h5 hE p; omega), h8⟩
        refine gS (S_iload rfl at_271_133) ?_
        refine gS (S_iconst at_271_135) ?_
        refine gS (S_icmp_ge at_271_136) ?_
        refine gS (if_pos (by omega)) ?_
        refine gS (S_iload rfl at_271_139) ?_
        refine gS (S_iconst at_271_141) ?_
        refine gS (S_iload rfl at_271_142) ?_
        refine gS (S_imul at_271_144) ?_
        refine gS (S_ishr at_271_145) ?_
        refine gS (S_bipush at_271_146) ?_
        refine gS (S_iand at_271_148) ?_
        rw [show j_and (j_shr e (w32 (4 * (k : Int)))) 7 = f from hf]
        refine gS (S_istore (l1 := [some (jR 0), some (jR 2), some (jI Q), some (jI (n : Int)), some (jI 1), some (jR A), some (jI (T : Int)), some (jI (T : Int)), some (jI e), some (jR F), some (jR U), some (jI (k : Int)), some (jI f), d13, d14, d15, none, none, none, none, none, none]) rfl at_271_149) ?_
        refine gS (S_iload rfl at_271_151) ?_
        refine gS (S_iconst at_271_153) ?_
        refine gS (S_iload rfl at_271_154) ?_
        refine gS (S_imul at_271_156) ?_
        refine gS (S_bipush at_271_157) ?_
        refine gS (S_iadd at_271_159) ?_
        refine gS (S_ishr at_271_160) ?_
        refine gS (S_bipush at_271_161) ?_
        refine gS (S_iand at_271_163) ?_
        rw [show j_and (j_shr e (w32 ((w32 (4 * (k : Int))) + 12))) 15 = y from hy]
        refine gS (S_iload_n rfl at_271_164) ?_
        refine gS (S_irem at_271_165) ?_
        refine gS (if_neg (by omega)) ?_
        rw [show Int.tmod y (n : Int) = (p : Int) from hp]
        refine gS (S_istore (l1 := [some (jR 0), some (jR 2), some (jI Q), some (jI (n : Int)), some (jI 1), some (jR A), some (jI (T : Int)), some (jI (T : Int)), some (jI e), some (jR F), some (jR U), some (jI (k : Int)), some (jI f), some (jI (p : Int)), d14, d15, none, none, none, none, none, none]) rfl at_271_166) ?_
        refine gS (S_iload rfl at_271_168) ?_
        refine gS (S_iconst at_271_170) ?_
        refine gS (S_iload rfl at_271_171) ?_
        refine gS (S_imul at_271_173) ?_
        refine gS (S_ishr at_271_174) ?_
        refine gS (S_bipush at_271_175) ?_
        refine gS (S_iand at_271_177) ?_
        refine gS (S_if_eq at_271_178) ?_
        refine gS (if_pos hz8) ?_
        refine gS (S_iconst at_271_185) ?_
        refine gS (S_istore (l1 := [some (jR 0), some (jR 2), some (jI Q), some (jI (n : Int)), some (jI 1), some (jR A), some (jI (T : Int)), some (jI (T : Int)), some (jI e), some (jR F), some (jR U), some (jI (k : Int)), some (jI f), some (jI (p : Int)), some (jI 0), d15, none, none, none, none, none, none]) rfl at_271_186) ?_
        refine gS (S_aload rfl at_271_188) ?_
        refine gS (S_iload rfl at_271_190) ?_
        refine gS (S_iaload (aI_1 h2) at_271_192) ?_
        refine gS (if_pos ⟨by omega, by omega⟩) ?_
        rw [show (hH B m).2.2 F (p : Int).toNat = φ p from h2.2 p (by omega)]
        refine gS (S_iload rfl at_271_193) ?_
        refine gS (S_if_eq at_271_195) ?_
        refine gS (if_pos (by decide)) ?_
        refine gS (S_iload rfl at_271_204) ?_
        refine gS (S_iadd at_271_206) ?_
        rw [show w32 ((φ p) + f) = X from hX]
        refine gS (S_bipush at_271_207) ?_
        refine gS (S_icmp_gt at_271_209) ?_
        refine gS (if_neg c1) ?_
        refine gS (S_aload rfl at_271_212) ?_
        refine gS (S_iload rfl at_271_214) ?_
        refine gS (S_iaload (aI_1 h2) at_271_216) ?_
        refine gS (if_pos ⟨by omega, by omega⟩) ?_
        rw [show (hH B m).2.2 F (p : Int).toNat = φ p from h2.2 p (by omega)]
        refine gS (S_iload rfl at_271_217) ?_
        refine gS (S_if_eq at_271_219) ?_
        refine gS (if_pos (by decide)) ?_
        refine gS (S_iload rfl at_271_228) ?_
        refine gS (S_iadd at_271_230) ?_
        rw [show w32 ((φ p) + f) = X from hX]
        refine gS (S_bipush at_271_231) ?_
        refine gS (S_icmp_lt at_271_233) ?_
        refine gS (if_pos c2) ?_
        refine gS (S_iconst at_271_240) ?_
        refine gS (S_istore (l1 := [some (jR 0), some (jR 2), some (jI Q), some (jI (n : Int)), some (jI 1), some (jR A), some (jI (T : Int)), some (jI (T : Int)), some (jI e), some (jR F), some (jR U), some (jI (k : Int)), some (jI f), some (jI (p : Int)), some (jI 0), some (jI 0), none, none, none, none, none, none]) rfl at_271_241) ?_
        refine gS (S_iload rfl at_271_243) ?_
        refine gS (S_if_eq at_271_245) ?_
        refine gS (if_pos (by decide)) ?_
        refine gS (S_iinc (l1 := [some (jR 0), some (jR 2), some (jI Q), some (jI (n : Int)), some (jI 1), some (jR A), some (jI (T : Int)), some (jI (T : Int)), some (jI e), some (jR F), some (jR U), some (jI (w32 ((k : Int) + 1))), some (jI f), some (jI (p : Int)), some (jI 0), some (jI 0), none, none, none, none, none, none]) rfl rfl at_271_367) ?_
        rw [show w32 ((k : Int) + 1) = ((k + 1 : Nat) : Int) from nat1 (by omega)]
        refine gS (S_goto at_271_370) ?_
        exact K1
      · have up : ∀ b z, b < 114 → j_up m F p X b z = m b z := fun b z h => up_ne (by omega)
        have lt := sT_lt h3 (by have := lJ_hl w; omega)
        have kF := h2.1
        have nUF : U ≠ F := fun hE => by
          have a1 := h3.1
          rw [hE, kd_of kF] at a1
          cases a1
        have nVF : V ≠ F := fun hE => by
          have a1 := h3.2.2.1
          rw [hE, kd_of kF] at a1
          cases a1
        have K1 := T_2690 (Q := Q) (e := e) (f := f) (A := A) (n := n) (T := T) (F := F) (p := p) (k := k) (lJ_u w (by omega)) hbu (sT_m h3 (fun z => up_ne (by omega)) (fun z => up_ne (by omega))) h4 (by omega) (by omega) (by omega) (by omega) (fun Bn mn U1 V1 om a0 a1 a2 a3 a4 a5 a6 => K Bn mn U1 V1 _ _ (some (jI f)) (some (jI (p : Int))) (some (jI 0)) (some (jI 1)) (nL_i _) (nL_i _) (nL_i _) (nL_i _) a1 a2 (RQ_low (RQ_low r up) a3) (tF_s (less := false) (om := om) (f := f) (X := X) ⟨h1, h2, h3, h4, h5, h6, h7, h8⟩ w hk hn hpn (by omega) a0 (by rw [sv]; exact hX') (by omega) hAF a4 a5 a6))
        refine gS (S_iload rfl at_271_133) ?_
        refine gS (S_iconst at_271_135) ?_
        refine gS (S_icmp_ge at_271_136) ?_
        refine gS (if_pos (by omega)) ?_
        refine gS (S_iload rfl at_271_139) ?_
        refine gS (S_iconst at_271_141) ?_
        refine gS (S_iload rfl at_271_142) ?_
        refine gS (S_imul at_271_144) ?_
        refine gS (S_ishr at_271_145) ?_
        refine gS (S_bipush at_271_146) ?_
        refine gS (S_iand at_271_148) ?_
        rw [show j_and (j_shr e (w32 (4 * (k : Int)))) 7 = f from hf]
        refine gS (S_istore (l1 := [some (jR 0), some (jR 2), some (jI Q), some (jI (n : Int)), some (jI 1), some (jR A), some (jI (T : Int)), some (jI (T : Int)), some (jI e), some (jR F), some (jR U), some (jI (k : Int)), some (jI f), d13, d14, d15, none, none, none, none, none, none]) rfl at_271_149) ?_
        refine gS (S_iload rfl at_271_151) ?_
        refine gS (S_iconst at_271_153) ?_
        refine gS (S_iload rfl at_271_154) ?_
        refine gS (S_imul at_271_156) ?_
        refine gS (S_bipush at_271_157) ?_
        refine gS (S_iadd at_271_159) ?_
        refine gS (S_ishr at_271_160) ?_
        refine gS (S_bipush at_271_161) ?_
        refine gS (S_iand at_271_163) ?_
        rw [show j_and (j_shr e (w32 ((w32 (4 * (k : Int))) + 12))) 15 = y from hy]
        refine gS (S_iload_n rfl at_271_164) ?_
        refine gS (S_irem at_271_165) ?_
        refine gS (if_neg (by omega)) ?_
        rw [show Int.tmod y (n : Int) = (p : Int) from hp]
        refine gS (S_istore (l1 := [some (jR 0), some (jR 2), some (jI Q), some (jI (n : Int)), some (jI 1), some (jR A), some (jI (T : Int)), some (jI (T : Int)), some (jI e), some (jR F), some (jR U), some (jI (k : Int)), some (jI f), some (jI (p : Int)), d14, d15, none, none, none, none, none, none]) rfl at_271_166) ?_
        refine gS (S_iload rfl at_271_168) ?_
        refine gS (S_iconst at_271_170) ?_
        refine gS (S_iload rfl at_271_171) ?_
        refine gS (S_imul at_271_173) ?_
        refine gS (S_ishr at_271_174) ?_
        refine gS (S_bipush at_271_175) ?_
        refine gS (S_iand at_271_177) ?_
        refine gS (S_if_eq at_271_178) ?_
        refine gS (if_pos hz8) ?_
        refine gS (S_iconst at_271_185) ?_
        refine gS (S_istore (l1 := [some (jR 0), some (jR 2), some (jI Q), some (jI (n : Int)), some (jI 1), some (jR A), some (jI (T : Int)), some (jI (T : Int)), some (jI e), some (jR F), some (jR U), some (jI (k : Int)), some (jI f), some (jI (p : Int)), some (jI 0), d15, none, none, none, none, none, none]) rfl at_271_186) ?_
        refine gS (S_aload rfl at_271_188) ?_
        refine gS (S_iload rfl at_271_190) ?_
        refine gS (S_iaload (aI_1 h2) at_271_192) ?_
        refine gS (if_pos ⟨by omega, by omega⟩) ?_
        rw [show (hH B m).2.2 F (p : Int).toNat = φ p from h2.2 p (by omega)]
        refine gS (S_iload rfl at_271_193) ?_
        refine gS (S_if_eq at_271_195) ?_
        refine gS (if_pos (by decide)) ?_
        refine gS (S_iload rfl at_271_204) ?_
        refine gS (S_iadd at_271_206) ?_
        rw [show w32 ((φ p) + f) = X from hX]
        refine gS (S_bipush at_271_207) ?_
        refine gS (S_icmp_gt at_271_209) ?_
        refine gS (if_neg c1) ?_
        refine gS (S_aload rfl at_271_212) ?_
        refine gS (S_iload rfl at_271_214) ?_
        refine gS (S_iaload (aI_1 h2) at_271_216) ?_
        refine gS (if_pos ⟨by omega, by omega⟩) ?_
        rw [show (hH B m).2.2 F (p : Int).toNat = φ p from h2.2 p (by omega)]
        refine gS (S_iload rfl at_271_217) ?_
        refine gS (S_if_eq at_271_219) ?_
        refine gS (if_pos (by decide)) ?_
        refine gS (S_iload rfl at_271_228) ?_
        refine gS (S_iadd at_271_230) ?_
        rw [show w32 ((φ p) + f) = X from hX]
        refine gS (S_bipush at_271_231) ?_
        refine gS (S_icmp_lt at_271_233) ?_
        refine gS (if_neg c2) ?_
        refine gS (S_iconst at_271_236) ?_
        refine gS (S_goto at_271_237) ?_
        refine gS (S_istore (l1 := [some (jR 0), some (jR 2), some (jI Q), some (jI (n : Int)), some (jI 1), some (jR A), some (jI (T : Int)), some (jI (T : Int)), some (jI e), some (jR F), some (jR U), some (jI (k : Int)), some (jI f), some (jI (p : Int)), some (jI 0), some (jI 1), none, none, none, none, none, none]) rfl at_271_241) ?_
        refine gS (S_iload rfl at_271_243) ?_
        refine gS (S_if_eq at_271_245) ?_
        refine gS (if_neg (by decide)) ?_
        refine gS (S_aload rfl at_271_248) ?_
        refine gS (S_iload rfl at_271_250) ?_
        refine gS (S_dup2RI at_271_252) ?_
        refine gS (S_iaload (aI_1 h2) at_271_253) ?_
        refine gS (if_pos ⟨by omega, by omega⟩) ?_
        rw [show (hH B m).2.2 F (p : Int).toNat = φ p from h2.2 p (by omega)]
        refine gS (S_iload rfl at_271_254) ?_
        refine gS (S_if_eq at_271_256) ?_
        refine gS (if_pos (by decide)) ?_
        refine gS (S_iload rfl at_271_265) ?_
        refine gS (S_iadd at_271_267) ?_
        rw [show w32 ((φ p) + f) = X from hX]
        refine gS (S_iastore (by omega) (aI_1 h2) at_271_268) ?_
        refine gS (if_pos ⟨by omega, by omega⟩) ?_
        show lG Ls (j_fin (c_call 10) 271 269 [some (jR 0), some (jR 2), some (jI Q), some (jI (n : Int)), some (jI 1), some (jR A), some (jI (T : Int)), some (jI (T : Int)), some (jI e), some (jR F), some (jR U), some (jI (k : Int)), some (jI f), some (jI (p : Int)), some (jI 0), some (jI 1), none, none, none, none, none, none] [] ((hH B (j_up m F p X))))
        exact K1
  · skip
    obtain ⟨X, hX⟩ : ∃ X, w32 ((φ p) + (-f)) = X := ⟨_, rfl⟩
    have hX' : φ p + sgV true * f = X := by
      rw [← hX, w32_id (by omega) (by omega)]
      show φ p + -1 * f = _
      omega
    have sv : sgV true = -1 := rfl
    rw [sv] at hX'
    by_cases c1 : 9 < X
    · skip
      have K1 := K B m U V s φ (some (jI f)) (some (jI (p : Int))) (some (jI 1)) (some (jI 0)) (nL_i _) (nL_i _) (nL_i _) (nL_i _) rfl (lJ_w w (by omega)) r ⟨h1, h2, h3, h4, suP_w h5 (by omega), by omega, fun _ hE => (by have := suP_0 h5 hE p; omega), h8⟩
      refine gS (S_iload rfl at_271_133) ?_
      refine gS (S_iconst at_271_135) ?_
      refine gS (S_icmp_ge at_271_136) ?_
      refine gS (if_pos (by omega)) ?_
      refine gS (S_iload rfl at_271_139) ?_
      refine gS (S_iconst at_271_141) ?_
      refine gS (S_iload rfl at_271_142) ?_
      refine gS (S_imul at_271_144) ?_
      refine gS (S_ishr at_271_145) ?_
      refine gS (S_bipush at_271_146) ?_
      refine gS (S_iand at_271_148) ?_
      rw [show j_and (j_shr e (w32 (4 * (k : Int)))) 7 = f from hf]
      refine gS (S_istore (l1 := [some (jR 0), some (jR 2), some (jI Q), some (jI (n : Int)), some (jI 1), some (jR A), some (jI (T : Int)), some (jI (T : Int)), some (jI e), some (jR F), some (jR U), some (jI (k : Int)), some (jI f), d13, d14, d15, none, none, none, none, none, none]) rfl at_271_149) ?_
      refine gS (S_iload rfl at_271_151) ?_
      refine gS (S_iconst at_271_153) ?_
      refine gS (S_iload rfl at_271_154) ?_
      refine gS (S_imul at_271_156) ?_
      refine gS (S_bipush at_271_157) ?_
      refine gS (S_iadd at_271_159) ?_
      refine gS (S_ishr at_271_160) ?_
      refine gS (S_bipush at_271_161) ?_
      refine gS (S_iand at_271_163) ?_
      rw [show j_and (j_shr e (w32 ((w32 (4 * (k : Int))) + 12))) 15 = y from hy]
      refine gS (S_iload_n rfl at_271_164) ?_
      refine gS (S_irem at_271_165) ?_
      refine gS (if_neg (by omega)) ?_
      rw [show Int.tmod y (n : Int) = (p : Int) from hp]
      refine gS (S_istore (l1 := [some (jR 0), some (jR 2), some (jI Q), some (jI (n : Int)), some (jI 1), some (jR A), some (jI (T : Int)), some (jI (T : Int)), some (jI e), some (jR F), some (jR U), some (jI (k : Int)), some (jI f), some (jI (p : Int)), d14, d15, none, none, none, none, none, none]) rfl at_271_166) ?_
      refine gS (S_iload rfl at_271_168) ?_
      refine gS (S_iconst at_271_170) ?_
      refine gS (S_iload rfl at_271_171) ?_
      refine gS (S_imul at_271_173) ?_
      refine gS (S_ishr at_271_174) ?_
      refine gS (S_bipush at_271_175) ?_
      refine gS (S_iand at_271_177) ?_
      refine gS (S_if_eq at_271_178) ?_
      refine gS (if_neg hz8) ?_
      refine gS (S_iconst at_271_181) ?_
      refine gS (S_goto at_271_182) ?_
      refine gS (S_istore (l1 := [some (jR 0), some (jR 2), some (jI Q), some (jI (n : Int)), some (jI 1), some (jR A), some (jI (T : Int)), some (jI (T : Int)), some (jI e), some (jR F), some (jR U), some (jI (k : Int)), some (jI f), some (jI (p : Int)), some (jI 1), d15, none, none, none, none, none, none]) rfl at_271_186) ?_
      refine gS (S_aload rfl at_271_188) ?_
      refine gS (S_iload rfl at_271_190) ?_
      refine gS (S_iaload (aI_1 h2) at_271_192) ?_
      refine gS (if_pos ⟨by omega, by omega⟩) ?_
      rw [show (hH B m).2.2 F (p : Int).toNat = φ p from h2.2 p (by omega)]
      refine gS (S_iload rfl at_271_193) ?_
      refine gS (S_if_eq at_271_195) ?_
      refine gS (if_neg (by decide)) ?_
      refine gS (S_iload rfl at_271_198) ?_
      refine gS (S_ineg at_271_200) ?_
      rw [show w32 (-f) = -f from w32_id (by omega) (by omega)]
      refine gS (S_goto at_271_201) ?_
      refine gS (S_iadd at_271_206) ?_
      rw [show w32 ((φ p) + (-f)) = X from hX]
      refine gS (S_bipush at_271_207) ?_
      refine gS (S_icmp_gt at_271_209) ?_
      refine gS (if_pos c1) ?_
      refine gS (S_iconst at_271_240) ?_
      refine gS (S_istore (l1 := [some (jR 0), some (jR 2), some (jI Q), some (jI (n : Int)), some (jI 1), some (jR A), some (jI (T : Int)), some (jI (T : Int)), some (jI e), some (jR F), some (jR U), some (jI (k : Int)), some (jI f), some (jI (p : Int)), some (jI 1), some (jI 0), none, none, none, none, none, none]) rfl at_271_241) ?_
      refine gS (S_iload rfl at_271_243) ?_
      refine gS (S_if_eq at_271_245) ?_
      refine gS (if_pos (by decide)) ?_
      refine gS (S_iinc (l1 := [some (jR 0), some (jR 2), some (jI Q), some (jI (n : Int)), some (jI 1), some (jR A), some (jI (T : Int)), some (jI (T : Int)), some (jI e), some (jR F), some (jR U), some (jI (w32 ((k : Int) + 1))), some (jI f), some (jI (p : Int)), some (jI 1), some (jI 0), none, none, none, none, none, none]) rfl rfl at_271_367) ?_
      rw [show w32 ((k : Int) + 1) = ((k + 1 : Nat) : Int) from nat1 (by omega)]
      refine gS (S_goto at_271_370) ?_
      exact K1
    · by_cases c2 : X < -9
      · skip
        have K1 := K B m U V s φ (some (jI f)) (some (jI (p : Int))) (some (jI 1)) (some (jI 0)) (nL_i _) (nL_i _) (nL_i _) (nL_i _) rfl (lJ_w w (by omega)) r ⟨h1, h2, h3, h4, suP_w h5 (by omega), by omega, fun _ hE => (by have := suP_0 h5 hE p; omega), h8⟩
        refine gS (S_iload rfl at_271_133) ?_
        refine gS (S_iconst at_271_135) ?_
        refine gS (S_icmp_ge at_271_136) ?_
        refine gS (if_pos (by omega)) ?_
        refine gS (S_iload rfl at_271_139) ?_
        refine gS (S_iconst at_271_141) ?_
        refine gS (S_iload rfl at_271_142) ?_
        refine gS (S_imul at_271_144) ?_
        refine gS (S_ishr at_271_145) ?_
        refine gS (S_bipush at_271_146) ?_
        refine gS (S_iand at_271_148) ?_
        rw [show j_and (j_shr e (w32 (4 * (k : Int)))) 7 = f from hf]
        refine gS (S_istore (l1 := [some (jR 0), some (jR 2), some (jI Q), some (jI (n : Int)), some (jI 1), some (jR A), some (jI (T : Int)), some (jI (T : Int)), some (jI e), some (jR F), some (jR U), some (jI (k : Int)), some (jI f), d13, d14, d15, none, none, none, none, none, none]) rfl at_271_149) ?_
        refine gS (S_iload rfl at_271_151) ?_
        refine gS (S_iconst at_271_153) ?_
        refine gS (S_iload rfl at_271_154) ?_
        refine gS (S_imul at_271_156) ?_
        refine gS (S_bipush at_271_157) ?_
        refine gS (S_iadd at_271_159) ?_
        refine gS (S_ishr at_271_160) ?_
        refine gS (S_bipush at_271_161) ?_
        refine gS (S_iand at_271_163) ?_
        rw [show j_and (j_shr e (w32 ((w32 (4 * (k : Int))) + 12))) 15 = y from hy]
        refine gS (S_iload_n rfl at_271_164) ?_
        refine gS (S_irem at_271_165) ?_
        refine gS (if_neg (by omega)) ?_
        rw [show Int.tmod y (n : Int) = (p : Int) from hp]
        refine gS (S_istore (l1 := [some (jR 0), some (jR 2), some (jI Q), some (jI (n : Int)), some (jI 1), some (jR A), some (jI (T : Int)), some (jI (T : Int)), some (jI e), some (jR F), some (jR U), some (jI (k : Int)), some (jI f), some (jI (p : Int)), d14, d15, none, none, none, none, none, none]) rfl at_271_166) ?_
        refine gS (S_iload rfl at_271_168) ?_
        refine gS (S_iconst at_271_170) ?_
        refine gS (S_iload rfl at_271_171) ?_
        refine gS (S_imul at_271_173) ?_
        refine gS (S_ishr at_271_174) ?_
        refine gS (S_bipush at_271_175) ?_
        refine gS (S_iand at_271_177) ?_
        refine gS (S_if_eq at_271_178) ?_
        refine gS (if_neg hz8) ?_
        refine gS (S_iconst at_271_181) ?_
        refine gS (S_goto at_271_182) ?_
        refine gS (S_istore (l1 := [some (jR 0), some (jR 2), some (jI Q), some (jI (n : Int)), some (jI 1), some (jR A), some (jI (T : Int)), some (jI (T : Int)), some (jI e), some (jR F), some (jR U), some (jI (k : Int)), some (jI f), some (jI (p : Int)), some (jI 1), d15, none, none, none, none, none, none]) rfl at_271_186) ?_
        refine gS (S_aload rfl at_271_188) ?_
        refine gS (S_iload rfl at_271_190) ?_
        refine gS (S_iaload (aI_1 h2) at_271_192) ?_
        refine gS (if_pos ⟨by omega, by omega⟩) ?_
        rw [show (hH B m).2.2 F (p : Int).toNat = φ p from h2.2 p (by omega)]
        refine gS (S_iload rfl at_271_193) ?_
        refine gS (S_if_eq at_271_195) ?_
        refine gS (if_neg (by decide)) ?_
        refine gS (S_iload rfl at_271_198) ?_
        refine gS (S_ineg at_271_200) ?_
        rw [show w32 (-f) = -f from w32_id (by omega) (by omega)]
        refine gS (S_goto at_271_201) ?_
        refine gS (S_iadd at_271_206) ?_
        rw [show w32 ((φ p) + (-f)) = X from hX]
        refine gS (S_bipush at_271_207) ?_
        refine gS (S_icmp_gt at_271_209) ?_
        refine gS (if_neg c1) ?_
        refine gS (S_aload rfl at_271_212) ?_
        refine gS (S_iload rfl at_271_214) ?_
        refine gS (S_iaload (aI_1 h2) at_271_216) ?_
        refine gS (if_pos ⟨by omega, by omega⟩) ?_
        rw [show (hH B m).2.2 F (p : Int).toNat = φ p from h2.2 p (by omega)]
        refine gS (S_iload rfl at_271_217) ?_
        refine gS (S_if_eq at_271_219) ?_
        refine gS (if_neg (by decide)) ?_
        refine gS (S_iload rfl at_271_222) ?_
        refine gS (S_ineg at_271_224) ?_
        rw [show w32 (-f) = -f from w32_id (by omega) (by omega)]
        refine gS (S_goto at_271_225) ?_
        refine gS (S_iadd at_271_230) ?_
        rw [show w32 ((φ p) + (-f)) = X from hX]
        refine gS (S_bipush at_271_231) ?_
        refine gS (S_icmp_lt at_271_233) ?_
        refine gS (if_pos c2) ?_
        refine gS (S_iconst at_271_240) ?_
        refine gS (S_istore (l1 := [some (jR 0), some (jR 2), some (jI Q), some (jI (n : Int)), some (jI 1), some (jR A), some (jI (T : Int)), some (jI (T : Int)), some (jI e), some (jR F), some (jR U), some (jI (k : Int)), some (jI f), some (jI (p : Int)), some (jI 1), some (jI 0), none, none, none, none, none, none]) rfl at_271_241) ?_
        refine gS (S_iload rfl at_271_243) ?_
        refine gS (S_if_eq at_271_245) ?_
        refine gS (if_pos (by decide)) ?_
        refine gS (S_iinc (l1 := [some (jR 0), some (jR 2), some (jI Q), some (jI (n : Int)), some (jI 1), some (jR A), some (jI (T : Int)), some (jI (T : Int)), some (jI e), some (jR F), some (jR U), some (jI (w32 ((k : Int) + 1))), some (jI f), some (jI (p : Int)), some (jI 1), some (jI 0), none, none, none, none, none, none]) rfl rfl at_271_367) ?_
        rw [show w32 ((k : Int) + 1) = ((k + 1 : Nat) : Int) from nat1 (by omega)]
        refine gS (S_goto at_271_370) ?_
        exact K1
      · have up : ∀ b z, b < 114 → j_up m F p X b z = m b z := fun b z h => up_ne (by omega)
        have lt := sT_lt h3 (by have := lJ_hl w; omega)
        have kF := h2.1
        have nUF : U ≠ F := fun hE => by
          have a1 := h3.1
          rw [hE, kd_of kF] at a1
          cases a1
        have nVF : V ≠ F := fun hE => by
          have a1 := h3.2.2.1
          rw [hE, kd_of kF] at a1
          cases a1
        have K1 := T_2691 (Q := Q) (e := e) (f := f) (A := A) (n := n) (T := T) (F := F) (p := p) (k := k) (lJ_u w (by omega)) hbu (sT_m h3 (fun z => up_ne (by omega)) (fun z => up_ne (by omega))) h4 (by omega) (by omega) (by omega) (by omega) (fun Bn mn U1 V1 om a0 a1 a2 a3 a4 a5 a6 => K Bn mn U1 V1 _ _ (some (jI f)) (some (jI (p : Int))) (some (jI 1)) (some (jI 1)) (nL_i _) (nL_i _) (nL_i _) (nL_i _) a1 a2 (RQ_low (RQ_low r up) a3) (tF_s (less := true) (om := om) (f := f) (X := X) ⟨h1, h2, h3, h4, h5, h6, h7, h8⟩ w hk hn hpn (by omega) a0 (by rw [sv]; exact hX') (by omega) hAF a4 a5 a6))
        refine gS (S_iload rfl at_271_133) ?_
        refine gS (S_iconst at_271_135) ?_
        refine gS (S_icmp_ge at_271_136) ?_
        refine gS (if_pos (by omega)) ?_
        refine gS (S_iload rfl at_271_139) ?_
        refine gS (S_iconst at_271_141) ?_
        refine gS (S_iload rfl at_271_142) ?_
        refine gS (S_imul at_271_144) ?_
        refine gS (S_ishr at_271_145) ?_
        refine gS (S_bipush at_271_146) ?_
        refine gS (S_iand at_271_148) ?_
        rw [show j_and (j_shr e (w32 (4 * (k : Int)))) 7 = f from hf]
        refine gS (S_istore (l1 := [some (jR 0), some (jR 2), some (jI Q), some (jI (n : Int)), some (jI 1), some (jR A), some (jI (T : Int)), some (jI (T : Int)), some (jI e), some (jR F), some (jR U), some (jI (k : Int)), some (jI f), d13, d14, d15, none, none, none, none, none, none]) rfl at_271_149) ?_
        refine gS (S_iload rfl at_271_151) ?_
        refine gS (S_iconst at_271_153) ?_
        refine gS (S_iload rfl at_271_154) ?_
        refine gS (S_imul at_271_156) ?_
        refine gS (S_bipush at_271_157) ?_
        refine gS (S_iadd at_271_159) ?_
        refine gS (S_ishr at_271_160) ?_
        refine gS (S_bipush at_271_161) ?_
        refine gS (S_iand at_271_163) ?_
        rw [show j_and (j_shr e (w32 ((w32 (4 * (k : Int))) + 12))) 15 = y from hy]
        refine gS (S_iload_n rfl at_271_164) ?_
        refine gS (S_irem at_271_165) ?_
        refine gS (if_neg (by omega)) ?_
        rw [show Int.tmod y (n : Int) = (p : Int) from hp]
        refine gS (S_istore (l1 := [some (jR 0), some (jR 2), some (jI Q), some (jI (n : Int)), some (jI 1), some (jR A), some (jI (T : Int)), some (jI (T : Int)), some (jI e), some (jR F), some (jR U), some (jI (k : Int)), some (jI f), some (jI (p : Int)), d14, d15, none, none, none, none, none, none]) rfl at_271_166) ?_
        refine gS (S_iload rfl at_271_168) ?_
        refine gS (S_iconst at_271_170) ?_
        refine gS (S_iload rfl at_271_171) ?_
        refine gS (S_imul at_271_173) ?_
        refine gS (S_ishr at_271_174) ?_
        refine gS (S_bipush at_271_175) ?_
        refine gS (S_iand at_271_177) ?_
        refine gS (S_if_eq at_271_178) ?_
        refine gS (if_neg hz8) ?_
        refine gS (S_iconst at_271_181) ?_
        refine gS (S_goto at_271_182) ?_
        refine gS (S_istore (l1 := [some (jR 0), some (jR 2), some (jI Q), some (jI (n : Int)), some (jI 1), some (jR A), some (jI (T : Int)), some (jI (T : Int)), some (jI e), some (jR F), some (jR U), some (jI (k : Int)), some (jI f), some (jI (p : Int)), some (jI 1), d15, none, none, none, none, none, none]) rfl at_271_186) ?_
        refine gS (S_aload rfl at_271_188) ?_
        refine gS (S_iload rfl at_271_190) ?_
        refine gS (S_iaload (aI_1 h2) at_271_192) ?_
        refine gS (if_pos ⟨by omega, by omega⟩) ?_
        rw [show (hH B m).2.2 F (p : Int).toNat = φ p from h2.2 p (by omega)]
        refine gS (S_iload rfl at_271_193) ?_
        refine gS (S_if_eq at_271_195) ?_
        refine gS (if_neg (by decide)) ?_
        refine gS (S_iload rfl at_271_198) ?_
        refine gS (S_ineg at_271_200) ?_
        rw [show w32 (-f) = -f from w32_id (by omega) (by omega)]
        refine gS (S_goto at_271_201) ?_
        refine gS (S_iadd at_271_206) ?_
        rw [show w32 ((φ p) + (-f)) = X from hX]
        refine gS (S_bipush at_271_207) ?_
        refine gS (S_icmp_gt at_271_209) ?_
        refine gS (if_neg c1) ?_
        refine gS (S_aload rfl at_271_212) ?_
        refine gS (S_iload rfl at_271_214) ?_
        refine gS (S_iaload (aI_1 h2) at_271_216) ?_
        refine gS (if_pos ⟨by omega, by omega⟩) ?_
        rw [show (hH B m).2.2 F (p : Int).toNat = φ p from h2.2 p (by omega)]
        refine gS (S_iload rfl at_271_217) ?_
        refine gS (S_if_eq at_271_219) ?_
        refine gS (if_neg (by decide)) ?_
        refine gS (S_iload rfl at_271_222) ?_
        refine gS (S_ineg at_271_224) ?_
        rw [show w32 (-f) = -f from w32_id (by omega) (by omega)]
        refine gS (S_goto at_271_225) ?_
        refine gS (S_iadd at_271_230) ?_
        rw [show w32 ((φ p) + (-f)) = X from hX]
        refine gS (S_bipush at_271_231) ?_
        refine gS (S_icmp_lt at_271_233) ?_
        refine gS (if_neg c2) ?_
        refine gS (S_iconst at_271_236) ?_
        refine gS (S_goto at_271_237) ?_
        refine gS (S_istore (l1 := [some (jR 0), some (jR 2), some (jI Q), some (jI (n : Int)), some (jI 1), some (jR A), some (jI (T : Int)), some (jI (T : Int)), some (jI e), some (jR F), some (jR U), some (jI (k : Int)), some (jI f), some (jI (p : Int)), some (jI 1), some (jI 1), none, none, none, none, none, none]) rfl at_271_241) ?_
        refine gS (S_iload rfl at_271_243) ?_
        refine gS (S_if_eq at_271_245) ?_
        refine gS (if_neg (by decide)) ?_
        refine gS (S_aload rfl at_271_248) ?_
        refine gS (S_iload rfl at_271_250) ?_
        refine gS (S_dup2RI at_271_252) ?_
        refine gS (S_iaload (aI_1 h2) at_271_253) ?_
        refine gS (if_pos ⟨by omega, by omega⟩) ?_
        rw [show (hH B m).2.2 F (p : Int).toNat = φ p from h2.2 p (by omega)]
        refine gS (S_iload rfl at_271_254) ?_
        refine gS (S_if_eq at_271_256) ?_
        refine gS (if_neg (by decide)) ?_
        refine gS (S_iload rfl at_271_259) ?_
        refine gS (S_ineg at_271_261) ?_
        rw [show w32 (-f) = -f from w32_id (by omega) (by omega)]
        refine gS (S_goto at_271_262) ?_
        refine gS (S_iadd at_271_267) ?_
        rw [show w32 ((φ p) + (-f)) = X from hX]
        refine gS (S_iastore (by omega) (aI_1 h2) at_271_268) ?_
        refine gS (if_pos ⟨by omega, by omega⟩) ?_
        show lG Ls (j_fin (c_call 10) 271 269 [some (jR 0), some (jR 2), some (jI Q), some (jI (n : Int)), some (jI 1), some (jR A), some (jI (T : Int)), some (jI (T : Int)), some (jI e), some (jR F), some (jR U), some (jI (k : Int)), some (jI f), some (jI (p : Int)), some (jI 1), some (jI 1), none, none, none, none, none, none] [] ((hH B (j_up m F p X))))
        exact K1
theorem L_133 {Ls : Nat} {xs : Nat → Int32} {A n T F : Nat} {Q e : Int} {co : Nat → Int} {g : Nat → Int} {t : Nat → Int} (hn : 2 ≤ n ∧ n ≤ 4) (hA : 114 ≤ F ∧ F < 200000) (hAF : A ≠ F) : ∀ (j k : Nat), k + j = 3 → ∀ (B : j_B) (m : j_M0) (bu U V : Nat) (s : List Int) (φ : Nat → Int) (d12 d13 d14 d15 : Option j_V), nL d12 → nL d13 → nL d14 → nL d15 → lJ bu B m → bu ≤ 4500 + 13 * k → Rel xs g none t 0 m → tF n F A co k B m U V s φ → (∀ (Bn : j_B) (mn : j_M0) (U V : Nat) (s : List Int) (φ : Nat → Int) (d12 d13 d14 d15 : Option j_V), nL d12 → nL d13 → nL d14 → nL d15 → Bn.1 = B.1 → lJ (bu + 13 * j) Bn mn → Rel xs g none t 0 mn → tF n F A co 3 Bn mn U V s φ → lG Ls (j_fin (c_call 10) 271 373 [some (jR 0), some (jR 2), some (jI Q), some (jI (n : Int)), some (jI 1), some (jR A), some (jI (T : Int)), some (jI (T : Int)), some (jI e), some (jR F), some (jR U), some (jI (((3 : Nat) : Int))), d12, d13, d14, d15, none, none, none, none, none, none] [] (hH Bn mn))) → lG Ls (j_fin (c_call 10) 271 133 [some (jR 0), some (jR 2), some (jI Q), some (jI (n : Int)), some (jI 1), some (jR A), some (jI (T : Int)), some (jI (T : Int)), some (jI e), some (jR F), some (jR U), some (jI (k : Int)), d12, d13, d14, d15, none, none, none, none, none, none] [] (hH B m)) := by
  intro j
  induction j with
  | zero =>
    intro k hk B m bu U V s φ d12 d13 d14 d15 n12 n13 n14 n15 w hbu r h K
    obtain rfl : k = 3 := by omega
    have K1 := K B m U V s φ d12 d13 d14 d15 n12 n13 n14 n15 rfl (lJ_w w (by omega)) r h
    refine gS (S_iload rfl at_271_133) ?_
    refine gS (S_iconst at_271_135) ?_
    refine gS (S_icmp_ge at_271_136) ?_
    refine gS (if_neg (by omega)) ?_
    exact K1
  | succ j ih =>
    intro k hk B m bu U V s φ d12 d13 d14 d15 n12 n13 n14 n15 w hbu r h K
    refine T_133 hn hA hAF w (by omega) r h (by omega) (fun Bn mn U1 V1 s1 φ1 e12 e13 e14 e15 m12 m13 m14 m15 b1 w1 r1 h1 => ?_)
    refine ih (k + 1) (by omega) Bn mn (bu + 13) U1 V1 s1 φ1 e12 e13 e14 e15 m12 m13 m14 m15 w1 (by omega) r1 h1 (fun Bq mq U2 V2 s2 φ2 c12 c13 c14 c15 q12 q13 q14 q15 b2 w2 r2 h2 => ?_)
    exact K Bq mq U2 V2 s2 φ2 c12 c13 c14 c15 q12 q13 q14 q15 (b2.trans b1) (lJ_w w2 (by omega)) r2 h2
