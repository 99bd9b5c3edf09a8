/-! The law's walk, put together. -/
theorem l_goal2 : l_Goal2 := fun L xs hL => by
  obtain ⟨B, m, g, co, A, n, Q, e, b1, hA, r, w, cA, hN, hC⟩ := W_8 L xs (fun _ => 0)
  have hn := hN.1
  have G : lG L (j_fin (c_call 10) 271 8 (some (jR 0) :: some (jR 2) :: List.replicate 20 none) [] (hH (L, [], []) (b_m xs))) := by
    refine gS e ?_
    have K1 := L_105 (Ls := L) (xs := xs) (A := A) (n := n) (Q := Q) (co := co) hn hA 3 0 (by omega) B m 1 g (fun _ => 0) none none none none none none none none nL_n nL_n nL_n nL_n nL_n nL_n nL_n nL_n w (by omega) r hC cA (fun B2 m2 g2 t2 d8 d9 d10 d11 d12 d13 d14 d15 n8 n9 n10 n11 n12 n13 n14 n15 b2 w2 r2 C2 cA2 => by
      refine T_812 (Ls := L) (Q := Q) (t := t2) (d8 := d8) (d9 := d9) (d10 := d10) n8 n9 n10 n11 n12 n13 n14 n15 hN hA w2 (by omega) r2 C2 cA2 (fun B3 m3 Ka Kc g3 a c N e11 e12 e13 e14 e15 k11 k12 k13 k14 k15 b3 hKa hKc hne hN0 hN8 w3 r3 D3 cA3 cK3 cC3 o3 => ?_)
      have S3 := oS_of r3 hN D3 o3
      refine T_998 (co := co) k11 k12 k13 k14 k15 r3 o3.1 hN0 hN8 cK3 cC3 S3 (fun last best f13 j13 => ?_)
      refine T_1240 (co := co) j13 k14 k15 hn r3 D3 (fun m4 rr b W0 f15 j15 hr hb hW r4 q4 => ?_)
      refine T_1328 (co := co) j15 hn hr hb D3 hA.1 (aI_k cA3 (fun z => q4 _ z hA.1)) r4 (fun m5 E3 hE r5 q5 => ?_)
      refine T_1453 (co := co) hn D3 o3.1 hW hE r5 (fun m6 qq D r6 q6 => ?_)
      refine T_1574 (co := co) hn hr D3 r6 (fun m7 sv p hsv hs2 hp r7 q7 => ?_)
      have z0 : rwS g3 sv 0 = n := (rwS_ne (by omega) (by omega) (by omega)).trans D3.1
      have z1 : rwS g3 sv 1 = 3 := (rwS_ne (by omega) (by omega) (by omega)).trans D3.2.1
      have zc : ∀ k : Nat, k < n → rwS g3 sv (7 + k) = co k := fun k hk => (rwS_ne (by omega) (by omega) (by omega)).trans (D3.2.2.2.2 k hk)
      have z4 : rwS g3 sv 4 = 1 := rfl
      have z76 : rwS g3 sv 76 = 0 := rfl
      have z77 : rwS g3 sv 77 = sv := rfl
      have cA7 : aI (hH B3 m7) A 4 co := aI_k (aI_k (aI_k (aI_k cA3 (fun z => q4 _ z hA.1)) (fun z => q5 _ z hA.1)) (fun z => q6 _ z hA.1)) (fun z => q7 _ z hA.1)
      have r8 : Rel xs (gU (rwS g3 sv) (13 + 7 * rr) (rwS g3 sv (13 + 7 * rr))) qq t2 0 m7 := by
        rw [gU_id]
        exact r7
      refine L_1627 (co := co) (bu := 0) hn hr hA.1 hsv hs2 z0 z1 z4 z76 z77 hp 10 0 (by omega) m7 _ 0 (-5) r8 cA7 ⟨by omega, by omega⟩ (Int.zero_add _) (Or.inl ⟨rfl, rfl⟩) (fun m8 v r9 cA9 => ?_)
      exact T_1708 hN hr hA.1 (b3.trans (b2.trans b1)) w3.1 (by omega) z0 z1 zc hp cA9 r9)
    refine gS (S_iconst at_271_99) ?_
    refine gS (S_istore (l1 := [some (jR 0), some (jR 2), some (jI Q), some (jI (n : Int)), some (jI 1), some (jR A), some (jI 0), none, none, none, none, none, none, none, none, none, none, none, none, none, none, none]) rfl at_271_100) ?_
    refine gS (S_iconst at_271_102) ?_
    refine gS (S_istore (l1 := [some (jR 0), some (jR 2), some (jI Q), some (jI (n : Int)), some (jI 1), some (jR A), some (jI 0), some (jI 0), none, none, none, none, none, none, none, none, none, none, none, none, none, none]) rfl at_271_103) ?_
    exact K1
  exact G
theorem l_goal : l_Goal := l_goal_of l_goal2
