/-! The law's loop. -/
/-! The law's loop. -/
def lW (i : Nat) : j_L := [some (jR 0), some (jR 2), some (jR 109), some (jI (i : Int))]
theorem law_arg {C : Nat → List j_V → j_H → Option j_Z} {L i k p : Nat} {m : j_M0} {r : List j_V} {n : Int} (e1 : j_at 271 p = some (.aload_n 0, 0, 0, 0)) (e2 : j_at 271 (p + 1) = some (.iload_n 3, 0, 0, 0)) (e3 : j_at 271 (p + 2) = some (.iconst n, 0, 0, (k : Int))) (e4 : j_at 271 (p + 3) = some (.iadd, 0, 0, 0)) (e5 : j_at 271 (p + 4) = some (.iaload, 0, 0, 0)) (hi : i + k < L) (hL : L ≤ 3072) : j_fin C 271 p (lW i) r (hH L m) = j_fin C 271 (p + 5) (lW i) (jI (m 0 (i + k)) :: r) (hH L m) := by
  refine (S_aload_n (x := 0) rfl e1).trans ?_
  refine (S_iload_n (x := (i : Int)) rfl e2).trans ?_
  refine (S_iconst e3).trans ?_
  refine (S_iadd e4).trans ?_
  refine (S_iaload (ka_0 L m) e5).trans ?_
  rw [w32_id (x := (i : Int) + (k : Int)) (by omega) (by omega), if_pos (by omega), show ((i : Int) + (k : Int)).toNat = i + k by omega]
  rfl
theorem law_next {C : Nat → List j_V → j_H → Option j_Z} {L i : Nat} {m : j_M0} (hi : i + 6 ≤ L) (hL : L ≤ 3072) : j_fin C 271 1637 (lW i) [] (hH L m) = j_fin C 271 18 (lW (i + 6)) [] (hH L m) := by
  have e : w32 ((i : Int) + 6) = ((i + 6 : Nat) : Int) := by rw [w32_id (by omega) (by omega)]; omega
  refine (S_iinc (x := (i : Int)) (l1 := lW (i + 6)) rfl ?_ at_271_1637).trans ?_
  · rw [e]
    rfl
  · exact S_goto at_271_1640
theorem Rel_x {xs : Nat → Int32} {m : j_M0} (w : Rel xs m) (j : Nat) : iR (m 0 j) := by
  rw [w.1.1 j]
  unfold iR
  have h1 := (xs j).toInt_lt
  have h2 := (xs j).le_toInt
  omega
theorem j_lor_r (x y : Int) : -9223372036854775808 ≤ j_lor x y ∧ j_lor x y ≤ 9223372036854775807 := by
  unfold j_lor
  have h1 := (Int64.ofInt x ||| Int64.ofInt y).toInt_lt
  have h2 := (Int64.ofInt x ||| Int64.ofInt y).le_toInt
  omega
theorem cmp_self (x : Int) : j_cmp x x = 0 := by
  unfold j_cmp
  rw [if_neg (by omega), if_pos rfl]
theorem law_0 {L : Nat} {xs : Nat → Int32} {m : j_M0} {i : Nat} (w : Rel xs m) (hi : i + 6 ≤ L) (hL : L ≤ 3072) : ∃ m', j_fin (c_call 10) 271 236 (lW i) [] (hH L m) = j_fin (c_call 10) 271 18 (lW (i + 6)) [] (hH L m') ∧ Rel xs m' := by
  obtain ⟨x, m1, m2, h1, h2, h0, w2⟩ := PA_i (PA88 (L := L) w (m 0 (i + 1))) (by first | exact Or.inl rfl | exact Or.inr rfl)
  refine ⟨m2, ?_, w2⟩
  refine (S_aload_n (x := 2) rfl at_271_236).trans ?_
  refine (law_arg (k := 1) at_271_237 at_271_238 at_271_239 at_271_240 at_271_241 (by omega) hL).trans ?_
  refine (S_invv (A := 2) (r := []) kn_88 rfl (ka_2 L m) (by decide) at_271_242).trans ?_
  show ((c_call 10 88 [jR 2, jI (m 0 (i + 1))] (hH L m)).bind _) = _
  rw [h1]
  show j_fin (c_call 10) 271 245 (lW i) [jI x] (hH L m1) = _
  refine (S_aload_n (x := 109) rfl at_271_245).trans ?_
  refine (law_arg (k := 1) at_271_246 at_271_247 at_271_248 at_271_249 at_271_250 (by omega) hL).trans ?_
  refine (S_invv (A := 109) (r := [jI x]) kn_159 rfl (ka_109 L m1) (Nat.le_of_ble_eq_true rfl) at_271_251).trans ?_
  show ((c_call 10 159 [jR 109, jI (m1 0 (i + 1))] (hH L m1)).bind _) = _
  rw [h0, h2]
  show j_fin (c_call 10) 271 254 (lW i) [jI x, jI x] (hH L m2) = _
  refine (S_icmp_eq at_271_254).trans ?_
  rw [if_pos rfl]
  exact law_next hi hL
theorem law_1 {L : Nat} {xs : Nat → Int32} {m : j_M0} {i : Nat} (w : Rel xs m) (hi : i + 6 ≤ L) (hL : L ≤ 3072) : ∃ m', j_fin (c_call 10) 271 259 (lW i) [] (hH L m) = j_fin (c_call 10) 271 18 (lW (i + 6)) [] (hH L m') ∧ Rel xs m' := by
  obtain ⟨x, m1, m2, h1, h2, h0, w2⟩ := PA_i (PA89 (L := L) w (m 0 (i + 1)) (m 0 (i + 2))) (by first | exact Or.inl rfl | exact Or.inr rfl)
  refine ⟨m2, ?_, w2⟩
  refine (S_aload_n (x := 2) rfl at_271_259).trans ?_
  refine (law_arg (k := 1) at_271_260 at_271_261 at_271_262 at_271_263 at_271_264 (by omega) hL).trans ?_
  refine (law_arg (k := 2) at_271_265 at_271_266 at_271_267 at_271_268 at_271_269 (by omega) hL).trans ?_
  refine (S_invv (A := 2) (r := []) kn_89 rfl (ka_2 L m) (by decide) at_271_270).trans ?_
  show ((c_call 10 89 [jR 2, jI (m 0 (i + 1)), jI (m 0 (i + 2))] (hH L m)).bind _) = _
  rw [h1]
  show j_fin (c_call 10) 271 273 (lW i) [jI x] (hH L m1) = _
  refine (S_aload_n (x := 109) rfl at_271_273).trans ?_
  refine (law_arg (k := 1) at_271_274 at_271_275 at_271_276 at_271_277 at_271_278 (by omega) hL).trans ?_
  refine (law_arg (k := 2) at_271_279 at_271_280 at_271_281 at_271_282 at_271_283 (by omega) hL).trans ?_
  refine (S_invv (A := 109) (r := [jI x]) kn_160 rfl (ka_109 L m1) (Nat.le_of_ble_eq_true rfl) at_271_284).trans ?_
  show ((c_call 10 160 [jR 109, jI (m1 0 (i + 1)), jI (m1 0 (i + 2))] (hH L m1)).bind _) = _
  rw [h0, h2]
  show j_fin (c_call 10) 271 287 (lW i) [jI x, jI x] (hH L m2) = _
  refine (S_icmp_eq at_271_287).trans ?_
  rw [if_pos rfl]
  exact law_next hi hL
theorem law_2 {L : Nat} {xs : Nat → Int32} {m : j_M0} {i : Nat} (w : Rel xs m) (hi : i + 6 ≤ L) (hL : L ≤ 3072) : ∃ m', j_fin (c_call 10) 271 292 (lW i) [] (hH L m) = j_fin (c_call 10) 271 18 (lW (i + 6)) [] (hH L m') ∧ Rel xs m' := by
  obtain ⟨x, m1, m2, h1, h2, h0, w2⟩ := PA_i (PA90 (L := L) w (m 0 (i + 1)) (m 0 (i + 2))) (by first | exact Or.inl rfl | exact Or.inr rfl)
  refine ⟨m2, ?_, w2⟩
  refine (S_aload_n (x := 2) rfl at_271_292).trans ?_
  refine (law_arg (k := 1) at_271_293 at_271_294 at_271_295 at_271_296 at_271_297 (by omega) hL).trans ?_
  refine (law_arg (k := 2) at_271_298 at_271_299 at_271_300 at_271_301 at_271_302 (by omega) hL).trans ?_
  refine (S_invv (A := 2) (r := []) kn_90 rfl (ka_2 L m) (by decide) at_271_303).trans ?_
  show ((c_call 10 90 [jR 2, jI (m 0 (i + 1)), jI (m 0 (i + 2))] (hH L m)).bind _) = _
  rw [h1]
  show j_fin (c_call 10) 271 306 (lW i) [jI x] (hH L m1) = _
  refine (S_aload_n (x := 109) rfl at_271_306).trans ?_
  refine (law_arg (k := 1) at_271_307 at_271_308 at_271_309 at_271_310 at_271_311 (by omega) hL).trans ?_
  refine (law_arg (k := 2) at_271_312 at_271_313 at_271_314 at_271_315 at_271_316 (by omega) hL).trans ?_
  refine (S_invv (A := 109) (r := [jI x]) kn_162 rfl (ka_109 L m1) (Nat.le_of_ble_eq_true rfl) at_271_317).trans ?_
  show ((c_call 10 162 [jR 109, jI (m1 0 (i + 1)), jI (m1 0 (i + 2))] (hH L m1)).bind _) = _
  rw [h0, h2]
  show j_fin (c_call 10) 271 320 (lW i) [jI x, jI x] (hH L m2) = _
  refine (S_icmp_eq at_271_320).trans ?_
  rw [if_pos rfl]
  exact law_next hi hL
theorem law_3 {L : Nat} {xs : Nat → Int32} {m : j_M0} {i : Nat} (w : Rel xs m) (hi : i + 6 ≤ L) (hL : L ≤ 3072) : ∃ m', j_fin (c_call 10) 271 325 (lW i) [] (hH L m) = j_fin (c_call 10) 271 18 (lW (i + 6)) [] (hH L m') ∧ Rel xs m' := by
  obtain ⟨x, m1, m2, h1, h2, h0, w2⟩ := PA_i (PA91 (L := L) w (m 0 (i + 1)) (m 0 (i + 2)) (m 0 (i + 3))) (by first | exact Or.inl rfl | exact Or.inr rfl)
  refine ⟨m2, ?_, w2⟩
  refine (S_aload_n (x := 2) rfl at_271_325).trans ?_
  refine (law_arg (k := 1) at_271_326 at_271_327 at_271_328 at_271_329 at_271_330 (by omega) hL).trans ?_
  refine (law_arg (k := 2) at_271_331 at_271_332 at_271_333 at_271_334 at_271_335 (by omega) hL).trans ?_
  refine (law_arg (k := 3) at_271_336 at_271_337 at_271_338 at_271_339 at_271_340 (by omega) hL).trans ?_
  refine (S_invv (A := 2) (r := []) kn_91 rfl (ka_2 L m) (by decide) at_271_341).trans ?_
  show ((c_call 10 91 [jR 2, jI (m 0 (i + 1)), jI (m 0 (i + 2)), jI (m 0 (i + 3))] (hH L m)).bind _) = _
  rw [h1]
  show j_fin (c_call 10) 271 344 (lW i) [jI x] (hH L m1) = _
  refine (S_aload_n (x := 109) rfl at_271_344).trans ?_
  refine (law_arg (k := 1) at_271_345 at_271_346 at_271_347 at_271_348 at_271_349 (by omega) hL).trans ?_
  refine (law_arg (k := 2) at_271_350 at_271_351 at_271_352 at_271_353 at_271_354 (by omega) hL).trans ?_
  refine (law_arg (k := 3) at_271_355 at_271_356 at_271_357 at_271_358 at_271_359 (by omega) hL).trans ?_
  refine (S_invv (A := 109) (r := [jI x]) kn_163 rfl (ka_109 L m1) (Nat.le_of_ble_eq_true rfl) at_271_360).trans ?_
  show ((c_call 10 163 [jR 109, jI (m1 0 (i + 1)), jI (m1 0 (i + 2)), jI (m1 0 (i + 3))] (hH L m1)).bind _) = _
  rw [h0, h2]
  show j_fin (c_call 10) 271 363 (lW i) [jI x, jI x] (hH L m2) = _
  refine (S_icmp_eq at_271_363).trans ?_
  rw [if_pos rfl]
  exact law_next hi hL
theorem law_4 {L : Nat} {xs : Nat → Int32} {m : j_M0} {i : Nat} (w : Rel xs m) (hi : i + 6 ≤ L) (hL : L ≤ 3072) : ∃ m', j_fin (c_call 10) 271 368 (lW i) [] (hH L m) = j_fin (c_call 10) 271 18 (lW (i + 6)) [] (hH L m') ∧ Rel xs m' := by
  obtain ⟨x, m1, m2, h1, h2, h0, w2⟩ := PA_i (PA92 (L := L) w (m 0 (i + 1)) (m 0 (i + 2))) (by first | exact Or.inl rfl | exact Or.inr rfl)
  refine ⟨m2, ?_, w2⟩
  refine (S_aload_n (x := 2) rfl at_271_368).trans ?_
  refine (law_arg (k := 1) at_271_369 at_271_370 at_271_371 at_271_372 at_271_373 (by omega) hL).trans ?_
  refine (law_arg (k := 2) at_271_374 at_271_375 at_271_376 at_271_377 at_271_378 (by omega) hL).trans ?_
  refine (S_invv (A := 2) (r := []) kn_92 rfl (ka_2 L m) (by decide) at_271_379).trans ?_
  show ((c_call 10 92 [jR 2, jI (m 0 (i + 1)), jI (m 0 (i + 2))] (hH L m)).bind _) = _
  rw [h1]
  show j_fin (c_call 10) 271 382 (lW i) [jI x] (hH L m1) = _
  refine (S_aload_n (x := 109) rfl at_271_382).trans ?_
  refine (law_arg (k := 1) at_271_383 at_271_384 at_271_385 at_271_386 at_271_387 (by omega) hL).trans ?_
  refine (law_arg (k := 2) at_271_388 at_271_389 at_271_390 at_271_391 at_271_392 (by omega) hL).trans ?_
  refine (S_invv (A := 109) (r := [jI x]) kn_164 rfl (ka_109 L m1) (Nat.le_of_ble_eq_true rfl) at_271_393).trans ?_
  show ((c_call 10 164 [jR 109, jI (m1 0 (i + 1)), jI (m1 0 (i + 2))] (hH L m1)).bind _) = _
  rw [h0, h2]
  show j_fin (c_call 10) 271 396 (lW i) [jI x, jI x] (hH L m2) = _
  refine (S_icmp_eq at_271_396).trans ?_
  rw [if_pos rfl]
  exact law_next hi hL
theorem law_5 {L : Nat} {xs : Nat → Int32} {m : j_M0} {i : Nat} (w : Rel xs m) (hi : i + 6 ≤ L) (hL : L ≤ 3072) : ∃ m', j_fin (c_call 10) 271 401 (lW i) [] (hH L m) = j_fin (c_call 10) 271 18 (lW (i + 6)) [] (hH L m') ∧ Rel xs m' := by
  obtain ⟨x, m1, m2, h1, h2, h0, w2⟩ := PA_i (PA93 (L := L) w) (by first | exact Or.inl rfl | exact Or.inr rfl)
  refine ⟨m2, ?_, w2⟩
  refine (S_aload_n (x := 2) rfl at_271_401).trans ?_
  refine (S_invv (A := 2) (r := []) kn_93 rfl (ka_2 L m) (by decide) at_271_402).trans ?_
  show ((c_call 10 93 [jR 2] (hH L m)).bind _) = _
  rw [h1]
  show j_fin (c_call 10) 271 405 (lW i) [jI x] (hH L m1) = _
  refine (S_aload_n (x := 109) rfl at_271_405).trans ?_
  refine (S_invv (A := 109) (r := [jI x]) kn_165 rfl (ka_109 L m1) (Nat.le_of_ble_eq_true rfl) at_271_406).trans ?_
  show ((c_call 10 165 [jR 109] (hH L m1)).bind _) = _
  rw [h2]
  show j_fin (c_call 10) 271 409 (lW i) [jI x, jI x] (hH L m2) = _
  refine (S_icmp_eq at_271_409).trans ?_
  rw [if_pos rfl]
  exact law_next hi hL
theorem law_6 {L : Nat} {xs : Nat → Int32} {m : j_M0} {i : Nat} (w : Rel xs m) (hi : i + 6 ≤ L) (hL : L ≤ 3072) : ∃ m', j_fin (c_call 10) 271 414 (lW i) [] (hH L m) = j_fin (c_call 10) 271 18 (lW (i + 6)) [] (hH L m') ∧ Rel xs m' := by
  obtain ⟨x, m1, m2, h1, h2, h0, w2⟩ := PA_i (PA94 (L := L) w (m 0 (i + 1))) (by first | exact Or.inl rfl | exact Or.inr rfl)
  refine ⟨m2, ?_, w2⟩
  refine (S_aload_n (x := 2) rfl at_271_414).trans ?_
  refine (law_arg (k := 1) at_271_415 at_271_416 at_271_417 at_271_418 at_271_419 (by omega) hL).trans ?_
  refine (S_invv (A := 2) (r := []) kn_94 rfl (ka_2 L m) (by decide) at_271_420).trans ?_
  show ((c_call 10 94 [jR 2, jI (m 0 (i + 1))] (hH L m)).bind _) = _
  rw [h1]
  show j_fin (c_call 10) 271 423 (lW i) [jI x] (hH L m1) = _
  refine (S_aload_n (x := 109) rfl at_271_423).trans ?_
  refine (law_arg (k := 1) at_271_424 at_271_425 at_271_426 at_271_427 at_271_428 (by omega) hL).trans ?_
  refine (S_invv (A := 109) (r := [jI x]) kn_167 rfl (ka_109 L m1) (Nat.le_of_ble_eq_true rfl) at_271_429).trans ?_
  show ((c_call 10 167 [jR 109, jI (m1 0 (i + 1))] (hH L m1)).bind _) = _
  rw [h0, h2]
  show j_fin (c_call 10) 271 432 (lW i) [jI x, jI x] (hH L m2) = _
  refine (S_icmp_eq at_271_432).trans ?_
  rw [if_pos rfl]
  exact law_next hi hL
theorem law_7 {L : Nat} {xs : Nat → Int32} {m : j_M0} {i : Nat} (w : Rel xs m) (hi : i + 6 ≤ L) (hL : L ≤ 3072) : ∃ m', j_fin (c_call 10) 271 437 (lW i) [] (hH L m) = j_fin (c_call 10) 271 18 (lW (i + 6)) [] (hH L m') ∧ Rel xs m' := by
  obtain ⟨x, m1, m2, h1, h2, h0, w2⟩ := PA_i (PA95 (L := L) w) (by first | exact Or.inl rfl | exact Or.inr rfl)
  refine ⟨m2, ?_, w2⟩
  refine (S_aload_n (x := 2) rfl at_271_437).trans ?_
  refine (S_invv (A := 2) (r := []) kn_95 rfl (ka_2 L m) (by decide) at_271_438).trans ?_
  show ((c_call 10 95 [jR 2] (hH L m)).bind _) = _
  rw [h1]
  show j_fin (c_call 10) 271 441 (lW i) [jI x] (hH L m1) = _
  refine (S_aload_n (x := 109) rfl at_271_441).trans ?_
  refine (S_invv (A := 109) (r := [jI x]) kn_176 rfl (ka_109 L m1) (Nat.le_of_ble_eq_true rfl) at_271_442).trans ?_
  show ((c_call 10 176 [jR 109] (hH L m1)).bind _) = _
  rw [h2]
  show j_fin (c_call 10) 271 445 (lW i) [jI x, jI x] (hH L m2) = _
  refine (S_icmp_eq at_271_445).trans ?_
  rw [if_pos rfl]
  exact law_next hi hL
theorem law_8 {L : Nat} {xs : Nat → Int32} {m : j_M0} {i : Nat} (w : Rel xs m) (hi : i + 6 ≤ L) (hL : L ≤ 3072) : ∃ m', j_fin (c_call 10) 271 450 (lW i) [] (hH L m) = j_fin (c_call 10) 271 18 (lW (i + 6)) [] (hH L m') ∧ Rel xs m' := by
  obtain ⟨x, m1, m2, h1, h2, h0, w2⟩ := PA_i (PA96 (L := L) w (m 0 (i + 1)) (m 0 (i + 2))) (by first | exact Or.inl rfl | exact Or.inr rfl)
  refine ⟨m2, ?_, w2⟩
  refine (S_aload_n (x := 2) rfl at_271_450).trans ?_
  refine (law_arg (k := 1) at_271_451 at_271_452 at_271_453 at_271_454 at_271_455 (by omega) hL).trans ?_
  refine (law_arg (k := 2) at_271_456 at_271_457 at_271_458 at_271_459 at_271_460 (by omega) hL).trans ?_
  refine (S_invv (A := 2) (r := []) kn_96 rfl (ka_2 L m) (by decide) at_271_461).trans ?_
  show ((c_call 10 96 [jR 2, jI (m 0 (i + 1)), jI (m 0 (i + 2))] (hH L m)).bind _) = _
  rw [h1]
  show j_fin (c_call 10) 271 464 (lW i) [jI x] (hH L m1) = _
  refine (S_aload_n (x := 109) rfl at_271_464).trans ?_
  refine (law_arg (k := 1) at_271_465 at_271_466 at_271_467 at_271_468 at_271_469 (by omega) hL).trans ?_
  refine (law_arg (k := 2) at_271_470 at_271_471 at_271_472 at_271_473 at_271_474 (by omega) hL).trans ?_
  refine (S_invv (A := 109) (r := [jI x]) kn_166 rfl (ka_109 L m1) (Nat.le_of_ble_eq_true rfl) at_271_475).trans ?_
  show ((c_call 10 166 [jR 109, jI (m1 0 (i + 1)), jI (m1 0 (i + 2))] (hH L m1)).bind _) = _
  rw [h0, h2]
  show j_fin (c_call 10) 271 478 (lW i) [jI x, jI x] (hH L m2) = _
  refine (S_icmp_eq at_271_478).trans ?_
  rw [if_pos rfl]
  exact law_next hi hL
theorem law_9 {L : Nat} {xs : Nat → Int32} {m : j_M0} {i : Nat} (w : Rel xs m) (hi : i + 6 ≤ L) (hL : L ≤ 3072) : ∃ m', j_fin (c_call 10) 271 483 (lW i) [] (hH L m) = j_fin (c_call 10) 271 18 (lW (i + 6)) [] (hH L m') ∧ Rel xs m' := by
  obtain ⟨x, m1, m2, h1, h2, h0, w2⟩ := PA_i (PA97 (L := L) w (m 0 (i + 1))) (by first | exact Or.inl rfl | exact Or.inr rfl)
  refine ⟨m2, ?_, w2⟩
  refine (S_aload_n (x := 2) rfl at_271_483).trans ?_
  refine (law_arg (k := 1) at_271_484 at_271_485 at_271_486 at_271_487 at_271_488 (by omega) hL).trans ?_
  refine (S_invv (A := 2) (r := []) kn_97 rfl (ka_2 L m) (by decide) at_271_489).trans ?_
  show ((c_call 10 97 [jR 2, jI (m 0 (i + 1))] (hH L m)).bind _) = _
  rw [h1]
  show j_fin (c_call 10) 271 492 (lW i) [jI x] (hH L m1) = _
  refine (S_aload_n (x := 109) rfl at_271_492).trans ?_
  refine (law_arg (k := 1) at_271_493 at_271_494 at_271_495 at_271_496 at_271_497 (by omega) hL).trans ?_
  refine (S_invv (A := 109) (r := [jI x]) kn_193 rfl (ka_109 L m1) (Nat.le_of_ble_eq_true rfl) at_271_498).trans ?_
  show ((c_call 10 193 [jR 109, jI (m1 0 (i + 1))] (hH L m1)).bind _) = _
  rw [h0, h2]
  show j_fin (c_call 10) 271 501 (lW i) [jI x, jI x] (hH L m2) = _
  refine (S_icmp_eq at_271_501).trans ?_
  rw [if_pos rfl]
  exact law_next hi hL
theorem law_10 {L : Nat} {xs : Nat → Int32} {m : j_M0} {i : Nat} (w : Rel xs m) (hi : i + 6 ≤ L) (hL : L ≤ 3072) : ∃ m', j_fin (c_call 10) 271 506 (lW i) [] (hH L m) = j_fin (c_call 10) 271 18 (lW (i + 6)) [] (hH L m') ∧ Rel xs m' := by
  obtain ⟨x, m1, m2, h1, h2, h0, w2⟩ := PA_l (PA98 (L := L) w (m 0 (i + 1)) (m 0 (i + 2))) rfl
  refine ⟨m2, ?_, w2⟩
  refine (S_aload_n (x := 2) rfl at_271_506).trans ?_
  refine (law_arg (k := 1) at_271_507 at_271_508 at_271_509 at_271_510 at_271_511 (by omega) hL).trans ?_
  refine (law_arg (k := 2) at_271_512 at_271_513 at_271_514 at_271_515 at_271_516 (by omega) hL).trans ?_
  refine (S_invv (A := 2) (r := []) kn_98 rfl (ka_2 L m) (by decide) at_271_517).trans ?_
  show ((c_call 10 98 [jR 2, jI (m 0 (i + 1)), jI (m 0 (i + 2))] (hH L m)).bind _) = _
  rw [h1]
  show j_fin (c_call 10) 271 520 (lW i) [jL x] (hH L m1) = _
  refine (S_aload_n (x := 109) rfl at_271_520).trans ?_
  refine (law_arg (k := 1) at_271_521 at_271_522 at_271_523 at_271_524 at_271_525 (by omega) hL).trans ?_
  refine (law_arg (k := 2) at_271_526 at_271_527 at_271_528 at_271_529 at_271_530 (by omega) hL).trans ?_
  refine (S_invv (A := 109) (r := [jL x]) kn_194 rfl (ka_109 L m1) (Nat.le_of_ble_eq_true rfl) at_271_531).trans ?_
  show ((c_call 10 194 [jR 109, jI (m1 0 (i + 1)), jI (m1 0 (i + 2))] (hH L m1)).bind _) = _
  rw [h0, h2]
  show j_fin (c_call 10) 271 534 (lW i) [jL x, jL x] (hH L m2) = _
  refine (S_lcmp at_271_534).trans ?_
  refine (S_if_eq at_271_535).trans ?_
  rw [if_pos (cmp_self x)]
  exact law_next hi hL
theorem law_11 {L : Nat} {xs : Nat → Int32} {m : j_M0} {i : Nat} (w : Rel xs m) (hi : i + 6 ≤ L) (hL : L ≤ 3072) : ∃ m', j_fin (c_call 10) 271 540 (lW i) [] (hH L m) = j_fin (c_call 10) 271 18 (lW (i + 6)) [] (hH L m') ∧ Rel xs m' := by
  obtain ⟨x, m1, m2, h1, h2, h0, w2⟩ := PA_l (PA99 (L := L) w (m 0 (i + 1)) (m 0 (i + 2))) rfl
  refine ⟨m2, ?_, w2⟩
  refine (S_aload_n (x := 2) rfl at_271_540).trans ?_
  refine (law_arg (k := 1) at_271_541 at_271_542 at_271_543 at_271_544 at_271_545 (by omega) hL).trans ?_
  refine (law_arg (k := 2) at_271_546 at_271_547 at_271_548 at_271_549 at_271_550 (by omega) hL).trans ?_
  refine (S_invv (A := 2) (r := []) kn_99 rfl (ka_2 L m) (by decide) at_271_551).trans ?_
  show ((c_call 10 99 [jR 2, jI (m 0 (i + 1)), jI (m 0 (i + 2))] (hH L m)).bind _) = _
  rw [h1]
  show j_fin (c_call 10) 271 554 (lW i) [jL x] (hH L m1) = _
  refine (S_aload_n (x := 109) rfl at_271_554).trans ?_
  refine (law_arg (k := 1) at_271_555 at_271_556 at_271_557 at_271_558 at_271_559 (by omega) hL).trans ?_
  refine (law_arg (k := 2) at_271_560 at_271_561 at_271_562 at_271_563 at_271_564 (by omega) hL).trans ?_
  refine (S_invv (A := 109) (r := [jL x]) kn_198 rfl (ka_109 L m1) (Nat.le_of_ble_eq_true rfl) at_271_565).trans ?_
  show ((c_call 10 198 [jR 109, jI (m1 0 (i + 1)), jI (m1 0 (i + 2))] (hH L m1)).bind _) = _
  rw [h0, h2]
  show j_fin (c_call 10) 271 568 (lW i) [jL x, jL x] (hH L m2) = _
  refine (S_lcmp at_271_568).trans ?_
  refine (S_if_eq at_271_569).trans ?_
  rw [if_pos (cmp_self x)]
  exact law_next hi hL
theorem law_12 {L : Nat} {xs : Nat → Int32} {m : j_M0} {i : Nat} (w : Rel xs m) (hi : i + 6 ≤ L) (hL : L ≤ 3072) : ∃ m', j_fin (c_call 10) 271 574 (lW i) [] (hH L m) = j_fin (c_call 10) 271 18 (lW (i + 6)) [] (hH L m') ∧ Rel xs m' := by
  obtain ⟨x, m1, m2, h1, h2, h0, w2⟩ := PA_l (PA100 (L := L) w (m 0 (i + 1))) rfl
  refine ⟨m2, ?_, w2⟩
  refine (S_aload_n (x := 2) rfl at_271_574).trans ?_
  refine (law_arg (k := 1) at_271_575 at_271_576 at_271_577 at_271_578 at_271_579 (by omega) hL).trans ?_
  refine (S_invv (A := 2) (r := []) kn_100 rfl (ka_2 L m) (by decide) at_271_580).trans ?_
  show ((c_call 10 100 [jR 2, jI (m 0 (i + 1))] (hH L m)).bind _) = _
  rw [h1]
  show j_fin (c_call 10) 271 583 (lW i) [jL x] (hH L m1) = _
  refine (S_aload_n (x := 109) rfl at_271_583).trans ?_
  refine (law_arg (k := 1) at_271_584 at_271_585 at_271_586 at_271_587 at_271_588 (by omega) hL).trans ?_
  refine (S_invv (A := 109) (r := [jL x]) kn_199 rfl (ka_109 L m1) (Nat.le_of_ble_eq_true rfl) at_271_589).trans ?_
  show ((c_call 10 199 [jR 109, jI (m1 0 (i + 1))] (hH L m1)).bind _) = _
  rw [h0, h2]
  show j_fin (c_call 10) 271 592 (lW i) [jL x, jL x] (hH L m2) = _
  refine (S_lcmp at_271_592).trans ?_
  refine (S_if_eq at_271_593).trans ?_
  rw [if_pos (cmp_self x)]
  exact law_next hi hL
theorem law_13 {L : Nat} {xs : Nat → Int32} {m : j_M0} {i : Nat} (w : Rel xs m) (hi : i + 6 ≤ L) (hL : L ≤ 3072) : ∃ m', j_fin (c_call 10) 271 598 (lW i) [] (hH L m) = j_fin (c_call 10) 271 18 (lW (i + 6)) [] (hH L m') ∧ Rel xs m' := by
  obtain ⟨x, m1, m2, h1, h2, h0, w2⟩ := PA_l (PA101 (L := L) w (m 0 (i + 1)) (m 0 (i + 2))) rfl
  refine ⟨m2, ?_, w2⟩
  refine (S_aload_n (x := 2) rfl at_271_598).trans ?_
  refine (law_arg (k := 1) at_271_599 at_271_600 at_271_601 at_271_602 at_271_603 (by omega) hL).trans ?_
  refine (law_arg (k := 2) at_271_604 at_271_605 at_271_606 at_271_607 at_271_608 (by omega) hL).trans ?_
  refine (S_invv (A := 2) (r := []) kn_101 rfl (ka_2 L m) (by decide) at_271_609).trans ?_
  show ((c_call 10 101 [jR 2, jI (m 0 (i + 1)), jI (m 0 (i + 2))] (hH L m)).bind _) = _
  rw [h1]
  show j_fin (c_call 10) 271 612 (lW i) [jL x] (hH L m1) = _
  refine (S_aload_n (x := 109) rfl at_271_612).trans ?_
  refine (law_arg (k := 1) at_271_613 at_271_614 at_271_615 at_271_616 at_271_617 (by omega) hL).trans ?_
  refine (law_arg (k := 2) at_271_618 at_271_619 at_271_620 at_271_621 at_271_622 (by omega) hL).trans ?_
  refine (S_invv (A := 109) (r := [jL x]) kn_200 rfl (ka_109 L m1) (Nat.le_of_ble_eq_true rfl) at_271_623).trans ?_
  show ((c_call 10 200 [jR 109, jI (m1 0 (i + 1)), jI (m1 0 (i + 2))] (hH L m1)).bind _) = _
  rw [h0, h2]
  show j_fin (c_call 10) 271 626 (lW i) [jL x, jL x] (hH L m2) = _
  refine (S_lcmp at_271_626).trans ?_
  refine (S_if_eq at_271_627).trans ?_
  rw [if_pos (cmp_self x)]
  exact law_next hi hL
theorem law_14 {L : Nat} {xs : Nat → Int32} {m : j_M0} {i : Nat} (w : Rel xs m) (hi : i + 6 ≤ L) (hL : L ≤ 3072) : ∃ m', j_fin (c_call 10) 271 632 (lW i) [] (hH L m) = j_fin (c_call 10) 271 18 (lW (i + 6)) [] (hH L m') ∧ Rel xs m' := by
  obtain ⟨x, m1, m2, h1, h2, h0, w2⟩ := PA_l (PA102 (L := L) w (m 0 (i + 1)) (m 0 (i + 2))) rfl
  refine ⟨m2, ?_, w2⟩
  refine (S_aload_n (x := 2) rfl at_271_632).trans ?_
  refine (law_arg (k := 1) at_271_633 at_271_634 at_271_635 at_271_636 at_271_637 (by omega) hL).trans ?_
  refine (law_arg (k := 2) at_271_638 at_271_639 at_271_640 at_271_641 at_271_642 (by omega) hL).trans ?_
  refine (S_invv (A := 2) (r := []) kn_102 rfl (ka_2 L m) (by decide) at_271_643).trans ?_
  show ((c_call 10 102 [jR 2, jI (m 0 (i + 1)), jI (m 0 (i + 2))] (hH L m)).bind _) = _
  rw [h1]
  show j_fin (c_call 10) 271 646 (lW i) [jL x] (hH L m1) = _
  refine (S_aload_n (x := 109) rfl at_271_646).trans ?_
  refine (law_arg (k := 1) at_271_647 at_271_648 at_271_649 at_271_650 at_271_651 (by omega) hL).trans ?_
  refine (law_arg (k := 2) at_271_652 at_271_653 at_271_654 at_271_655 at_271_656 (by omega) hL).trans ?_
  refine (S_invv (A := 109) (r := [jL x]) kn_202 rfl (ka_109 L m1) (Nat.le_of_ble_eq_true rfl) at_271_657).trans ?_
  show ((c_call 10 202 [jR 109, jI (m1 0 (i + 1)), jI (m1 0 (i + 2))] (hH L m1)).bind _) = _
  rw [h0, h2]
  show j_fin (c_call 10) 271 660 (lW i) [jL x, jL x] (hH L m2) = _
  refine (S_lcmp at_271_660).trans ?_
  refine (S_if_eq at_271_661).trans ?_
  rw [if_pos (cmp_self x)]
  exact law_next hi hL
theorem law_15 {L : Nat} {xs : Nat → Int32} {m : j_M0} {i : Nat} (w : Rel xs m) (hi : i + 6 ≤ L) (hL : L ≤ 3072) : ∃ m', j_fin (c_call 10) 271 666 (lW i) [] (hH L m) = j_fin (c_call 10) 271 18 (lW (i + 6)) [] (hH L m') ∧ Rel xs m' := by
  obtain ⟨x, m1, m2, h1, h2, h0, w2⟩ := PA_l (PA103 (L := L) w (m 0 (i + 1)) (m 0 (i + 2)) (m 0 (i + 3)) (Rel_x w _)) rfl
  refine ⟨m2, ?_, w2⟩
  refine (S_aload_n (x := 2) rfl at_271_666).trans ?_
  refine (law_arg (k := 1) at_271_667 at_271_668 at_271_669 at_271_670 at_271_671 (by omega) hL).trans ?_
  refine (law_arg (k := 2) at_271_672 at_271_673 at_271_674 at_271_675 at_271_676 (by omega) hL).trans ?_
  refine (law_arg (k := 3) at_271_677 at_271_678 at_271_679 at_271_680 at_271_681 (by omega) hL).trans ?_
  refine (S_invv (A := 2) (r := []) kn_103 rfl (ka_2 L m) (by decide) at_271_682).trans ?_
  show ((c_call 10 103 [jR 2, jI (m 0 (i + 1)), jI (m 0 (i + 2)), jI (m 0 (i + 3))] (hH L m)).bind _) = _
  rw [h1]
  show j_fin (c_call 10) 271 685 (lW i) [jL x] (hH L m1) = _
  refine (S_aload_n (x := 109) rfl at_271_685).trans ?_
  refine (law_arg (k := 1) at_271_686 at_271_687 at_271_688 at_271_689 at_271_690 (by omega) hL).trans ?_
  refine (law_arg (k := 2) at_271_691 at_271_692 at_271_693 at_271_694 at_271_695 (by omega) hL).trans ?_
  refine (law_arg (k := 3) at_271_696 at_271_697 at_271_698 at_271_699 at_271_700 (by omega) hL).trans ?_
  refine (S_invv (A := 109) (r := [jL x]) kn_203 rfl (ka_109 L m1) (Nat.le_of_ble_eq_true rfl) at_271_701).trans ?_
  show ((c_call 10 203 [jR 109, jI (m1 0 (i + 1)), jI (m1 0 (i + 2)), jI (m1 0 (i + 3))] (hH L m1)).bind _) = _
  rw [h0, h2]
  show j_fin (c_call 10) 271 704 (lW i) [jL x, jL x] (hH L m2) = _
  refine (S_lcmp at_271_704).trans ?_
  refine (S_if_eq at_271_705).trans ?_
  rw [if_pos (cmp_self x)]
  exact law_next hi hL
theorem law_16 {L : Nat} {xs : Nat → Int32} {m : j_M0} {i : Nat} (w : Rel xs m) (hi : i + 6 ≤ L) (hL : L ≤ 3072) : ∃ m', j_fin (c_call 10) 271 710 (lW i) [] (hH L m) = j_fin (c_call 10) 271 18 (lW (i + 6)) [] (hH L m') ∧ Rel xs m' := by
  obtain ⟨x, m1, m2, h1, h2, h0, w2⟩ := PA_i (PA104 (L := L) w (m 0 (i + 1))) (by first | exact Or.inl rfl | exact Or.inr rfl)
  refine ⟨m2, ?_, w2⟩
  refine (S_aload_n (x := 2) rfl at_271_710).trans ?_
  refine (law_arg (k := 1) at_271_711 at_271_712 at_271_713 at_271_714 at_271_715 (by omega) hL).trans ?_
  refine (S_invv (A := 2) (r := []) kn_104 rfl (ka_2 L m) (by decide) at_271_716).trans ?_
  show ((c_call 10 104 [jR 2, jI (m 0 (i + 1))] (hH L m)).bind _) = _
  rw [h1]
  show j_fin (c_call 10) 271 719 (lW i) [jI x] (hH L m1) = _
  refine (S_aload_n (x := 109) rfl at_271_719).trans ?_
  refine (law_arg (k := 1) at_271_720 at_271_721 at_271_722 at_271_723 at_271_724 (by omega) hL).trans ?_
  refine (S_invv (A := 109) (r := [jI x]) kn_205 rfl (ka_109 L m1) (Nat.le_of_ble_eq_true rfl) at_271_725).trans ?_
  show ((c_call 10 205 [jR 109, jI (m1 0 (i + 1))] (hH L m1)).bind _) = _
  rw [h0, h2]
  show j_fin (c_call 10) 271 728 (lW i) [jI x, jI x] (hH L m2) = _
  refine (S_icmp_eq at_271_728).trans ?_
  rw [if_pos rfl]
  exact law_next hi hL
theorem law_17 {L : Nat} {xs : Nat → Int32} {m : j_M0} {i : Nat} (w : Rel xs m) (hi : i + 6 ≤ L) (hL : L ≤ 3072) : ∃ m', j_fin (c_call 10) 271 733 (lW i) [] (hH L m) = j_fin (c_call 10) 271 18 (lW (i + 6)) [] (hH L m') ∧ Rel xs m' := by
  obtain ⟨x, m1, m2, h1, h2, h0, w2⟩ := PA_i (PA105 (L := L) w (m 0 (i + 1)) (m 0 (i + 2))) (by first | exact Or.inl rfl | exact Or.inr rfl)
  refine ⟨m2, ?_, w2⟩
  refine (S_aload_n (x := 2) rfl at_271_733).trans ?_
  refine (law_arg (k := 1) at_271_734 at_271_735 at_271_736 at_271_737 at_271_738 (by omega) hL).trans ?_
  refine (law_arg (k := 2) at_271_739 at_271_740 at_271_741 at_271_742 at_271_743 (by omega) hL).trans ?_
  refine (S_invv (A := 2) (r := []) kn_105 rfl (ka_2 L m) (by decide) at_271_744).trans ?_
  show ((c_call 10 105 [jR 2, jI (m 0 (i + 1)), jI (m 0 (i + 2))] (hH L m)).bind _) = _
  rw [h1]
  show j_fin (c_call 10) 271 747 (lW i) [jI x] (hH L m1) = _
  refine (S_aload_n (x := 109) rfl at_271_747).trans ?_
  refine (law_arg (k := 1) at_271_748 at_271_749 at_271_750 at_271_751 at_271_752 (by omega) hL).trans ?_
  refine (law_arg (k := 2) at_271_753 at_271_754 at_271_755 at_271_756 at_271_757 (by omega) hL).trans ?_
  refine (S_invv (A := 109) (r := [jI x]) kn_206 rfl (ka_109 L m1) (Nat.le_of_ble_eq_true rfl) at_271_758).trans ?_
  show ((c_call 10 206 [jR 109, jI (m1 0 (i + 1)), jI (m1 0 (i + 2))] (hH L m1)).bind _) = _
  rw [h0, h2]
  show j_fin (c_call 10) 271 761 (lW i) [jI x, jI x] (hH L m2) = _
  refine (S_icmp_eq at_271_761).trans ?_
  rw [if_pos rfl]
  exact law_next hi hL
theorem law_18 {L : Nat} {xs : Nat → Int32} {m : j_M0} {i : Nat} (w : Rel xs m) (hi : i + 6 ≤ L) (hL : L ≤ 3072) : ∃ m', j_fin (c_call 10) 271 766 (lW i) [] (hH L m) = j_fin (c_call 10) 271 18 (lW (i + 6)) [] (hH L m') ∧ Rel xs m' := by
  obtain ⟨x, m1, m2, h1, h2, h0, w2⟩ := PA_i (PA106 (L := L) w (m 0 (i + 1))) (by first | exact Or.inl rfl | exact Or.inr rfl)
  refine ⟨m2, ?_, w2⟩
  refine (S_aload_n (x := 2) rfl at_271_766).trans ?_
  refine (law_arg (k := 1) at_271_767 at_271_768 at_271_769 at_271_770 at_271_771 (by omega) hL).trans ?_
  refine (S_invv (A := 2) (r := []) kn_106 rfl (ka_2 L m) (by decide) at_271_772).trans ?_
  show ((c_call 10 106 [jR 2, jI (m 0 (i + 1))] (hH L m)).bind _) = _
  rw [h1]
  show j_fin (c_call 10) 271 775 (lW i) [jI x] (hH L m1) = _
  refine (S_aload_n (x := 109) rfl at_271_775).trans ?_
  refine (law_arg (k := 1) at_271_776 at_271_777 at_271_778 at_271_779 at_271_780 (by omega) hL).trans ?_
  refine (S_invv (A := 109) (r := [jI x]) kn_207 rfl (ka_109 L m1) (Nat.le_of_ble_eq_true rfl) at_271_781).trans ?_
  show ((c_call 10 207 [jR 109, jI (m1 0 (i + 1))] (hH L m1)).bind _) = _
  rw [h0, h2]
  show j_fin (c_call 10) 271 784 (lW i) [jI x, jI x] (hH L m2) = _
  refine (S_icmp_eq at_271_784).trans ?_
  rw [if_pos rfl]
  exact law_next hi hL
theorem law_19 {L : Nat} {xs : Nat → Int32} {m : j_M0} {i : Nat} (w : Rel xs m) (hi : i + 6 ≤ L) (hL : L ≤ 3072) : ∃ m', j_fin (c_call 10) 271 789 (lW i) [] (hH L m) = j_fin (c_call 10) 271 18 (lW (i + 6)) [] (hH L m') ∧ Rel xs m' := by
  obtain ⟨x, m1, m2, h1, h2, h0, w2⟩ := PA_l (PA107 (L := L) w (m 0 (i + 1))) rfl
  refine ⟨m2, ?_, w2⟩
  refine (S_aload_n (x := 2) rfl at_271_789).trans ?_
  refine (law_arg (k := 1) at_271_790 at_271_791 at_271_792 at_271_793 at_271_794 (by omega) hL).trans ?_
  refine (S_invv (A := 2) (r := []) kn_107 rfl (ka_2 L m) (by decide) at_271_795).trans ?_
  show ((c_call 10 107 [jR 2, jI (m 0 (i + 1))] (hH L m)).bind _) = _
  rw [h1]
  show j_fin (c_call 10) 271 798 (lW i) [jL x] (hH L m1) = _
  refine (S_aload_n (x := 109) rfl at_271_798).trans ?_
  refine (law_arg (k := 1) at_271_799 at_271_800 at_271_801 at_271_802 at_271_803 (by omega) hL).trans ?_
  refine (S_invv (A := 109) (r := [jL x]) kn_208 rfl (ka_109 L m1) (Nat.le_of_ble_eq_true rfl) at_271_804).trans ?_
  show ((c_call 10 208 [jR 109, jI (m1 0 (i + 1))] (hH L m1)).bind _) = _
  rw [h0, h2]
  show j_fin (c_call 10) 271 807 (lW i) [jL x, jL x] (hH L m2) = _
  refine (S_lcmp at_271_807).trans ?_
  refine (S_if_eq at_271_808).trans ?_
  rw [if_pos (cmp_self x)]
  exact law_next hi hL
theorem law_20 {L : Nat} {xs : Nat → Int32} {m : j_M0} {i : Nat} (w : Rel xs m) (hi : i + 6 ≤ L) (hL : L ≤ 3072) : ∃ m', j_fin (c_call 10) 271 813 (lW i) [] (hH L m) = j_fin (c_call 10) 271 18 (lW (i + 6)) [] (hH L m') ∧ Rel xs m' := by
  obtain ⟨x, m1, m2, h1, h2, h0, w2⟩ := PA_i (PA108 (L := L) w) (by first | exact Or.inl rfl | exact Or.inr rfl)
  refine ⟨m2, ?_, w2⟩
  refine (S_aload_n (x := 2) rfl at_271_813).trans ?_
  refine (S_invv (A := 2) (r := []) kn_108 rfl (ka_2 L m) (by decide) at_271_814).trans ?_
  show ((c_call 10 108 [jR 2] (hH L m)).bind _) = _
  rw [h1]
  show j_fin (c_call 10) 271 817 (lW i) [jI x] (hH L m1) = _
  refine (S_aload_n (x := 109) rfl at_271_817).trans ?_
  refine (S_invv (A := 109) (r := [jI x]) kn_209 rfl (ka_109 L m1) (Nat.le_of_ble_eq_true rfl) at_271_818).trans ?_
  show ((c_call 10 209 [jR 109] (hH L m1)).bind _) = _
  rw [h2]
  show j_fin (c_call 10) 271 821 (lW i) [jI x, jI x] (hH L m2) = _
  refine (S_icmp_eq at_271_821).trans ?_
  rw [if_pos rfl]
  exact law_next hi hL
theorem law_21 {L : Nat} {xs : Nat → Int32} {m : j_M0} {i : Nat} (w : Rel xs m) (hi : i + 6 ≤ L) (hL : L ≤ 3072) : ∃ m', j_fin (c_call 10) 271 826 (lW i) [] (hH L m) = j_fin (c_call 10) 271 18 (lW (i + 6)) [] (hH L m') ∧ Rel xs m' := by
  obtain ⟨x, m1, m2, h1, h2, h0, w2⟩ := PA_i (PA109 (L := L) w (m 0 (i + 1))) (by first | exact Or.inl rfl | exact Or.inr rfl)
  refine ⟨m2, ?_, w2⟩
  refine (S_aload_n (x := 2) rfl at_271_826).trans ?_
  refine (law_arg (k := 1) at_271_827 at_271_828 at_271_829 at_271_830 at_271_831 (by omega) hL).trans ?_
  refine (S_invv (A := 2) (r := []) kn_109 rfl (ka_2 L m) (by decide) at_271_832).trans ?_
  show ((c_call 10 109 [jR 2, jI (m 0 (i + 1))] (hH L m)).bind _) = _
  rw [h1]
  show j_fin (c_call 10) 271 835 (lW i) [jI x] (hH L m1) = _
  refine (S_aload_n (x := 109) rfl at_271_835).trans ?_
  refine (law_arg (k := 1) at_271_836 at_271_837 at_271_838 at_271_839 at_271_840 (by omega) hL).trans ?_
  refine (S_invv (A := 109) (r := [jI x]) kn_217 rfl (ka_109 L m1) (Nat.le_of_ble_eq_true rfl) at_271_841).trans ?_
  show ((c_call 10 217 [jR 109, jI (m1 0 (i + 1))] (hH L m1)).bind _) = _
  rw [h0, h2]
  show j_fin (c_call 10) 271 844 (lW i) [jI x, jI x] (hH L m2) = _
  refine (S_icmp_eq at_271_844).trans ?_
  rw [if_pos rfl]
  exact law_next hi hL
theorem law_22 {L : Nat} {xs : Nat → Int32} {m : j_M0} {i : Nat} (w : Rel xs m) (hi : i + 6 ≤ L) (hL : L ≤ 3072) : ∃ m', j_fin (c_call 10) 271 849 (lW i) [] (hH L m) = j_fin (c_call 10) 271 18 (lW (i + 6)) [] (hH L m') ∧ Rel xs m' := by
  obtain ⟨x, m1, m2, h1, h2, h0, w2⟩ := PA_i (PA110 (L := L) w (m 0 (i + 1))) (by first | exact Or.inl rfl | exact Or.inr rfl)
  refine ⟨m2, ?_, w2⟩
  refine (S_aload_n (x := 2) rfl at_271_849).trans ?_
  refine (law_arg (k := 1) at_271_850 at_271_851 at_271_852 at_271_853 at_271_854 (by omega) hL).trans ?_
  refine (S_invv (A := 2) (r := []) kn_110 rfl (ka_2 L m) (by decide) at_271_855).trans ?_
  show ((c_call 10 110 [jR 2, jI (m 0 (i + 1))] (hH L m)).bind _) = _
  rw [h1]
  show j_fin (c_call 10) 271 858 (lW i) [jI x] (hH L m1) = _
  refine (S_aload_n (x := 109) rfl at_271_858).trans ?_
  refine (law_arg (k := 1) at_271_859 at_271_860 at_271_861 at_271_862 at_271_863 (by omega) hL).trans ?_
  refine (S_invv (A := 109) (r := [jI x]) kn_218 rfl (ka_109 L m1) (Nat.le_of_ble_eq_true rfl) at_271_864).trans ?_
  show ((c_call 10 218 [jR 109, jI (m1 0 (i + 1))] (hH L m1)).bind _) = _
  rw [h0, h2]
  show j_fin (c_call 10) 271 867 (lW i) [jI x, jI x] (hH L m2) = _
  refine (S_icmp_eq at_271_867).trans ?_
  rw [if_pos rfl]
  exact law_next hi hL
theorem law_23 {L : Nat} {xs : Nat → Int32} {m : j_M0} {i : Nat} (w : Rel xs m) (hi : i + 6 ≤ L) (hL : L ≤ 3072) : ∃ m', j_fin (c_call 10) 271 872 (lW i) [] (hH L m) = j_fin (c_call 10) 271 18 (lW (i + 6)) [] (hH L m') ∧ Rel xs m' := by
  obtain ⟨x, m1, m2, h1, h2, h0, w2⟩ := PA_i (PA111 (L := L) w (m 0 (i + 1))) (by first | exact Or.inl rfl | exact Or.inr rfl)
  refine ⟨m2, ?_, w2⟩
  refine (S_aload_n (x := 2) rfl at_271_872).trans ?_
  refine (law_arg (k := 1) at_271_873 at_271_874 at_271_875 at_271_876 at_271_877 (by omega) hL).trans ?_
  refine (S_invv (A := 2) (r := []) kn_111 rfl (ka_2 L m) (by decide) at_271_878).trans ?_
  show ((c_call 10 111 [jR 2, jI (m 0 (i + 1))] (hH L m)).bind _) = _
  rw [h1]
  show j_fin (c_call 10) 271 881 (lW i) [jI x] (hH L m1) = _
  refine (S_aload_n (x := 109) rfl at_271_881).trans ?_
  refine (law_arg (k := 1) at_271_882 at_271_883 at_271_884 at_271_885 at_271_886 (by omega) hL).trans ?_
  refine (S_invv (A := 109) (r := [jI x]) kn_219 rfl (ka_109 L m1) (Nat.le_of_ble_eq_true rfl) at_271_887).trans ?_
  show ((c_call 10 219 [jR 109, jI (m1 0 (i + 1))] (hH L m1)).bind _) = _
  rw [h0, h2]
  show j_fin (c_call 10) 271 890 (lW i) [jI x, jI x] (hH L m2) = _
  refine (S_icmp_eq at_271_890).trans ?_
  rw [if_pos rfl]
  exact law_next hi hL
theorem law_24 {L : Nat} {xs : Nat → Int32} {m : j_M0} {i : Nat} (w : Rel xs m) (hi : i + 6 ≤ L) (hL : L ≤ 3072) : ∃ m', j_fin (c_call 10) 271 895 (lW i) [] (hH L m) = j_fin (c_call 10) 271 18 (lW (i + 6)) [] (hH L m') ∧ Rel xs m' := by
  obtain ⟨x, m1, m2, h1, h2, h0, w2⟩ := PA_i (PA112 (L := L) w (m 0 (i + 1))) (by first | exact Or.inl rfl | exact Or.inr rfl)
  refine ⟨m2, ?_, w2⟩
  refine (S_aload_n (x := 2) rfl at_271_895).trans ?_
  refine (law_arg (k := 1) at_271_896 at_271_897 at_271_898 at_271_899 at_271_900 (by omega) hL).trans ?_
  refine (S_invv (A := 2) (r := []) kn_112 rfl (ka_2 L m) (by decide) at_271_901).trans ?_
  show ((c_call 10 112 [jR 2, jI (m 0 (i + 1))] (hH L m)).bind _) = _
  rw [h1]
  show j_fin (c_call 10) 271 904 (lW i) [jI x] (hH L m1) = _
  refine (S_aload_n (x := 109) rfl at_271_904).trans ?_
  refine (law_arg (k := 1) at_271_905 at_271_906 at_271_907 at_271_908 at_271_909 (by omega) hL).trans ?_
  refine (S_invv (A := 109) (r := [jI x]) kn_220 rfl (ka_109 L m1) (Nat.le_of_ble_eq_true rfl) at_271_910).trans ?_
  show ((c_call 10 220 [jR 109, jI (m1 0 (i + 1))] (hH L m1)).bind _) = _
  rw [h0, h2]
  show j_fin (c_call 10) 271 913 (lW i) [jI x, jI x] (hH L m2) = _
  refine (S_icmp_eq at_271_913).trans ?_
  rw [if_pos rfl]
  exact law_next hi hL
theorem law_25 {L : Nat} {xs : Nat → Int32} {m : j_M0} {i : Nat} (w : Rel xs m) (hi : i + 6 ≤ L) (hL : L ≤ 3072) : ∃ m', j_fin (c_call 10) 271 918 (lW i) [] (hH L m) = j_fin (c_call 10) 271 18 (lW (i + 6)) [] (hH L m') ∧ Rel xs m' := by
  obtain ⟨x, m1, m2, h1, h2, h0, w2⟩ := PA_i (PA113 (L := L) w (m 0 (i + 1))) (by first | exact Or.inl rfl | exact Or.inr rfl)
  refine ⟨m2, ?_, w2⟩
  refine (S_aload_n (x := 2) rfl at_271_918).trans ?_
  refine (law_arg (k := 1) at_271_919 at_271_920 at_271_921 at_271_922 at_271_923 (by omega) hL).trans ?_
  refine (S_invv (A := 2) (r := []) kn_113 rfl (ka_2 L m) (by decide) at_271_924).trans ?_
  show ((c_call 10 113 [jR 2, jI (m 0 (i + 1))] (hH L m)).bind _) = _
  rw [h1]
  show j_fin (c_call 10) 271 927 (lW i) [jI x] (hH L m1) = _
  refine (S_aload_n (x := 109) rfl at_271_927).trans ?_
  refine (law_arg (k := 1) at_271_928 at_271_929 at_271_930 at_271_931 at_271_932 (by omega) hL).trans ?_
  refine (S_invv (A := 109) (r := [jI x]) kn_222 rfl (ka_109 L m1) (Nat.le_of_ble_eq_true rfl) at_271_933).trans ?_
  show ((c_call 10 222 [jR 109, jI (m1 0 (i + 1))] (hH L m1)).bind _) = _
  rw [h0, h2]
  show j_fin (c_call 10) 271 936 (lW i) [jI x, jI x] (hH L m2) = _
  refine (S_icmp_eq at_271_936).trans ?_
  rw [if_pos rfl]
  exact law_next hi hL
theorem law_26 {L : Nat} {xs : Nat → Int32} {m : j_M0} {i : Nat} (w : Rel xs m) (hi : i + 6 ≤ L) (hL : L ≤ 3072) : ∃ m', j_fin (c_call 10) 271 941 (lW i) [] (hH L m) = j_fin (c_call 10) 271 18 (lW (i + 6)) [] (hH L m') ∧ Rel xs m' := by
  obtain ⟨x, m1, m2, h1, h2, h0, w2⟩ := PA_i (PA114 (L := L) w (m 0 (i + 1))) (by first | exact Or.inl rfl | exact Or.inr rfl)
  refine ⟨m2, ?_, w2⟩
  refine (S_aload_n (x := 2) rfl at_271_941).trans ?_
  refine (law_arg (k := 1) at_271_942 at_271_943 at_271_944 at_271_945 at_271_946 (by omega) hL).trans ?_
  refine (S_invv (A := 2) (r := []) kn_114 rfl (ka_2 L m) (by decide) at_271_947).trans ?_
  show ((c_call 10 114 [jR 2, jI (m 0 (i + 1))] (hH L m)).bind _) = _
  rw [h1]
  show j_fin (c_call 10) 271 950 (lW i) [jI x] (hH L m1) = _
  refine (S_aload_n (x := 109) rfl at_271_950).trans ?_
  refine (law_arg (k := 1) at_271_951 at_271_952 at_271_953 at_271_954 at_271_955 (by omega) hL).trans ?_
  refine (S_invv (A := 109) (r := [jI x]) kn_229 rfl (ka_109 L m1) (Nat.le_of_ble_eq_true rfl) at_271_956).trans ?_
  show ((c_call 10 229 [jR 109, jI (m1 0 (i + 1))] (hH L m1)).bind _) = _
  rw [h0, h2]
  show j_fin (c_call 10) 271 959 (lW i) [jI x, jI x] (hH L m2) = _
  refine (S_icmp_eq at_271_959).trans ?_
  rw [if_pos rfl]
  exact law_next hi hL
theorem law_27 {L : Nat} {xs : Nat → Int32} {m : j_M0} {i : Nat} (w : Rel xs m) (hi : i + 6 ≤ L) (hL : L ≤ 3072) : ∃ m', j_fin (c_call 10) 271 964 (lW i) [] (hH L m) = j_fin (c_call 10) 271 18 (lW (i + 6)) [] (hH L m') ∧ Rel xs m' := by
  obtain ⟨x, m1, m2, h1, h2, h0, w2⟩ := PA_i (PA115 (L := L) w (m 0 (i + 1)) (m 0 (i + 2))) (by first | exact Or.inl rfl | exact Or.inr rfl)
  refine ⟨m2, ?_, w2⟩
  refine (S_aload_n (x := 2) rfl at_271_964).trans ?_
  refine (law_arg (k := 1) at_271_965 at_271_966 at_271_967 at_271_968 at_271_969 (by omega) hL).trans ?_
  refine (law_arg (k := 2) at_271_970 at_271_971 at_271_972 at_271_973 at_271_974 (by omega) hL).trans ?_
  refine (S_invv (A := 2) (r := []) kn_115 rfl (ka_2 L m) (by decide) at_271_975).trans ?_
  show ((c_call 10 115 [jR 2, jI (m 0 (i + 1)), jI (m 0 (i + 2))] (hH L m)).bind _) = _
  rw [h1]
  show j_fin (c_call 10) 271 978 (lW i) [jI x] (hH L m1) = _
  refine (S_aload_n (x := 109) rfl at_271_978).trans ?_
  refine (law_arg (k := 1) at_271_979 at_271_980 at_271_981 at_271_982 at_271_983 (by omega) hL).trans ?_
  refine (law_arg (k := 2) at_271_984 at_271_985 at_271_986 at_271_987 at_271_988 (by omega) hL).trans ?_
  refine (S_invv (A := 109) (r := [jI x]) kn_231 rfl (ka_109 L m1) (Nat.le_of_ble_eq_true rfl) at_271_989).trans ?_
  show ((c_call 10 231 [jR 109, jI (m1 0 (i + 1)), jI (m1 0 (i + 2))] (hH L m1)).bind _) = _
  rw [h0, h2]
  show j_fin (c_call 10) 271 992 (lW i) [jI x, jI x] (hH L m2) = _
  refine (S_icmp_eq at_271_992).trans ?_
  rw [if_pos rfl]
  exact law_next hi hL
theorem law_28 {L : Nat} {xs : Nat → Int32} {m : j_M0} {i : Nat} (w : Rel xs m) (hi : i + 6 ≤ L) (hL : L ≤ 3072) : ∃ m', j_fin (c_call 10) 271 997 (lW i) [] (hH L m) = j_fin (c_call 10) 271 18 (lW (i + 6)) [] (hH L m') ∧ Rel xs m' := by
  obtain ⟨x, m1, m2, h1, h2, h0, w2⟩ := PA_i (PA116 (L := L) w (m 0 (i + 1)) (m 0 (i + 2))) (by first | exact Or.inl rfl | exact Or.inr rfl)
  refine ⟨m2, ?_, w2⟩
  refine (S_aload_n (x := 2) rfl at_271_997).trans ?_
  refine (law_arg (k := 1) at_271_998 at_271_999 at_271_1000 at_271_1001 at_271_1002 (by omega) hL).trans ?_
  refine (law_arg (k := 2) at_271_1003 at_271_1004 at_271_1005 at_271_1006 at_271_1007 (by omega) hL).trans ?_
  refine (S_invv (A := 2) (r := []) kn_116 rfl (ka_2 L m) (by decide) at_271_1008).trans ?_
  show ((c_call 10 116 [jR 2, jI (m 0 (i + 1)), jI (m 0 (i + 2))] (hH L m)).bind _) = _
  rw [h1]
  show j_fin (c_call 10) 271 1011 (lW i) [jI x] (hH L m1) = _
  refine (S_aload_n (x := 109) rfl at_271_1011).trans ?_
  refine (law_arg (k := 1) at_271_1012 at_271_1013 at_271_1014 at_271_1015 at_271_1016 (by omega) hL).trans ?_
  refine (law_arg (k := 2) at_271_1017 at_271_1018 at_271_1019 at_271_1020 at_271_1021 (by omega) hL).trans ?_
  refine (S_invv (A := 109) (r := [jI x]) kn_232 rfl (ka_109 L m1) (Nat.le_of_ble_eq_true rfl) at_271_1022).trans ?_
  show ((c_call 10 232 [jR 109, jI (m1 0 (i + 1)), jI (m1 0 (i + 2))] (hH L m1)).bind _) = _
  rw [h0, h2]
  show j_fin (c_call 10) 271 1025 (lW i) [jI x, jI x] (hH L m2) = _
  refine (S_icmp_eq at_271_1025).trans ?_
  rw [if_pos rfl]
  exact law_next hi hL
theorem law_29 {L : Nat} {xs : Nat → Int32} {m : j_M0} {i : Nat} (w : Rel xs m) (hi : i + 6 ≤ L) (hL : L ≤ 3072) : ∃ m', j_fin (c_call 10) 271 1030 (lW i) [] (hH L m) = j_fin (c_call 10) 271 18 (lW (i + 6)) [] (hH L m') ∧ Rel xs m' := by
  obtain ⟨x, m1, m2, h1, h2, h0, w2⟩ := PA_i (PA117 (L := L) w (m 0 (i + 1)) (m 0 (i + 2))) (by first | exact Or.inl rfl | exact Or.inr rfl)
  refine ⟨m2, ?_, w2⟩
  refine (S_aload_n (x := 2) rfl at_271_1030).trans ?_
  refine (law_arg (k := 1) at_271_1031 at_271_1032 at_271_1033 at_271_1034 at_271_1035 (by omega) hL).trans ?_
  refine (law_arg (k := 2) at_271_1036 at_271_1037 at_271_1038 at_271_1039 at_271_1040 (by omega) hL).trans ?_
  refine (S_invv (A := 2) (r := []) kn_117 rfl (ka_2 L m) (by decide) at_271_1041).trans ?_
  show ((c_call 10 117 [jR 2, jI (m 0 (i + 1)), jI (m 0 (i + 2))] (hH L m)).bind _) = _
  rw [h1]
  show j_fin (c_call 10) 271 1044 (lW i) [jI x] (hH L m1) = _
  refine (S_aload_n (x := 109) rfl at_271_1044).trans ?_
  refine (law_arg (k := 1) at_271_1045 at_271_1046 at_271_1047 at_271_1048 at_271_1049 (by omega) hL).trans ?_
  refine (law_arg (k := 2) at_271_1050 at_271_1051 at_271_1052 at_271_1053 at_271_1054 (by omega) hL).trans ?_
  refine (S_invv (A := 109) (r := [jI x]) kn_234 rfl (ka_109 L m1) (Nat.le_of_ble_eq_true rfl) at_271_1055).trans ?_
  show ((c_call 10 234 [jR 109, jI (m1 0 (i + 1)), jI (m1 0 (i + 2))] (hH L m1)).bind _) = _
  rw [h0, h2]
  show j_fin (c_call 10) 271 1058 (lW i) [jI x, jI x] (hH L m2) = _
  refine (S_icmp_eq at_271_1058).trans ?_
  rw [if_pos rfl]
  exact law_next hi hL
theorem law_30 {L : Nat} {xs : Nat → Int32} {m : j_M0} {i : Nat} (w : Rel xs m) (hi : i + 6 ≤ L) (hL : L ≤ 3072) : ∃ m', j_fin (c_call 10) 271 1063 (lW i) [] (hH L m) = j_fin (c_call 10) 271 18 (lW (i + 6)) [] (hH L m') ∧ Rel xs m' := by
  obtain ⟨x, m1, m2, h1, h2, h0, w2⟩ := PA_l (PA118 (L := L) w (m 0 (i + 1)) (m 0 (i + 2)) (m 0 (i + 3)) (m 0 (i + 4)) (m 0 (i + 5)) (Rel_x w _) (Rel_x w _)) rfl
  refine ⟨m2, ?_, w2⟩
  refine (S_aload_n (x := 2) rfl at_271_1063).trans ?_
  refine (law_arg (k := 1) at_271_1064 at_271_1065 at_271_1066 at_271_1067 at_271_1068 (by omega) hL).trans ?_
  refine (law_arg (k := 2) at_271_1069 at_271_1070 at_271_1071 at_271_1072 at_271_1073 (by omega) hL).trans ?_
  refine (law_arg (k := 3) at_271_1074 at_271_1075 at_271_1076 at_271_1077 at_271_1078 (by omega) hL).trans ?_
  refine (law_arg (k := 4) at_271_1079 at_271_1080 at_271_1081 at_271_1082 at_271_1083 (by omega) hL).trans ?_
  refine (law_arg (k := 5) at_271_1084 at_271_1085 at_271_1086 at_271_1087 at_271_1088 (by omega) hL).trans ?_
  refine (S_invv (A := 2) (r := []) kn_118 rfl (ka_2 L m) (by decide) at_271_1089).trans ?_
  show ((c_call 10 118 [jR 2, jI (m 0 (i + 1)), jI (m 0 (i + 2)), jI (m 0 (i + 3)), jI (m 0 (i + 4)), jI (m 0 (i + 5))] (hH L m)).bind _) = _
  rw [h1]
  show j_fin (c_call 10) 271 1092 (lW i) [jL x] (hH L m1) = _
  refine (S_aload_n (x := 109) rfl at_271_1092).trans ?_
  refine (law_arg (k := 1) at_271_1093 at_271_1094 at_271_1095 at_271_1096 at_271_1097 (by omega) hL).trans ?_
  refine (law_arg (k := 2) at_271_1098 at_271_1099 at_271_1100 at_271_1101 at_271_1102 (by omega) hL).trans ?_
  refine (law_arg (k := 3) at_271_1103 at_271_1104 at_271_1105 at_271_1106 at_271_1107 (by omega) hL).trans ?_
  refine (law_arg (k := 4) at_271_1108 at_271_1109 at_271_1110 at_271_1111 at_271_1112 (by omega) hL).trans ?_
  refine (law_arg (k := 5) at_271_1113 at_271_1114 at_271_1115 at_271_1116 at_271_1117 (by omega) hL).trans ?_
  refine (S_invv (A := 109) (r := [jL x]) kn_235 rfl (ka_109 L m1) (Nat.le_of_ble_eq_true rfl) at_271_1118).trans ?_
  show ((c_call 10 235 [jR 109, jI (m1 0 (i + 1)), jI (m1 0 (i + 2)), jI (m1 0 (i + 3)), jI (m1 0 (i + 4)), jI (m1 0 (i + 5))] (hH L m1)).bind _) = _
  rw [h0, h2]
  show j_fin (c_call 10) 271 1121 (lW i) [jL x, jL x] (hH L m2) = _
  refine (S_lcmp at_271_1121).trans ?_
  refine (S_if_eq at_271_1122).trans ?_
  rw [if_pos (cmp_self x)]
  exact law_next hi hL
theorem law_31 {L : Nat} {xs : Nat → Int32} {m : j_M0} {i : Nat} (w : Rel xs m) (hi : i + 6 ≤ L) (hL : L ≤ 3072) : ∃ m', j_fin (c_call 10) 271 1127 (lW i) [] (hH L m) = j_fin (c_call 10) 271 18 (lW (i + 6)) [] (hH L m') ∧ Rel xs m' := by
  obtain ⟨x, m1, m2, h1, h2, h0, w2⟩ := PA_l (PA119 (L := L) w (m 0 (i + 1))) rfl
  refine ⟨m2, ?_, w2⟩
  refine (S_aload_n (x := 2) rfl at_271_1127).trans ?_
  refine (law_arg (k := 1) at_271_1128 at_271_1129 at_271_1130 at_271_1131 at_271_1132 (by omega) hL).trans ?_
  refine (S_invv (A := 2) (r := []) kn_119 rfl (ka_2 L m) (by decide) at_271_1133).trans ?_
  show ((c_call 10 119 [jR 2, jI (m 0 (i + 1))] (hH L m)).bind _) = _
  rw [h1]
  show j_fin (c_call 10) 271 1136 (lW i) [jL x] (hH L m1) = _
  refine (S_aload_n (x := 109) rfl at_271_1136).trans ?_
  refine (law_arg (k := 1) at_271_1137 at_271_1138 at_271_1139 at_271_1140 at_271_1141 (by omega) hL).trans ?_
  refine (S_invv (A := 109) (r := [jL x]) kn_236 rfl (ka_109 L m1) (Nat.le_of_ble_eq_true rfl) at_271_1142).trans ?_
  show ((c_call 10 236 [jR 109, jI (m1 0 (i + 1))] (hH L m1)).bind _) = _
  rw [h0, h2]
  show j_fin (c_call 10) 271 1145 (lW i) [jL x, jL x] (hH L m2) = _
  refine (S_lcmp at_271_1145).trans ?_
  refine (S_if_eq at_271_1146).trans ?_
  rw [if_pos (cmp_self x)]
  exact law_next hi hL
theorem law_32 {L : Nat} {xs : Nat → Int32} {m : j_M0} {i : Nat} (w : Rel xs m) (hi : i + 6 ≤ L) (hL : L ≤ 3072) : ∃ m', j_fin (c_call 10) 271 1151 (lW i) [] (hH L m) = j_fin (c_call 10) 271 18 (lW (i + 6)) [] (hH L m') ∧ Rel xs m' := by
  obtain ⟨x, m1, m2, h1, h2, h0, w2⟩ := PA_i (PA120 (L := L) w (m 0 (i + 1)) (m 0 (i + 2))) (by first | exact Or.inl rfl | exact Or.inr rfl)
  refine ⟨m2, ?_, w2⟩
  refine (S_aload_n (x := 2) rfl at_271_1151).trans ?_
  refine (law_arg (k := 1) at_271_1152 at_271_1153 at_271_1154 at_271_1155 at_271_1156 (by omega) hL).trans ?_
  refine (law_arg (k := 2) at_271_1157 at_271_1158 at_271_1159 at_271_1160 at_271_1161 (by omega) hL).trans ?_
  refine (S_invv (A := 2) (r := []) kn_120 rfl (ka_2 L m) (by decide) at_271_1162).trans ?_
  show ((c_call 10 120 [jR 2, jI (m 0 (i + 1)), jI (m 0 (i + 2))] (hH L m)).bind _) = _
  rw [h1]
  show j_fin (c_call 10) 271 1165 (lW i) [jI x] (hH L m1) = _
  refine (S_aload_n (x := 109) rfl at_271_1165).trans ?_
  refine (law_arg (k := 1) at_271_1166 at_271_1167 at_271_1168 at_271_1169 at_271_1170 (by omega) hL).trans ?_
  refine (law_arg (k := 2) at_271_1171 at_271_1172 at_271_1173 at_271_1174 at_271_1175 (by omega) hL).trans ?_
  refine (S_invv (A := 109) (r := [jI x]) kn_240 rfl (ka_109 L m1) (Nat.le_of_ble_eq_true rfl) at_271_1176).trans ?_
  show ((c_call 10 240 [jR 109, jI (m1 0 (i + 1)), jI (m1 0 (i + 2))] (hH L m1)).bind _) = _
  rw [h0, h2]
  show j_fin (c_call 10) 271 1179 (lW i) [jI x, jI x] (hH L m2) = _
  refine (S_icmp_eq at_271_1179).trans ?_
  rw [if_pos rfl]
  exact law_next hi hL
theorem law_33 {L : Nat} {xs : Nat → Int32} {m : j_M0} {i : Nat} (w : Rel xs m) (hi : i + 6 ≤ L) (hL : L ≤ 3072) : ∃ m', j_fin (c_call 10) 271 1184 (lW i) [] (hH L m) = j_fin (c_call 10) 271 18 (lW (i + 6)) [] (hH L m') ∧ Rel xs m' := by
  obtain ⟨x, m1, m2, h1, h2, h0, w2⟩ := PA_i (PA121 (L := L) w (m 0 (i + 1)) (m 0 (i + 2))) (by first | exact Or.inl rfl | exact Or.inr rfl)
  refine ⟨m2, ?_, w2⟩
  refine (S_aload_n (x := 2) rfl at_271_1184).trans ?_
  refine (law_arg (k := 1) at_271_1185 at_271_1186 at_271_1187 at_271_1188 at_271_1189 (by omega) hL).trans ?_
  refine (law_arg (k := 2) at_271_1190 at_271_1191 at_271_1192 at_271_1193 at_271_1194 (by omega) hL).trans ?_
  refine (S_invv (A := 2) (r := []) kn_121 rfl (ka_2 L m) (by decide) at_271_1195).trans ?_
  show ((c_call 10 121 [jR 2, jI (m 0 (i + 1)), jI (m 0 (i + 2))] (hH L m)).bind _) = _
  rw [h1]
  show j_fin (c_call 10) 271 1198 (lW i) [jI x] (hH L m1) = _
  refine (S_aload_n (x := 109) rfl at_271_1198).trans ?_
  refine (law_arg (k := 1) at_271_1199 at_271_1200 at_271_1201 at_271_1202 at_271_1203 (by omega) hL).trans ?_
  refine (law_arg (k := 2) at_271_1204 at_271_1205 at_271_1206 at_271_1207 at_271_1208 (by omega) hL).trans ?_
  refine (S_invv (A := 109) (r := [jI x]) kn_242 rfl (ka_109 L m1) (Nat.le_of_ble_eq_true rfl) at_271_1209).trans ?_
  show ((c_call 10 242 [jR 109, jI (m1 0 (i + 1)), jI (m1 0 (i + 2))] (hH L m1)).bind _) = _
  rw [h0, h2]
  show j_fin (c_call 10) 271 1212 (lW i) [jI x, jI x] (hH L m2) = _
  refine (S_icmp_eq at_271_1212).trans ?_
  rw [if_pos rfl]
  exact law_next hi hL
theorem law_34 {L : Nat} {xs : Nat → Int32} {m : j_M0} {i : Nat} (w : Rel xs m) (hi : i + 6 ≤ L) (hL : L ≤ 3072) : ∃ m', j_fin (c_call 10) 271 1217 (lW i) [] (hH L m) = j_fin (c_call 10) 271 18 (lW (i + 6)) [] (hH L m') ∧ Rel xs m' := by
  obtain ⟨x, m1, m2, h1, h2, h0, w2⟩ := PA_i (PA122 (L := L) w (m 0 (i + 1)) (m 0 (i + 2))) (by first | exact Or.inl rfl | exact Or.inr rfl)
  refine ⟨m2, ?_, w2⟩
  refine (S_aload_n (x := 2) rfl at_271_1217).trans ?_
  refine (law_arg (k := 1) at_271_1218 at_271_1219 at_271_1220 at_271_1221 at_271_1222 (by omega) hL).trans ?_
  refine (law_arg (k := 2) at_271_1223 at_271_1224 at_271_1225 at_271_1226 at_271_1227 (by omega) hL).trans ?_
  refine (S_invv (A := 2) (r := []) kn_122 rfl (ka_2 L m) (by decide) at_271_1228).trans ?_
  show ((c_call 10 122 [jR 2, jI (m 0 (i + 1)), jI (m 0 (i + 2))] (hH L m)).bind _) = _
  rw [h1]
  show j_fin (c_call 10) 271 1231 (lW i) [jI x] (hH L m1) = _
  refine (S_aload_n (x := 109) rfl at_271_1231).trans ?_
  refine (law_arg (k := 1) at_271_1232 at_271_1233 at_271_1234 at_271_1235 at_271_1236 (by omega) hL).trans ?_
  refine (law_arg (k := 2) at_271_1237 at_271_1238 at_271_1239 at_271_1240 at_271_1241 (by omega) hL).trans ?_
  refine (S_invv (A := 109) (r := [jI x]) kn_245 rfl (ka_109 L m1) (Nat.le_of_ble_eq_true rfl) at_271_1242).trans ?_
  show ((c_call 10 245 [jR 109, jI (m1 0 (i + 1)), jI (m1 0 (i + 2))] (hH L m1)).bind _) = _
  rw [h0, h2]
  show j_fin (c_call 10) 271 1245 (lW i) [jI x, jI x] (hH L m2) = _
  refine (S_icmp_eq at_271_1245).trans ?_
  rw [if_pos rfl]
  exact law_next hi hL
theorem law_35 {L : Nat} {xs : Nat → Int32} {m : j_M0} {i : Nat} (w : Rel xs m) (hi : i + 6 ≤ L) (hL : L ≤ 3072) : ∃ m', j_fin (c_call 10) 271 1250 (lW i) [] (hH L m) = j_fin (c_call 10) 271 18 (lW (i + 6)) [] (hH L m') ∧ Rel xs m' := by
  obtain ⟨x, m1, m2, h1, h2, h0, w2⟩ := PA_i (PA123 (L := L) w (m 0 (i + 1))) (by first | exact Or.inl rfl | exact Or.inr rfl)
  refine ⟨m2, ?_, w2⟩
  refine (S_aload_n (x := 2) rfl at_271_1250).trans ?_
  refine (law_arg (k := 1) at_271_1251 at_271_1252 at_271_1253 at_271_1254 at_271_1255 (by omega) hL).trans ?_
  refine (S_invv (A := 2) (r := []) kn_123 rfl (ka_2 L m) (by decide) at_271_1256).trans ?_
  show ((c_call 10 123 [jR 2, jI (m 0 (i + 1))] (hH L m)).bind _) = _
  rw [h1]
  show j_fin (c_call 10) 271 1259 (lW i) [jI x] (hH L m1) = _
  refine (S_aload_n (x := 109) rfl at_271_1259).trans ?_
  refine (law_arg (k := 1) at_271_1260 at_271_1261 at_271_1262 at_271_1263 at_271_1264 (by omega) hL).trans ?_
  refine (S_invv (A := 109) (r := [jI x]) kn_246 rfl (ka_109 L m1) (Nat.le_of_ble_eq_true rfl) at_271_1265).trans ?_
  show ((c_call 10 246 [jR 109, jI (m1 0 (i + 1))] (hH L m1)).bind _) = _
  rw [h0, h2]
  show j_fin (c_call 10) 271 1268 (lW i) [jI x, jI x] (hH L m2) = _
  refine (S_icmp_eq at_271_1268).trans ?_
  rw [if_pos rfl]
  exact law_next hi hL
theorem law_36 {L : Nat} {xs : Nat → Int32} {m : j_M0} {i : Nat} (w : Rel xs m) (hi : i + 6 ≤ L) (hL : L ≤ 3072) : ∃ m', j_fin (c_call 10) 271 1273 (lW i) [] (hH L m) = j_fin (c_call 10) 271 18 (lW (i + 6)) [] (hH L m') ∧ Rel xs m' := by
  obtain ⟨x, m1, m2, h1, h2, h0, w2⟩ := PA_i (PA124 (L := L) w) (by first | exact Or.inl rfl | exact Or.inr rfl)
  refine ⟨m2, ?_, w2⟩
  refine (S_aload_n (x := 2) rfl at_271_1273).trans ?_
  refine (S_invv (A := 2) (r := []) kn_124 rfl (ka_2 L m) (by decide) at_271_1274).trans ?_
  show ((c_call 10 124 [jR 2] (hH L m)).bind _) = _
  rw [h1]
  show j_fin (c_call 10) 271 1277 (lW i) [jI x] (hH L m1) = _
  refine (S_aload_n (x := 109) rfl at_271_1277).trans ?_
  refine (S_invv (A := 109) (r := [jI x]) kn_248 rfl (ka_109 L m1) (Nat.le_of_ble_eq_true rfl) at_271_1278).trans ?_
  show ((c_call 10 248 [jR 109] (hH L m1)).bind _) = _
  rw [h2]
  show j_fin (c_call 10) 271 1281 (lW i) [jI x, jI x] (hH L m2) = _
  refine (S_icmp_eq at_271_1281).trans ?_
  rw [if_pos rfl]
  exact law_next hi hL
theorem law_37 {L : Nat} {xs : Nat → Int32} {m : j_M0} {i : Nat} (w : Rel xs m) (hi : i + 6 ≤ L) (hL : L ≤ 3072) : ∃ m', j_fin (c_call 10) 271 1286 (lW i) [] (hH L m) = j_fin (c_call 10) 271 18 (lW (i + 6)) [] (hH L m') ∧ Rel xs m' := by
  obtain ⟨x, m1, m2, h1, h2, h0, w2⟩ := PA_i (PA125 (L := L) w (m 0 (i + 1)) (m 0 (i + 2)) (m 0 (i + 3))) (by first | exact Or.inl rfl | exact Or.inr rfl)
  refine ⟨m2, ?_, w2⟩
  refine (S_aload_n (x := 2) rfl at_271_1286).trans ?_
  refine (law_arg (k := 1) at_271_1287 at_271_1288 at_271_1289 at_271_1290 at_271_1291 (by omega) hL).trans ?_
  refine (law_arg (k := 2) at_271_1292 at_271_1293 at_271_1294 at_271_1295 at_271_1296 (by omega) hL).trans ?_
  refine (law_arg (k := 3) at_271_1297 at_271_1298 at_271_1299 at_271_1300 at_271_1301 (by omega) hL).trans ?_
  refine (S_invv (A := 2) (r := []) kn_125 rfl (ka_2 L m) (by decide) at_271_1302).trans ?_
  show ((c_call 10 125 [jR 2, jI (m 0 (i + 1)), jI (m 0 (i + 2)), jI (m 0 (i + 3))] (hH L m)).bind _) = _
  rw [h1]
  show j_fin (c_call 10) 271 1305 (lW i) [jI x] (hH L m1) = _
  refine (S_aload_n (x := 109) rfl at_271_1305).trans ?_
  refine (law_arg (k := 1) at_271_1306 at_271_1307 at_271_1308 at_271_1309 at_271_1310 (by omega) hL).trans ?_
  refine (law_arg (k := 2) at_271_1311 at_271_1312 at_271_1313 at_271_1314 at_271_1315 (by omega) hL).trans ?_
  refine (law_arg (k := 3) at_271_1316 at_271_1317 at_271_1318 at_271_1319 at_271_1320 (by omega) hL).trans ?_
  refine (S_invv (A := 109) (r := [jI x]) kn_250 rfl (ka_109 L m1) (Nat.le_of_ble_eq_true rfl) at_271_1321).trans ?_
  show ((c_call 10 250 [jR 109, jI (m1 0 (i + 1)), jI (m1 0 (i + 2)), jI (m1 0 (i + 3))] (hH L m1)).bind _) = _
  rw [h0, h2]
  show j_fin (c_call 10) 271 1324 (lW i) [jI x, jI x] (hH L m2) = _
  refine (S_icmp_eq at_271_1324).trans ?_
  rw [if_pos rfl]
  exact law_next hi hL
theorem law_38 {L : Nat} {xs : Nat → Int32} {m : j_M0} {i : Nat} (w : Rel xs m) (hi : i + 6 ≤ L) (hL : L ≤ 3072) : ∃ m', j_fin (c_call 10) 271 1329 (lW i) [] (hH L m) = j_fin (c_call 10) 271 18 (lW (i + 6)) [] (hH L m') ∧ Rel xs m' := by
  obtain ⟨x, m1, m2, h1, h2, h0, w2⟩ := PA_i (PA126 (L := L) w) (by first | exact Or.inl rfl | exact Or.inr rfl)
  refine ⟨m2, ?_, w2⟩
  refine (S_aload_n (x := 2) rfl at_271_1329).trans ?_
  refine (S_invv (A := 2) (r := []) kn_126 rfl (ka_2 L m) (by decide) at_271_1330).trans ?_
  show ((c_call 10 126 [jR 2] (hH L m)).bind _) = _
  rw [h1]
  show j_fin (c_call 10) 271 1333 (lW i) [jI x] (hH L m1) = _
  refine (S_aload_n (x := 109) rfl at_271_1333).trans ?_
  refine (S_invv (A := 109) (r := [jI x]) kn_252 rfl (ka_109 L m1) (Nat.le_of_ble_eq_true rfl) at_271_1334).trans ?_
  show ((c_call 10 252 [jR 109] (hH L m1)).bind _) = _
  rw [h2]
  show j_fin (c_call 10) 271 1337 (lW i) [jI x, jI x] (hH L m2) = _
  refine (S_icmp_eq at_271_1337).trans ?_
  rw [if_pos rfl]
  exact law_next hi hL
theorem law_39 {L : Nat} {xs : Nat → Int32} {m : j_M0} {i : Nat} (w : Rel xs m) (hi : i + 6 ≤ L) (hL : L ≤ 3072) : ∃ m', j_fin (c_call 10) 271 1342 (lW i) [] (hH L m) = j_fin (c_call 10) 271 18 (lW (i + 6)) [] (hH L m') ∧ Rel xs m' := by
  obtain ⟨x, m1, m2, h1, h2, h0, w2⟩ := PA_i (PA127 (L := L) w (m 0 (i + 1)) (m 0 (i + 2)) (Rel_x w _)) (by first | exact Or.inl rfl | exact Or.inr rfl)
  refine ⟨m2, ?_, w2⟩
  refine (S_aload_n (x := 2) rfl at_271_1342).trans ?_
  refine (law_arg (k := 1) at_271_1343 at_271_1344 at_271_1345 at_271_1346 at_271_1347 (by omega) hL).trans ?_
  refine (law_arg (k := 2) at_271_1348 at_271_1349 at_271_1350 at_271_1351 at_271_1352 (by omega) hL).trans ?_
  refine (S_invv (A := 2) (r := []) kn_127 rfl (ka_2 L m) (by decide) at_271_1353).trans ?_
  show ((c_call 10 127 [jR 2, jI (m 0 (i + 1)), jI (m 0 (i + 2))] (hH L m)).bind _) = _
  rw [h1]
  show j_fin (c_call 10) 271 1356 (lW i) [jI x] (hH L m1) = _
  refine (S_aload_n (x := 109) rfl at_271_1356).trans ?_
  refine (law_arg (k := 1) at_271_1357 at_271_1358 at_271_1359 at_271_1360 at_271_1361 (by omega) hL).trans ?_
  refine (law_arg (k := 2) at_271_1362 at_271_1363 at_271_1364 at_271_1365 at_271_1366 (by omega) hL).trans ?_
  refine (S_invv (A := 109) (r := [jI x]) kn_254 rfl (ka_109 L m1) (Nat.le_of_ble_eq_true rfl) at_271_1367).trans ?_
  show ((c_call 10 254 [jR 109, jI (m1 0 (i + 1)), jI (m1 0 (i + 2))] (hH L m1)).bind _) = _
  rw [h0, h2]
  show j_fin (c_call 10) 271 1370 (lW i) [jI x, jI x] (hH L m2) = _
  refine (S_icmp_eq at_271_1370).trans ?_
  rw [if_pos rfl]
  exact law_next hi hL
theorem law_40 {L : Nat} {xs : Nat → Int32} {m : j_M0} {i : Nat} (w : Rel xs m) (hi : i + 6 ≤ L) (hL : L ≤ 3072) : ∃ m', j_fin (c_call 10) 271 1375 (lW i) [] (hH L m) = j_fin (c_call 10) 271 18 (lW (i + 6)) [] (hH L m') ∧ Rel xs m' := by
  obtain ⟨x, m1, m2, h1, h2, h0, w2⟩ := PA_i (PA128 (L := L) w) (by first | exact Or.inl rfl | exact Or.inr rfl)
  refine ⟨m2, ?_, w2⟩
  refine (S_aload_n (x := 2) rfl at_271_1375).trans ?_
  refine (S_invv (A := 2) (r := []) kn_128 rfl (ka_2 L m) (by decide) at_271_1376).trans ?_
  show ((c_call 10 128 [jR 2] (hH L m)).bind _) = _
  rw [h1]
  show j_fin (c_call 10) 271 1379 (lW i) [jI x] (hH L m1) = _
  refine (S_aload_n (x := 109) rfl at_271_1379).trans ?_
  refine (S_invv (A := 109) (r := [jI x]) kn_255 rfl (ka_109 L m1) (Nat.le_of_ble_eq_true rfl) at_271_1380).trans ?_
  show ((c_call 10 255 [jR 109] (hH L m1)).bind _) = _
  rw [h2]
  show j_fin (c_call 10) 271 1383 (lW i) [jI x, jI x] (hH L m2) = _
  refine (S_icmp_eq at_271_1383).trans ?_
  rw [if_pos rfl]
  exact law_next hi hL
theorem law_41 {L : Nat} {xs : Nat → Int32} {m : j_M0} {i : Nat} (w : Rel xs m) (hi : i + 6 ≤ L) (hL : L ≤ 3072) : ∃ m', j_fin (c_call 10) 271 1388 (lW i) [] (hH L m) = j_fin (c_call 10) 271 18 (lW (i + 6)) [] (hH L m') ∧ Rel xs m' := by
  obtain ⟨x, m1, m2, h1, h2, h0, w2⟩ := PA_i (PA129 (L := L) w) (by first | exact Or.inl rfl | exact Or.inr rfl)
  refine ⟨m2, ?_, w2⟩
  refine (S_aload_n (x := 2) rfl at_271_1388).trans ?_
  refine (S_invv (A := 2) (r := []) kn_129 rfl (ka_2 L m) (by decide) at_271_1389).trans ?_
  show ((c_call 10 129 [jR 2] (hH L m)).bind _) = _
  rw [h1]
  show j_fin (c_call 10) 271 1392 (lW i) [jI x] (hH L m1) = _
  refine (S_aload_n (x := 109) rfl at_271_1392).trans ?_
  refine (S_invv (A := 109) (r := [jI x]) kn_256 rfl (ka_109 L m1) (Nat.le_of_ble_eq_true rfl) at_271_1393).trans ?_
  show ((c_call 10 256 [jR 109] (hH L m1)).bind _) = _
  rw [h2]
  show j_fin (c_call 10) 271 1396 (lW i) [jI x, jI x] (hH L m2) = _
  refine (S_icmp_eq at_271_1396).trans ?_
  rw [if_pos rfl]
  exact law_next hi hL
theorem law_42 {L : Nat} {xs : Nat → Int32} {m : j_M0} {i : Nat} (w : Rel xs m) (hi : i + 6 ≤ L) (hL : L ≤ 3072) : ∃ m', j_fin (c_call 10) 271 1401 (lW i) [] (hH L m) = j_fin (c_call 10) 271 18 (lW (i + 6)) [] (hH L m') ∧ Rel xs m' := by
  obtain ⟨x, m1, m2, h1, h2, h0, w2⟩ := PA_i (PA130 (L := L) w (m 0 (i + 1))) (by first | exact Or.inl rfl | exact Or.inr rfl)
  refine ⟨m2, ?_, w2⟩
  refine (S_aload_n (x := 2) rfl at_271_1401).trans ?_
  refine (law_arg (k := 1) at_271_1402 at_271_1403 at_271_1404 at_271_1405 at_271_1406 (by omega) hL).trans ?_
  refine (S_invv (A := 2) (r := []) kn_130 rfl (ka_2 L m) (by decide) at_271_1407).trans ?_
  show ((c_call 10 130 [jR 2, jI (m 0 (i + 1))] (hH L m)).bind _) = _
  rw [h1]
  show j_fin (c_call 10) 271 1410 (lW i) [jI x] (hH L m1) = _
  refine (S_aload_n (x := 109) rfl at_271_1410).trans ?_
  refine (law_arg (k := 1) at_271_1411 at_271_1412 at_271_1413 at_271_1414 at_271_1415 (by omega) hL).trans ?_
  refine (S_invv (A := 109) (r := [jI x]) kn_257 rfl (ka_109 L m1) (Nat.le_of_ble_eq_true rfl) at_271_1416).trans ?_
  show ((c_call 10 257 [jR 109, jI (m1 0 (i + 1))] (hH L m1)).bind _) = _
  rw [h0, h2]
  show j_fin (c_call 10) 271 1419 (lW i) [jI x, jI x] (hH L m2) = _
  refine (S_icmp_eq at_271_1419).trans ?_
  rw [if_pos rfl]
  exact law_next hi hL
theorem law_43 {L : Nat} {xs : Nat → Int32} {m : j_M0} {i : Nat} (w : Rel xs m) (hi : i + 6 ≤ L) (hL : L ≤ 3072) : ∃ m', j_fin (c_call 10) 271 1424 (lW i) [] (hH L m) = j_fin (c_call 10) 271 18 (lW (i + 6)) [] (hH L m') ∧ Rel xs m' := by
  obtain ⟨x, m1, m2, h1, h2, h0, w2⟩ := PA_i (PA131 (L := L) w (m 0 (i + 1)) (m 0 (i + 2)) (m 0 (i + 3))) (by first | exact Or.inl rfl | exact Or.inr rfl)
  refine ⟨m2, ?_, w2⟩
  refine (S_aload_n (x := 2) rfl at_271_1424).trans ?_
  refine (law_arg (k := 1) at_271_1425 at_271_1426 at_271_1427 at_271_1428 at_271_1429 (by omega) hL).trans ?_
  refine (law_arg (k := 2) at_271_1430 at_271_1431 at_271_1432 at_271_1433 at_271_1434 (by omega) hL).trans ?_
  refine (law_arg (k := 3) at_271_1435 at_271_1436 at_271_1437 at_271_1438 at_271_1439 (by omega) hL).trans ?_
  refine (S_invv (A := 2) (r := []) kn_131 rfl (ka_2 L m) (by decide) at_271_1440).trans ?_
  show ((c_call 10 131 [jR 2, jI (m 0 (i + 1)), jI (m 0 (i + 2)), jI (m 0 (i + 3))] (hH L m)).bind _) = _
  rw [h1]
  show j_fin (c_call 10) 271 1443 (lW i) [jI x] (hH L m1) = _
  refine (S_aload_n (x := 109) rfl at_271_1443).trans ?_
  refine (law_arg (k := 1) at_271_1444 at_271_1445 at_271_1446 at_271_1447 at_271_1448 (by omega) hL).trans ?_
  refine (law_arg (k := 2) at_271_1449 at_271_1450 at_271_1451 at_271_1452 at_271_1453 (by omega) hL).trans ?_
  refine (law_arg (k := 3) at_271_1454 at_271_1455 at_271_1456 at_271_1457 at_271_1458 (by omega) hL).trans ?_
  refine (S_invv (A := 109) (r := [jI x]) kn_258 rfl (ka_109 L m1) (Nat.le_of_ble_eq_true rfl) at_271_1459).trans ?_
  show ((c_call 10 258 [jR 109, jI (m1 0 (i + 1)), jI (m1 0 (i + 2)), jI (m1 0 (i + 3))] (hH L m1)).bind _) = _
  rw [h0, h2]
  show j_fin (c_call 10) 271 1462 (lW i) [jI x, jI x] (hH L m2) = _
  refine (S_icmp_eq at_271_1462).trans ?_
  rw [if_pos rfl]
  exact law_next hi hL
theorem law_44 {L : Nat} {xs : Nat → Int32} {m : j_M0} {i : Nat} (w : Rel xs m) (hi : i + 6 ≤ L) (hL : L ≤ 3072) : ∃ m', j_fin (c_call 10) 271 1467 (lW i) [] (hH L m) = j_fin (c_call 10) 271 18 (lW (i + 6)) [] (hH L m') ∧ Rel xs m' := by
  obtain ⟨x, m1, m2, h1, h2, h0, w2⟩ := PA_i (PA132 (L := L) w (m 0 (i + 1)) (m 0 (i + 2)) (j_lor (j_lshl (m 0 (i + 3)) (32)) (j_land (m 0 (i + 4)) (4294967295))) (j_lor_r _ _)) (by first | exact Or.inl rfl | exact Or.inr rfl)
  refine ⟨m2, ?_, w2⟩
  refine (S_aload_n (x := 2) rfl at_271_1467).trans ?_
  refine (law_arg (k := 1) at_271_1468 at_271_1469 at_271_1470 at_271_1471 at_271_1472 (by omega) hL).trans ?_
  refine (law_arg (k := 2) at_271_1473 at_271_1474 at_271_1475 at_271_1476 at_271_1477 (by omega) hL).trans ?_
  refine (law_arg (k := 3) at_271_1478 at_271_1479 at_271_1480 at_271_1481 at_271_1482 (by omega) hL).trans ?_
  refine (S_i2l at_271_1483).trans ?_
  refine (S_bipush at_271_1484).trans ?_
  refine (S_lshl at_271_1486).trans ?_
  refine (law_arg (k := 4) at_271_1487 at_271_1488 at_271_1489 at_271_1490 at_271_1491 (by omega) hL).trans ?_
  refine (S_i2l at_271_1492).trans ?_
  refine (S_ldc2_w at_271_1493).trans ?_
  refine (S_land at_271_1496).trans ?_
  refine (S_lor at_271_1497).trans ?_
  refine (S_invv (A := 2) (r := []) kn_132 rfl (ka_2 L m) (by decide) at_271_1498).trans ?_
  show ((c_call 10 132 [jR 2, jI (m 0 (i + 1)), jI (m 0 (i + 2)), jL (j_lor (j_lshl (m 0 (i + 3)) (32)) (j_land (m 0 (i + 4)) (4294967295)))] (hH L m)).bind _) = _
  rw [h1]
  show j_fin (c_call 10) 271 1501 (lW i) [jI x] (hH L m1) = _
  refine (S_aload_n (x := 109) rfl at_271_1501).trans ?_
  refine (law_arg (k := 1) at_271_1502 at_271_1503 at_271_1504 at_271_1505 at_271_1506 (by omega) hL).trans ?_
  refine (law_arg (k := 2) at_271_1507 at_271_1508 at_271_1509 at_271_1510 at_271_1511 (by omega) hL).trans ?_
  refine (law_arg (k := 3) at_271_1512 at_271_1513 at_271_1514 at_271_1515 at_271_1516 (by omega) hL).trans ?_
  refine (S_i2l at_271_1517).trans ?_
  refine (S_bipush at_271_1518).trans ?_
  refine (S_lshl at_271_1520).trans ?_
  refine (law_arg (k := 4) at_271_1521 at_271_1522 at_271_1523 at_271_1524 at_271_1525 (by omega) hL).trans ?_
  refine (S_i2l at_271_1526).trans ?_
  refine (S_ldc2_w at_271_1527).trans ?_
  refine (S_land at_271_1530).trans ?_
  refine (S_lor at_271_1531).trans ?_
  refine (S_invv (A := 109) (r := [jI x]) kn_260 rfl (ka_109 L m1) (Nat.le_of_ble_eq_true rfl) at_271_1532).trans ?_
  show ((c_call 10 260 [jR 109, jI (m1 0 (i + 1)), jI (m1 0 (i + 2)), jL (j_lor (j_lshl (m1 0 (i + 3)) (32)) (j_land (m1 0 (i + 4)) (4294967295)))] (hH L m1)).bind _) = _
  rw [h0, h2]
  show j_fin (c_call 10) 271 1535 (lW i) [jI x, jI x] (hH L m2) = _
  refine (S_icmp_eq at_271_1535).trans ?_
  rw [if_pos rfl]
  exact law_next hi hL
theorem law_45 {L : Nat} {xs : Nat → Int32} {m : j_M0} {i : Nat} (w : Rel xs m) (hi : i + 6 ≤ L) (hL : L ≤ 3072) : ∃ m', j_fin (c_call 10) 271 1540 (lW i) [] (hH L m) = j_fin (c_call 10) 271 18 (lW (i + 6)) [] (hH L m') ∧ Rel xs m' := by
  obtain ⟨x, m1, m2, h1, h2, h0, w2⟩ := PA_l (PA133 (L := L) w (m 0 (i + 1)) (m 0 (i + 2))) rfl
  refine ⟨m2, ?_, w2⟩
  refine (S_aload_n (x := 2) rfl at_271_1540).trans ?_
  refine (law_arg (k := 1) at_271_1541 at_271_1542 at_271_1543 at_271_1544 at_271_1545 (by omega) hL).trans ?_
  refine (law_arg (k := 2) at_271_1546 at_271_1547 at_271_1548 at_271_1549 at_271_1550 (by omega) hL).trans ?_
  refine (S_invv (A := 2) (r := []) kn_133 rfl (ka_2 L m) (by decide) at_271_1551).trans ?_
  show ((c_call 10 133 [jR 2, jI (m 0 (i + 1)), jI (m 0 (i + 2))] (hH L m)).bind _) = _
  rw [h1]
  show j_fin (c_call 10) 271 1554 (lW i) [jL x] (hH L m1) = _
  refine (S_aload_n (x := 109) rfl at_271_1554).trans ?_
  refine (law_arg (k := 1) at_271_1555 at_271_1556 at_271_1557 at_271_1558 at_271_1559 (by omega) hL).trans ?_
  refine (law_arg (k := 2) at_271_1560 at_271_1561 at_271_1562 at_271_1563 at_271_1564 (by omega) hL).trans ?_
  refine (S_invv (A := 109) (r := [jL x]) kn_261 rfl (ka_109 L m1) (Nat.le_of_ble_eq_true rfl) at_271_1565).trans ?_
  show ((c_call 10 261 [jR 109, jI (m1 0 (i + 1)), jI (m1 0 (i + 2))] (hH L m1)).bind _) = _
  rw [h0, h2]
  show j_fin (c_call 10) 271 1568 (lW i) [jL x, jL x] (hH L m2) = _
  refine (S_lcmp at_271_1568).trans ?_
  refine (S_if_eq at_271_1569).trans ?_
  rw [if_pos (cmp_self x)]
  exact law_next hi hL
theorem law_46 {L : Nat} {xs : Nat → Int32} {m : j_M0} {i : Nat} (w : Rel xs m) (hi : i + 6 ≤ L) (hL : L ≤ 3072) : ∃ m', j_fin (c_call 10) 271 1574 (lW i) [] (hH L m) = j_fin (c_call 10) 271 18 (lW (i + 6)) [] (hH L m') ∧ Rel xs m' := by
  obtain ⟨x, m1, m2, h1, h2, h0, w2⟩ := PA_i (PA134 (L := L) w (m 0 (i + 1)) (m 0 (i + 2)) (m 0 (i + 3)) (m 0 (i + 4)) (m 0 (i + 5)) (Rel_x w _)) (by first | exact Or.inl rfl | exact Or.inr rfl)
  refine ⟨m2, ?_, w2⟩
  refine (S_aload_n (x := 2) rfl at_271_1574).trans ?_
  refine (law_arg (k := 1) at_271_1575 at_271_1576 at_271_1577 at_271_1578 at_271_1579 (by omega) hL).trans ?_
  refine (law_arg (k := 2) at_271_1580 at_271_1581 at_271_1582 at_271_1583 at_271_1584 (by omega) hL).trans ?_
  refine (law_arg (k := 3) at_271_1585 at_271_1586 at_271_1587 at_271_1588 at_271_1589 (by omega) hL).trans ?_
  refine (law_arg (k := 4) at_271_1590 at_271_1591 at_271_1592 at_271_1593 at_271_1594 (by omega) hL).trans ?_
  refine (law_arg (k := 5) at_271_1595 at_271_1596 at_271_1597 at_271_1598 at_271_1599 (by omega) hL).trans ?_
  refine (S_invv (A := 2) (r := []) kn_134 rfl (ka_2 L m) (by decide) at_271_1600).trans ?_
  show ((c_call 10 134 [jR 2, jI (m 0 (i + 1)), jI (m 0 (i + 2)), jI (m 0 (i + 3)), jI (m 0 (i + 4)), jI (m 0 (i + 5))] (hH L m)).bind _) = _
  rw [h1]
  show j_fin (c_call 10) 271 1603 (lW i) [jI x] (hH L m1) = _
  refine (S_aload_n (x := 109) rfl at_271_1603).trans ?_
  refine (law_arg (k := 1) at_271_1604 at_271_1605 at_271_1606 at_271_1607 at_271_1608 (by omega) hL).trans ?_
  refine (law_arg (k := 2) at_271_1609 at_271_1610 at_271_1611 at_271_1612 at_271_1613 (by omega) hL).trans ?_
  refine (law_arg (k := 3) at_271_1614 at_271_1615 at_271_1616 at_271_1617 at_271_1618 (by omega) hL).trans ?_
  refine (law_arg (k := 4) at_271_1619 at_271_1620 at_271_1621 at_271_1622 at_271_1623 (by omega) hL).trans ?_
  refine (law_arg (k := 5) at_271_1624 at_271_1625 at_271_1626 at_271_1627 at_271_1628 (by omega) hL).trans ?_
  refine (S_invv (A := 109) (r := [jI x]) kn_262 rfl (ka_109 L m1) (Nat.le_of_ble_eq_true rfl) at_271_1629).trans ?_
  show ((c_call 10 262 [jR 109, jI (m1 0 (i + 1)), jI (m1 0 (i + 2)), jI (m1 0 (i + 3)), jI (m1 0 (i + 4)), jI (m1 0 (i + 5))] (hH L m1)).bind _) = _
  rw [h0, h2]
  show j_fin (c_call 10) 271 1632 (lW i) [jI x, jI x] (hH L m2) = _
  refine (S_icmp_eq at_271_1632).trans ?_
  rw [if_pos rfl]
  exact law_next hi hL
theorem law_head {L : Nat} {xs : Nat → Int32} {m : j_M0} {i : Nat} (w : Rel xs m) (hi : i + 6 ≤ L) (hL : L ≤ 3072) : ∃ m', j_fin (c_call 10) 271 18 (lW i) [] (hH L m) = j_fin (c_call 10) 271 18 (lW (i + 6)) [] (hH L m') ∧ Rel xs m' := by
  have st : ∃ x : Int, j_fin (c_call 10) 271 18 (lW i) [] (hH L m) = j_fin (c_call 10) 271 33 (lW i) [jI x] (hH L m) := by
    refine ⟨j_and (m 0 i) 63, ?_⟩
    refine (S_iload_n (x := (i : Int)) rfl at_271_18).trans ?_
    refine (S_aload_n (x := 0) rfl at_271_19).trans ?_
    refine (S_alen (ka_0 L m) (by decide) at_271_20).trans ?_
    refine (S_bipush at_271_21).trans ?_
    refine (S_isub at_271_23).trans ?_
    refine (S_icmp_gt at_271_24).trans ?_
    rw [if_neg (by rw [w32_id (by omega) (by omega)]; omega)]
    refine (S_aload_n (x := 0) rfl at_271_27).trans ?_
    refine (S_iload_n (x := (i : Int)) rfl at_271_28).trans ?_
    refine (S_iaload (ka_0 L m) at_271_29).trans ?_
    rw [if_pos (by omega), Int.toNat_natCast]
    refine (S_bipush at_271_30).trans ?_
    exact S_iand at_271_32
  obtain ⟨x, st⟩ := st
  rw [st, tsw_271_33]
  by_cases c0 : x = 0
  · rw [if_pos c0]; exact law_0 w hi hL
  rw [if_neg c0]
  by_cases c1 : x = 1
  · rw [if_pos c1]; exact law_1 w hi hL
  rw [if_neg c1]
  by_cases c2 : x = 2
  · rw [if_pos c2]; exact law_2 w hi hL
  rw [if_neg c2]
  by_cases c3 : x = 3
  · rw [if_pos c3]; exact law_3 w hi hL
  rw [if_neg c3]
  by_cases c4 : x = 4
  · rw [if_pos c4]; exact law_4 w hi hL
  rw [if_neg c4]
  by_cases c5 : x = 5
  · rw [if_pos c5]; exact law_5 w hi hL
  rw [if_neg c5]
  by_cases c6 : x = 6
  · rw [if_pos c6]; exact law_6 w hi hL
  rw [if_neg c6]
  by_cases c7 : x = 7
  · rw [if_pos c7]; exact law_7 w hi hL
  rw [if_neg c7]
  by_cases c8 : x = 8
  · rw [if_pos c8]; exact law_8 w hi hL
  rw [if_neg c8]
  by_cases c9 : x = 9
  · rw [if_pos c9]; exact law_9 w hi hL
  rw [if_neg c9]
  by_cases c10 : x = 10
  · rw [if_pos c10]; exact law_10 w hi hL
  rw [if_neg c10]
  by_cases c11 : x = 11
  · rw [if_pos c11]; exact law_11 w hi hL
  rw [if_neg c11]
  by_cases c12 : x = 12
  · rw [if_pos c12]; exact law_12 w hi hL
  rw [if_neg c12]
  by_cases c13 : x = 13
  · rw [if_pos c13]; exact law_13 w hi hL
  rw [if_neg c13]
  by_cases c14 : x = 14
  · rw [if_pos c14]; exact law_14 w hi hL
  rw [if_neg c14]
  by_cases c15 : x = 15
  · rw [if_pos c15]; exact law_15 w hi hL
  rw [if_neg c15]
  by_cases c16 : x = 16
  · rw [if_pos c16]; exact law_16 w hi hL
  rw [if_neg c16]
  by_cases c17 : x = 17
  · rw [if_pos c17]; exact law_17 w hi hL
  rw [if_neg c17]
  by_cases c18 : x = 18
  · rw [if_pos c18]; exact law_18 w hi hL
  rw [if_neg c18]
  by_cases c19 : x = 19
  · rw [if_pos c19]; exact law_19 w hi hL
  rw [if_neg c19]
  by_cases c20 : x = 20
  · rw [if_pos c20]; exact law_20 w hi hL
  rw [if_neg c20]
  by_cases c21 : x = 21
  · rw [if_pos c21]; exact law_21 w hi hL
  rw [if_neg c21]
  by_cases c22 : x = 22
  · rw [if_pos c22]; exact law_22 w hi hL
  rw [if_neg c22]
  by_cases c23 : x = 23
  · rw [if_pos c23]; exact law_23 w hi hL
  rw [if_neg c23]
  by_cases c24 : x = 24
  · rw [if_pos c24]; exact law_24 w hi hL
  rw [if_neg c24]
  by_cases c25 : x = 25
  · rw [if_pos c25]; exact law_25 w hi hL
  rw [if_neg c25]
  by_cases c26 : x = 26
  · rw [if_pos c26]; exact law_26 w hi hL
  rw [if_neg c26]
  by_cases c27 : x = 27
  · rw [if_pos c27]; exact law_27 w hi hL
  rw [if_neg c27]
  by_cases c28 : x = 28
  · rw [if_pos c28]; exact law_28 w hi hL
  rw [if_neg c28]
  by_cases c29 : x = 29
  · rw [if_pos c29]; exact law_29 w hi hL
  rw [if_neg c29]
  by_cases c30 : x = 30
  · rw [if_pos c30]; exact law_30 w hi hL
  rw [if_neg c30]
  by_cases c31 : x = 31
  · rw [if_pos c31]; exact law_31 w hi hL
  rw [if_neg c31]
  by_cases c32 : x = 32
  · rw [if_pos c32]; exact law_32 w hi hL
  rw [if_neg c32]
  by_cases c33 : x = 33
  · rw [if_pos c33]; exact law_33 w hi hL
  rw [if_neg c33]
  by_cases c34 : x = 34
  · rw [if_pos c34]; exact law_34 w hi hL
  rw [if_neg c34]
  by_cases c35 : x = 35
  · rw [if_pos c35]; exact law_35 w hi hL
  rw [if_neg c35]
  by_cases c36 : x = 36
  · rw [if_pos c36]; exact law_36 w hi hL
  rw [if_neg c36]
  by_cases c37 : x = 37
  · rw [if_pos c37]; exact law_37 w hi hL
  rw [if_neg c37]
  by_cases c38 : x = 38
  · rw [if_pos c38]; exact law_38 w hi hL
  rw [if_neg c38]
  by_cases c39 : x = 39
  · rw [if_pos c39]; exact law_39 w hi hL
  rw [if_neg c39]
  by_cases c40 : x = 40
  · rw [if_pos c40]; exact law_40 w hi hL
  rw [if_neg c40]
  by_cases c41 : x = 41
  · rw [if_pos c41]; exact law_41 w hi hL
  rw [if_neg c41]
  by_cases c42 : x = 42
  · rw [if_pos c42]; exact law_42 w hi hL
  rw [if_neg c42]
  by_cases c43 : x = 43
  · rw [if_pos c43]; exact law_43 w hi hL
  rw [if_neg c43]
  by_cases c44 : x = 44
  · rw [if_pos c44]; exact law_44 w hi hL
  rw [if_neg c44]
  by_cases c45 : x = 45
  · rw [if_pos c45]; exact law_45 w hi hL
  rw [if_neg c45]
  by_cases c46 : x = 46
  · rw [if_pos c46]; exact law_46 w hi hL
  rw [if_neg c46]
  exact ⟨m, law_next hi hL, w⟩
theorem law_loop {L : Nat} {xs : Nat → Int32} (hL : L ≤ 3072) : ∀ (n i : Nat) (m : j_M0), L ≤ i + 6 * n + 5 → i ≤ L + 5 → Rel xs m → ∃ m', j_fin (c_call 10) 271 18 (lW i) [] (hH L m) = some (some (jI 1), hH L m') := by
  have fin : ∀ (i : Nat) (m : j_M0), L < i + 6 → i ≤ L + 5 → j_fin (c_call 10) 271 18 (lW i) [] (hH L m) = some (some (jI 1), hH L m) := fun i m h h' => by
    refine (S_iload_n (x := (i : Int)) rfl at_271_18).trans ?_
    refine (S_aload_n (x := 0) rfl at_271_19).trans ?_
    refine (S_alen (ka_0 L m) (by decide) at_271_20).trans ?_
    refine (S_bipush at_271_21).trans ?_
    refine (S_isub at_271_23).trans ?_
    refine (S_icmp_gt at_271_24).trans ?_
    rw [if_pos (by rw [w32_id (by omega) (by omega)]; omega)]
    refine (S_iconst at_271_1643).trans ?_
    refine (S_iretz rfl at_271_1644).trans ?_
    rw [if_pos (Or.inr rfl)]
  intro n
  induction n with
  | zero => intro i m h h' _; exact ⟨m, fin i m (by omega) h'⟩
  | succ n ih =>
    intro i m h h' w
    by_cases e : i + 6 ≤ L
    · obtain ⟨m1, h1, w1⟩ := law_head w e hL
      obtain ⟨m2, h2⟩ := ih (i + 6) m1 (by omega) (by omega) w1
      exact ⟨m2, h1.trans h2⟩
    · exact ⟨m, fin i m (by omega) h'⟩
