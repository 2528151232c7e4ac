/-! the other cases -/
section LW
variable {X : pm_X} {L : Nat} {xs : Nat → Int32} {i : Int} {V : pm_M}
set_option maxHeartbeats 4000000 in
set_option maxRecDepth 100000 in
theorem lw_c_sound (hC : pm_C X RL cL_law 4 60) (hS : pm_Sc X L xs) (hL : L ≤ 3072) (hi : 0 ≤ i ∧ i + 6 ≤ (L : Int)) (hI : lw_J V) (nxt : ∀ V', lw_J V' → pm_J X 1566 (lw_lv i) [] 118 V') : pm_J X 319 (lw_lv i) [] 118 V := by
  obtain ⟨⟨hV, hQ⟩, hP⟩ := hI
  refine pm_aload_n hC 1 (by decide) dL_law_319 rfl ?_
  refine lw_ld hC hS hL hi (c := 1) (by decide) dL_law_320 dL_law_321 dL_law_322 dL_law_323 dL_law_324 (fun a1 e1 b1 => ?_)
  refine lw_ld hC hS hL hi (c := 2) (by decide) dL_law_325 dL_law_326 dL_law_327 dL_law_328 dL_law_329 (fun a2 e2 b2 => ?_)
  refine pm_callV (ci := 11) (as := [(0, a1), (0, a2)]) (st := []) hC 0 (fD_X11_sound_0 a1 a2 b1 b2) lm_L_37 li_X11_sound (by decide) (by decide) rfl rfl rfl (by decide) rfl rfl (Nat.le_of_ble_eq_true rfl) ⟨Nat.le_refl _, Or.inl rfl⟩ dL_law_330 ⟨rfl, hV.1⟩ (fun r1 V1 hp1 => ?_)
  obtain ⟨y1, rfl, -, rfl, hF1⟩ := hp1
  change pm_J X 333 (lw_lv i) [(0, y1)] 118 V
  refine pm_pop hC rfl dL_law_333 ?_
  have hQ1 := hQ
  have hP1 := hP
  refine pm_aload_n hC 2 (by decide) dL_law_334 rfl ?_
  refine lw_ld hC hS hL hi (c := 1) (by decide) dL_law_335 dL_law_336 dL_law_337 dL_law_338 dL_law_339 (fun a1x e1x b1x => ?_)
  refine lw_ld hC hS hL hi (c := 2) (by decide) dL_law_340 dL_law_341 dL_law_342 dL_law_343 dL_law_344 (fun a2x e2x b2x => ?_)
  obtain rfl : a1 = a1x := e1.symm.trans e1x
  obtain rfl : a2 = a2x := e2.symm.trans e2x
  rcases hV.2.2.2 with hA | hB
  · have nS := lw_noS hA
    refine pm_callV (ci := 12) (as := [(0, a1), (0, a2)]) (st := []) hC 90 (A_X12_sound a1 a2 b1 b2) lm_L_41 li_X12_sound (by decide) (by decide) rfl rfl rfl (by decide) rfl rfl (Nat.le_of_ble_eq_true rfl) ⟨Nat.le_refl _, Or.inl rfl⟩ dL_law_345 ⟨rfl, hA⟩ (fun r2 V2 hp2 => ?_)
    obtain ⟨y2, rfl, -, rfl⟩ := hp2
    change pm_J X 348 (lw_lv i) [(0, y2)] 118 V
    refine pm_pop hC rfl dL_law_348 ?_
    refine pm_goto (tgt := 1566) hC dL_law_349 (by decide) ?_
    exact nxt _ ⟨⟨hV, hQ1⟩, hP1⟩
  · skip
    refine pm_callV (ci := 12) (as := [(0, a1), (0, a2)]) (st := []) hC 90 (fB_X12_sound a1 a2 b1 b2) lm_L_41 li_X12_sound (by decide) (by decide) rfl rfl rfl (by decide) rfl rfl (Nat.le_of_ble_eq_true rfl) ⟨Nat.le_refl _, Or.inl rfl⟩ dL_law_345 ⟨rfl, hB.1⟩ (fun r2 V2 hp2 => ?_)
    obtain ⟨y2, rfl, -, rfl, -⟩ := hp2
    change pm_J X 348 (lw_lv i) [(0, y2)] 118 V
    refine pm_pop hC rfl dL_law_348 ?_
    refine pm_goto (tgt := 1566) hC dL_law_349 (by decide) ?_
    exact nxt _ ⟨⟨hV, hQ1⟩, hP1⟩
set_option maxHeartbeats 4000000 in
set_option maxRecDepth 100000 in
theorem lw_c_person (hC : pm_C X RL cL_law 4 60) (hS : pm_Sc X L xs) (hL : L ≤ 3072) (hi : 0 ≤ i ∧ i + 6 ≤ (L : Int)) (hI : lw_J V) (nxt : ∀ V', lw_J V' → pm_J X 1566 (lw_lv i) [] 118 V') : pm_J X 352 (lw_lv i) [] 118 V := by
  obtain ⟨⟨hV, hQ⟩, hP⟩ := hI
  refine pm_aload_n hC 1 (by decide) dL_law_352 rfl ?_
  refine lw_ld hC hS hL hi (c := 1) (by decide) dL_law_353 dL_law_354 dL_law_355 dL_law_356 dL_law_357 (fun a1 e1 b1 => ?_)
  refine lw_ld hC hS hL hi (c := 2) (by decide) dL_law_358 dL_law_359 dL_law_360 dL_law_361 dL_law_362 (fun a2 e2 b2 => ?_)
  refine lw_ld hC hS hL hi (c := 3) (by decide) dL_law_363 dL_law_364 dL_law_365 dL_law_366 dL_law_367 (fun a3 e3 b3 => ?_)
  refine pm_callV (ci := 11) (as := [(0, a1), (0, a2), (0, a3)]) (st := []) hC 0 (fD_X11_person_0 a1 a2 a3 b1 b2 b3) lm_L_42 li_X11_person (by decide) (by decide) rfl rfl rfl (by decide) rfl rfl (Nat.le_of_ble_eq_true rfl) ⟨Nat.le_refl _, Or.inl rfl⟩ dL_law_368 ⟨rfl, hV.1⟩ (fun r1 V1 hp1 => ?_)
  obtain ⟨y1, rfl, -, hok, hf, hF1⟩ := hp1
  change pm_J X 371 (lw_lv i) [(0, y1)] 118 V1
  refine pm_pop hC rfl dL_law_371 ?_
  have hk1 := hf.hi (by decide)
  have hQ1 := hQ.hi hk1
  have hP1 := hP.hi hk1
  have hV1 := hV.ff hok hf (by decide) (by decide)
  refine pm_aload_n hC 2 (by decide) dL_law_372 rfl ?_
  refine lw_ld hC hS hL hi (c := 1) (by decide) dL_law_373 dL_law_374 dL_law_375 dL_law_376 dL_law_377 (fun a1x e1x b1x => ?_)
  refine lw_ld hC hS hL hi (c := 2) (by decide) dL_law_378 dL_law_379 dL_law_380 dL_law_381 dL_law_382 (fun a2x e2x b2x => ?_)
  refine lw_ld hC hS hL hi (c := 3) (by decide) dL_law_383 dL_law_384 dL_law_385 dL_law_386 dL_law_387 (fun a3x e3x b3x => ?_)
  obtain rfl : a1 = a1x := e1.symm.trans e1x
  obtain rfl : a2 = a2x := e2.symm.trans e2x
  obtain rfl : a3 = a3x := e3.symm.trans e3x
  rcases hV1.2.2.2 with hA | hB
  · have nS := lw_noS hA
    have g1 := hF1.symm.trans (mA_person (by have h := hQ1.hs; rw [nS.1] at h; exact h) (hQ1.2.2.2.2.1.trans nS.2.1) (hQ1.2.2.2.2.2.1.trans nS.2.2.1) ((hQ1.2.2.2.2.2.2 0 (by decide)).1.trans (nS.2.2.2.1 0 (by decide))) ((hQ1.2.2.2.2.2.2 1 (by decide)).1.trans (nS.2.2.2.1 1 (by decide))) ((hQ1.2.2.2.2.2.2 2 (by decide)).1.trans (nS.2.2.2.1 2 (by decide))) a1 a2 a3)
    obtain ⟨g2, g3⟩ := Prod.mk.inj g1
    obtain rfl : V = V1 := g3.symm
    refine pm_callV (ci := 12) (as := [(0, a1), (0, a2), (0, a3)]) (st := []) hC 90 (A_X12_person a1 a2 a3 b1 b2 b3) lm_L_46 li_X12_person (by decide) (by decide) rfl rfl rfl (by decide) rfl rfl (Nat.le_of_ble_eq_true rfl) ⟨Nat.le_refl _, Or.inl rfl⟩ dL_law_388 ⟨rfl, hA⟩ (fun r2 V2 hp2 => ?_)
    obtain ⟨y2, rfl, -, rfl⟩ := hp2
    change pm_J X 391 (lw_lv i) [(0, y2)] 118 V
    refine pm_pop hC rfl dL_law_391 ?_
    refine pm_goto (tgt := 1566) hC dL_law_392 (by decide) ?_
    exact nxt _ ⟨⟨hV, hQ⟩, hP⟩
  · skip
    refine pm_callV (ci := 12) (as := [(0, a1), (0, a2), (0, a3)]) (st := []) hC 90 (fB_X12_person a1 a2 a3 b1 b2 b3) lm_L_46 li_X12_person (by decide) (by decide) rfl rfl rfl (by decide) rfl rfl (Nat.le_of_ble_eq_true rfl) ⟨Nat.le_refl _, Or.inl rfl⟩ dL_law_388 ⟨rfl, hB.1⟩ (fun r2 V2 hp2 => ?_)
    obtain ⟨y2, rfl, -, hq, hg, hF2⟩ := hp2
    change pm_J X 391 (lw_lv i) [(0, y2)] 118 V2
    have hk2 := hg.lo (by decide)
    have hP2 := (mP_person hQ1 hP1 (by have b1 := hB.1.get 90 16 (lo := 2) (hi := 9) (t := 0) (by decide) (by decide) rfl; have b2 := hB.1.get 90 23 (lo := 0) (hi := 10) (t := 0) (by decide) (by decide) rfl; have b3 := hB.1.get 90 25 (lo := 0) (hi := 60) (t := 0) (by decide) (by decide) rfl; omega) a1 a2 a3 hF1 hF2).lo hk2
    obtain ⟨z, Z1, Z2, f1, f2, f3⟩ := mB_person hQ1 (by have b1 := hB.1.get 90 16 (lo := 2) (hi := 9) (t := 0) (by decide) (by decide) rfl; have b2 := hB.1.get 90 23 (lo := 0) (hi := 10) (t := 0) (by decide) (by decide) rfl; have b3 := hB.1.get 90 25 (lo := 0) (hi := 60) (t := 0) (by decide) (by decide) rfl; omega) a1 a2 a3
    have g1 := hF1.symm.trans f1
    have g2 := hF2.symm.trans f2
    obtain ⟨rfl, rfl⟩ := Prod.mk.inj g1
    obtain ⟨rfl, rfl⟩ := Prod.mk.inj g2
    have hQ2 := f3.lo hk2
    refine pm_pop hC rfl dL_law_391 ?_
    refine pm_goto (tgt := 1566) hC dL_law_392 (by decide) ?_
    exact nxt _ ⟨⟨(hV1.rB hB hq hg (by decide) (by decide) (by decide) (lw_k3 hB hg (by decide) (by decide)) (lw_k4 hB hg (by decide) (by decide))), hQ2⟩, hP2⟩
set_option maxHeartbeats 4000000 in
set_option maxRecDepth 100000 in
theorem lw_c_who (hC : pm_C X RL cL_law 4 60) (hS : pm_Sc X L xs) (hL : L ≤ 3072) (hi : 0 ≤ i ∧ i + 6 ≤ (L : Int)) (hI : lw_J V) (nxt : ∀ V', lw_J V' → pm_J X 1566 (lw_lv i) [] 118 V') : pm_J X 395 (lw_lv i) [] 118 V := by
  obtain ⟨⟨hV, hQ⟩, hP⟩ := hI
  refine pm_aload_n hC 1 (by decide) dL_law_395 rfl ?_
  refine lw_ld hC hS hL hi (c := 1) (by decide) dL_law_396 dL_law_397 dL_law_398 dL_law_399 dL_law_400 (fun a1 e1 b1 => ?_)
  refine lw_ld hC hS hL hi (c := 2) (by decide) dL_law_401 dL_law_402 dL_law_403 dL_law_404 dL_law_405 (fun a2 e2 b2 => ?_)
  refine pm_callV (ci := 11) (as := [(0, a1), (0, a2)]) (st := []) hC 0 (fD_X11_who_0 a1 a2 b1 b2) lm_L_47 li_X11_who (by decide) (by decide) rfl rfl rfl (by decide) rfl rfl (Nat.le_of_ble_eq_true rfl) ⟨Nat.le_refl _, Or.inl rfl⟩ dL_law_406 ⟨rfl, hV.1⟩ (fun r1 V1 hp1 => ?_)
  obtain ⟨y1, rfl, -, rfl, hF1⟩ := hp1
  change pm_J X 409 (lw_lv i) [(0, y1)] 118 V
  refine pm_pop hC rfl dL_law_409 ?_
  have hQ1 := hQ
  have hP1 := hP
  refine pm_aload_n hC 2 (by decide) dL_law_410 rfl ?_
  refine lw_ld hC hS hL hi (c := 1) (by decide) dL_law_411 dL_law_412 dL_law_413 dL_law_414 dL_law_415 (fun a1x e1x b1x => ?_)
  refine lw_ld hC hS hL hi (c := 2) (by decide) dL_law_416 dL_law_417 dL_law_418 dL_law_419 dL_law_420 (fun a2x e2x b2x => ?_)
  obtain rfl : a1 = a1x := e1.symm.trans e1x
  obtain rfl : a2 = a2x := e2.symm.trans e2x
  rcases hV.2.2.2 with hA | hB
  · have nS := lw_noS hA
    refine pm_callV (ci := 12) (as := [(0, a1), (0, a2)]) (st := []) hC 90 (A_X12_who a1 a2 b1 b2) lm_L_50 li_X12_who (by decide) (by decide) rfl rfl rfl (by decide) rfl rfl (Nat.le_of_ble_eq_true rfl) ⟨Nat.le_refl _, Or.inl rfl⟩ dL_law_421 ⟨rfl, hA⟩ (fun r2 V2 hp2 => ?_)
    obtain ⟨y2, rfl, -, rfl⟩ := hp2
    change pm_J X 424 (lw_lv i) [(0, y2)] 118 V
    refine pm_pop hC rfl dL_law_424 ?_
    refine pm_goto (tgt := 1566) hC dL_law_425 (by decide) ?_
    exact nxt _ ⟨⟨hV, hQ1⟩, hP1⟩
  · skip
    refine pm_callV (ci := 12) (as := [(0, a1), (0, a2)]) (st := []) hC 90 (fB_X12_who a1 a2 b1 b2) lm_L_50 li_X12_who (by decide) (by decide) rfl rfl rfl (by decide) rfl rfl (Nat.le_of_ble_eq_true rfl) ⟨Nat.le_refl _, Or.inl rfl⟩ dL_law_421 ⟨rfl, hB.1⟩ (fun r2 V2 hp2 => ?_)
    obtain ⟨y2, rfl, -, rfl, -⟩ := hp2
    change pm_J X 424 (lw_lv i) [(0, y2)] 118 V
    refine pm_pop hC rfl dL_law_424 ?_
    refine pm_goto (tgt := 1566) hC dL_law_425 (by decide) ?_
    exact nxt _ ⟨⟨hV, hQ1⟩, hP1⟩
set_option maxHeartbeats 4000000 in
set_option maxRecDepth 100000 in
theorem lw_c_becomes (hC : pm_C X RL cL_law 4 60) (hS : pm_Sc X L xs) (hL : L ≤ 3072) (hi : 0 ≤ i ∧ i + 6 ≤ (L : Int)) (hI : lw_J V) (nxt : ∀ V', lw_J V' → pm_J X 1566 (lw_lv i) [] 118 V') : pm_J X 428 (lw_lv i) [] 118 V := by
  obtain ⟨⟨hV, hQ⟩, hP⟩ := hI
  refine pm_aload_n hC 1 (by decide) dL_law_428 rfl ?_
  refine lw_ld hC hS hL hi (c := 1) (by decide) dL_law_429 dL_law_430 dL_law_431 dL_law_432 dL_law_433 (fun a1 e1 b1 => ?_)
  refine lw_ld hC hS hL hi (c := 2) (by decide) dL_law_434 dL_law_435 dL_law_436 dL_law_437 dL_law_438 (fun a2 e2 b2 => ?_)
  refine lw_ld hC hS hL hi (c := 3) (by decide) dL_law_439 dL_law_440 dL_law_441 dL_law_442 dL_law_443 (fun a3 e3 b3 => ?_)
  refine lw_ld hC hS hL hi (c := 4) (by decide) dL_law_444 dL_law_445 dL_law_446 dL_law_447 dL_law_448 (fun a4 e4 b4 => ?_)
  refine pm_callV (ci := 11) (as := [(0, a1), (0, a2), (0, a3), (0, a4)]) (st := []) hC 0 (fD_X11_becomes_0 a1 a2 a3 a4 b1 b2 b3 b4) lm_L_51 li_X11_becomes (by decide) (by decide) rfl rfl rfl (by decide) rfl rfl (Nat.le_of_ble_eq_true rfl) ⟨Nat.le_refl _, Or.inl rfl⟩ dL_law_449 ⟨rfl, hV.1⟩ (fun r1 V1 hp1 => ?_)
  obtain ⟨y1, rfl, -, hok, hf, hF1⟩ := hp1
  change pm_J X 452 (lw_lv i) [(0, y1)] 118 V1
  refine pm_pop hC rfl dL_law_452 ?_
  have hk1 := hf.hi (by decide)
  have hQ1 := hQ.hi hk1
  have hP1 := hP.hi hk1
  have hV1 := hV.ff hok hf (by decide) (by decide)
  refine pm_aload_n hC 2 (by decide) dL_law_453 rfl ?_
  refine lw_ld hC hS hL hi (c := 1) (by decide) dL_law_454 dL_law_455 dL_law_456 dL_law_457 dL_law_458 (fun a1x e1x b1x => ?_)
  refine lw_ld hC hS hL hi (c := 2) (by decide) dL_law_459 dL_law_460 dL_law_461 dL_law_462 dL_law_463 (fun a2x e2x b2x => ?_)
  refine lw_ld hC hS hL hi (c := 3) (by decide) dL_law_464 dL_law_465 dL_law_466 dL_law_467 dL_law_468 (fun a3x e3x b3x => ?_)
  refine lw_ld hC hS hL hi (c := 4) (by decide) dL_law_469 dL_law_470 dL_law_471 dL_law_472 dL_law_473 (fun a4x e4x b4x => ?_)
  obtain rfl : a1 = a1x := e1.symm.trans e1x
  obtain rfl : a2 = a2x := e2.symm.trans e2x
  obtain rfl : a3 = a3x := e3.symm.trans e3x
  obtain rfl : a4 = a4x := e4.symm.trans e4x
  rcases hV1.2.2.2 with hA | hB
  · have nS := lw_noS hA
    have g1 := hF1.symm.trans (mA_becomes (by have h := hQ1.hs; rw [nS.1] at h; exact h) (hQ1.2.2.2.2.1.trans nS.2.1) (hQ1.2.2.2.2.2.1.trans nS.2.2.1) ((hQ1.2.2.2.2.2.2 0 (by decide)).1.trans (nS.2.2.2.1 0 (by decide))) ((hQ1.2.2.2.2.2.2 1 (by decide)).1.trans (nS.2.2.2.1 1 (by decide))) ((hQ1.2.2.2.2.2.2 2 (by decide)).1.trans (nS.2.2.2.1 2 (by decide))) a1 a2 a3 a4)
    obtain ⟨g2, g3⟩ := Prod.mk.inj g1
    obtain rfl : V = V1 := g3.symm
    refine pm_callV (ci := 12) (as := [(0, a1), (0, a2), (0, a3), (0, a4)]) (st := []) hC 90 (A_X12_becomes a1 a2 a3 a4 b1 b2 b3 b4) lm_L_55 li_X12_becomes (by decide) (by decide) rfl rfl rfl (by decide) rfl rfl (Nat.le_of_ble_eq_true rfl) ⟨Nat.le_refl _, Or.inl rfl⟩ dL_law_474 ⟨rfl, hA⟩ (fun r2 V2 hp2 => ?_)
    obtain ⟨y2, rfl, -, rfl⟩ := hp2
    change pm_J X 477 (lw_lv i) [(0, y2)] 118 V
    refine pm_pop hC rfl dL_law_477 ?_
    refine pm_goto (tgt := 1566) hC dL_law_478 (by decide) ?_
    exact nxt _ ⟨⟨hV, hQ⟩, hP⟩
  · skip
    refine pm_callV (ci := 12) (as := [(0, a1), (0, a2), (0, a3), (0, a4)]) (st := []) hC 90 (fB_X12_becomes a1 a2 a3 a4 b1 b2 b3 b4) lm_L_55 li_X12_becomes (by decide) (by decide) rfl rfl rfl (by decide) rfl rfl (Nat.le_of_ble_eq_true rfl) ⟨Nat.le_refl _, Or.inl rfl⟩ dL_law_474 ⟨rfl, hB.1⟩ (fun r2 V2 hp2 => ?_)
    obtain ⟨y2, rfl, -, hq, hg, hF2⟩ := hp2
    change pm_J X 477 (lw_lv i) [(0, y2)] 118 V2
    have hk2 := hg.lo (by decide)
    have hP2 := (mP_becomes hQ1 hP1 a1 a2 a3 a4 hF1 hF2).lo hk2
    obtain ⟨z, Z1, Z2, f1, f2, f3⟩ := mB_becomes hQ1  a1 a2 a3 a4
    have g1 := hF1.symm.trans f1
    have g2 := hF2.symm.trans f2
    obtain ⟨rfl, rfl⟩ := Prod.mk.inj g1
    obtain ⟨rfl, rfl⟩ := Prod.mk.inj g2
    have hQ2 := f3.lo hk2
    refine pm_pop hC rfl dL_law_477 ?_
    refine pm_goto (tgt := 1566) hC dL_law_478 (by decide) ?_
    exact nxt _ ⟨⟨(hV1.rB hB hq hg (by decide) (by decide) (by decide) (lw_k3 hB hg (by decide) (by decide)) (lw_k4 hB hg (by decide) (by decide))), hQ2⟩, hP2⟩
set_option maxHeartbeats 4000000 in
set_option maxRecDepth 100000 in
theorem lw_c_weight (hC : pm_C X RL cL_law 4 60) (hS : pm_Sc X L xs) (hL : L ≤ 3072) (hi : 0 ≤ i ∧ i + 6 ≤ (L : Int)) (hI : lw_J V) (nxt : ∀ V', lw_J V' → pm_J X 1566 (lw_lv i) [] 118 V') : pm_J X 481 (lw_lv i) [] 118 V := by
  obtain ⟨⟨hV, hQ⟩, hP⟩ := hI
  refine pm_aload_n hC 1 (by decide) dL_law_481 rfl ?_
  refine lw_ld hC hS hL hi (c := 1) (by decide) dL_law_482 dL_law_483 dL_law_484 dL_law_485 dL_law_486 (fun a1 e1 b1 => ?_)
  refine lw_ld hC hS hL hi (c := 2) (by decide) dL_law_487 dL_law_488 dL_law_489 dL_law_490 dL_law_491 (fun a2 e2 b2 => ?_)
  refine lw_ld hC hS hL hi (c := 3) (by decide) dL_law_492 dL_law_493 dL_law_494 dL_law_495 dL_law_496 (fun a3 e3 b3 => ?_)
  refine lw_ld hC hS hL hi (c := 4) (by decide) dL_law_497 dL_law_498 dL_law_499 dL_law_500 dL_law_501 (fun a4 e4 b4 => ?_)
  refine lw_ld hC hS hL hi (c := 5) (by decide) dL_law_502 dL_law_503 dL_law_504 dL_law_505 dL_law_506 (fun a5 e5 b5 => ?_)
  refine pm_callV (ci := 11) (as := [(0, a1), (0, a2), (0, a3), (0, a4), (0, a5)]) (st := []) hC 0 (fD_X11_weight_0 a1 a2 a3 a4 a5 b1 b2 b3 b4 b5) lm_L_56 li_X11_weight (by decide) (by decide) rfl rfl rfl (by decide) rfl rfl (Nat.le_of_ble_eq_true rfl) ⟨Nat.le_refl _, Or.inl rfl⟩ dL_law_507 ⟨rfl, hV.1⟩ (fun r1 V1 hp1 => ?_)
  obtain ⟨y1, rfl, -, hok, hf, hF1⟩ := hp1
  change pm_J X 510 (lw_lv i) [(0, y1)] 118 V1
  refine pm_pop hC rfl dL_law_510 ?_
  have hk1 := hf.hi (by decide)
  have hQ1 := hQ.hi hk1
  have hP1 := hP.hi hk1
  have hV1 := hV.ff hok hf (by decide) (by decide)
  refine pm_aload_n hC 2 (by decide) dL_law_511 rfl ?_
  refine lw_ld hC hS hL hi (c := 1) (by decide) dL_law_512 dL_law_513 dL_law_514 dL_law_515 dL_law_516 (fun a1x e1x b1x => ?_)
  refine lw_ld hC hS hL hi (c := 2) (by decide) dL_law_517 dL_law_518 dL_law_519 dL_law_520 dL_law_521 (fun a2x e2x b2x => ?_)
  refine lw_ld hC hS hL hi (c := 3) (by decide) dL_law_522 dL_law_523 dL_law_524 dL_law_525 dL_law_526 (fun a3x e3x b3x => ?_)
  refine lw_ld hC hS hL hi (c := 4) (by decide) dL_law_527 dL_law_528 dL_law_529 dL_law_530 dL_law_531 (fun a4x e4x b4x => ?_)
  refine lw_ld hC hS hL hi (c := 5) (by decide) dL_law_532 dL_law_533 dL_law_534 dL_law_535 dL_law_536 (fun a5x e5x b5x => ?_)
  obtain rfl : a1 = a1x := e1.symm.trans e1x
  obtain rfl : a2 = a2x := e2.symm.trans e2x
  obtain rfl : a3 = a3x := e3.symm.trans e3x
  obtain rfl : a4 = a4x := e4.symm.trans e4x
  obtain rfl : a5 = a5x := e5.symm.trans e5x
  have hq1 := hQ1.ff hf (by decide)
  have hp1 := hP1.ff hf (by decide)
  rcases hV1.2.2.2 with hA | hB
  · have nS := lw_noS hA
    refine pm_callV (ci := 12) (as := [(0, a1), (0, a2), (0, a3), (0, a4), (0, a5)]) (st := []) hC 90 (A_X12_weight a1 a2 a3 a4 a5 b1 b2 b3 b4 b5) lm_L_59 li_X12_weight (by decide) (by decide) rfl rfl rfl (by decide) rfl rfl (Nat.le_of_ble_eq_true rfl) ⟨Nat.le_refl _, Or.inl rfl⟩ dL_law_537 ⟨rfl, hA⟩ (fun r2 V2 hp2 => ?_)
    obtain ⟨y2, rfl, -, rfl⟩ := hp2
    change pm_J X 540 (lw_lv i) [(0, y2)] 118 V1
    refine pm_pop hC rfl dL_law_540 ?_
    refine pm_goto (tgt := 1566) hC dL_law_541 (by decide) ?_
    exact nxt _ ⟨⟨hV1, hq1⟩, hp1⟩
  · skip
    refine pm_callV (ci := 12) (as := [(0, a1), (0, a2), (0, a3), (0, a4), (0, a5)]) (st := []) hC 90 (fB_X12_weight a1 a2 a3 a4 a5 b1 b2 b3 b4 b5) lm_L_59 li_X12_weight (by decide) (by decide) rfl rfl rfl (by decide) rfl rfl (Nat.le_of_ble_eq_true rfl) ⟨Nat.le_refl _, Or.inl rfl⟩ dL_law_537 ⟨rfl, hB.1, hB.2.1, hB.2.2.1⟩ (fun r2 V2 hp2 => ?_)
    obtain ⟨y2, rfl, -, hq, hg, -⟩ := hp2
    change pm_J X 540 (lw_lv i) [(0, y2)] 118 V2
    have hk2 := hg.lo (by decide)
    have hP2 := (hp1.fs hg (by decide)).lo hk2
    have hQ2 := (hq1.fs hg (by decide) (by decide)).lo hk2
    refine pm_pop hC rfl dL_law_540 ?_
    refine pm_goto (tgt := 1566) hC dL_law_541 (by decide) ?_
    exact nxt _ ⟨⟨(hV1.rB hB hq hg (by decide) (by decide) (by decide) (lw_k3 hB hg (by decide) (by decide)) (lw_k4 hB hg (by decide) (by decide))), hQ2⟩, hP2⟩
set_option maxHeartbeats 4000000 in
set_option maxRecDepth 100000 in
theorem lw_c_chance (hC : pm_C X RL cL_law 4 60) (hS : pm_Sc X L xs) (hL : L ≤ 3072) (hi : 0 ≤ i ∧ i + 6 ≤ (L : Int)) (hI : lw_J V) (nxt : ∀ V', lw_J V' → pm_J X 1566 (lw_lv i) [] 118 V') : pm_J X 544 (lw_lv i) [] 118 V := by
  obtain ⟨⟨hV, hQ⟩, hP⟩ := hI
  refine pm_aload_n hC 1 (by decide) dL_law_544 rfl ?_
  refine lw_ld hC hS hL hi (c := 1) (by decide) dL_law_545 dL_law_546 dL_law_547 dL_law_548 dL_law_549 (fun a1 e1 b1 => ?_)
  refine lw_ld hC hS hL hi (c := 2) (by decide) dL_law_550 dL_law_551 dL_law_552 dL_law_553 dL_law_554 (fun a2 e2 b2 => ?_)
  refine lw_ld hC hS hL hi (c := 3) (by decide) dL_law_555 dL_law_556 dL_law_557 dL_law_558 dL_law_559 (fun a3 e3 b3 => ?_)
  refine lw_ld hC hS hL hi (c := 4) (by decide) dL_law_560 dL_law_561 dL_law_562 dL_law_563 dL_law_564 (fun a4 e4 b4 => ?_)
  refine lw_ld hC hS hL hi (c := 5) (by decide) dL_law_565 dL_law_566 dL_law_567 dL_law_568 dL_law_569 (fun a5 e5 b5 => ?_)
  refine pm_callV (ci := 11) (as := [(0, a1), (0, a2), (0, a3), (0, a4), (0, a5)]) (st := []) hC 0 (fD_X11_chance_0 a1 a2 a3 a4 a5 b1 b2 b3 b4 b5) lm_L_60 li_X11_chance (by decide) (by decide) rfl rfl rfl (by decide) rfl rfl (Nat.le_of_ble_eq_true rfl) ⟨Nat.le_refl _, Or.inl rfl⟩ dL_law_570 ⟨rfl, hV.1⟩ (fun r1 V1 hp1 => ?_)
  obtain ⟨y1, rfl, -, hok, hf, hF1⟩ := hp1
  change pm_J X 573 (lw_lv i) [(0, y1)] 118 V1
  refine pm_pop hC rfl dL_law_573 ?_
  have hk1 := hf.hi (by decide)
  have hQ1 := hQ.hi hk1
  have hP1 := hP.hi hk1
  have hV1 := hV.ff hok hf (by decide) (by decide)
  refine pm_aload_n hC 2 (by decide) dL_law_574 rfl ?_
  refine lw_ld hC hS hL hi (c := 1) (by decide) dL_law_575 dL_law_576 dL_law_577 dL_law_578 dL_law_579 (fun a1x e1x b1x => ?_)
  refine lw_ld hC hS hL hi (c := 2) (by decide) dL_law_580 dL_law_581 dL_law_582 dL_law_583 dL_law_584 (fun a2x e2x b2x => ?_)
  refine lw_ld hC hS hL hi (c := 3) (by decide) dL_law_585 dL_law_586 dL_law_587 dL_law_588 dL_law_589 (fun a3x e3x b3x => ?_)
  refine lw_ld hC hS hL hi (c := 4) (by decide) dL_law_590 dL_law_591 dL_law_592 dL_law_593 dL_law_594 (fun a4x e4x b4x => ?_)
  refine lw_ld hC hS hL hi (c := 5) (by decide) dL_law_595 dL_law_596 dL_law_597 dL_law_598 dL_law_599 (fun a5x e5x b5x => ?_)
  obtain rfl : a1 = a1x := e1.symm.trans e1x
  obtain rfl : a2 = a2x := e2.symm.trans e2x
  obtain rfl : a3 = a3x := e3.symm.trans e3x
  obtain rfl : a4 = a4x := e4.symm.trans e4x
  obtain rfl : a5 = a5x := e5.symm.trans e5x
  have hq1 := hQ1.ff hf (by decide)
  have hp1 := hP1.ff hf (by decide)
  rcases hV1.2.2.2 with hA | hB
  · have nS := lw_noS hA
    refine pm_callV (ci := 12) (as := [(0, a1), (0, a2), (0, a3), (0, a4), (0, a5)]) (st := []) hC 90 (A_X12_chance a1 a2 a3 a4 a5 b1 b2 b3 b4 b5) lm_L_63 li_X12_chance (by decide) (by decide) rfl rfl rfl (by decide) rfl rfl (Nat.le_of_ble_eq_true rfl) ⟨Nat.le_refl _, Or.inl rfl⟩ dL_law_600 ⟨rfl, hA⟩ (fun r2 V2 hp2 => ?_)
    obtain ⟨y2, rfl, -, rfl⟩ := hp2
    change pm_J X 603 (lw_lv i) [(0, y2)] 118 V1
    refine pm_pop hC rfl dL_law_603 ?_
    refine pm_goto (tgt := 1566) hC dL_law_604 (by decide) ?_
    exact nxt _ ⟨⟨hV1, hq1⟩, hp1⟩
  · skip
    refine pm_callV (ci := 12) (as := [(0, a1), (0, a2), (0, a3), (0, a4), (0, a5)]) (st := []) hC 90 (fB_X12_chance a1 a2 a3 a4 a5 b1 b2 b3 b4 b5) lm_L_63 li_X12_chance (by decide) (by decide) rfl rfl rfl (by decide) rfl rfl (Nat.le_of_ble_eq_true rfl) ⟨Nat.le_refl _, Or.inl rfl⟩ dL_law_600 ⟨rfl, hB.1, hB.2.1, hB.2.2.1⟩ (fun r2 V2 hp2 => ?_)
    obtain ⟨y2, rfl, -, hq, hg, -⟩ := hp2
    change pm_J X 603 (lw_lv i) [(0, y2)] 118 V2
    have hk2 := hg.lo (by decide)
    have hP2 := (hp1.fs hg (by decide)).lo hk2
    have hQ2 := (hq1.fs hg (by decide) (by decide)).lo hk2
    refine pm_pop hC rfl dL_law_603 ?_
    refine pm_goto (tgt := 1566) hC dL_law_604 (by decide) ?_
    exact nxt _ ⟨⟨(hV1.rB hB hq hg (by decide) (by decide) (by decide) (lw_k3 hB hg (by decide) (by decide)) (lw_k4 hB hg (by decide) (by decide))), hQ2⟩, hP2⟩
set_option maxHeartbeats 4000000 in
set_option maxRecDepth 100000 in
theorem lw_c_kind (hC : pm_C X RL cL_law 4 60) (hS : pm_Sc X L xs) (hL : L ≤ 3072) (hi : 0 ≤ i ∧ i + 6 ≤ (L : Int)) (hI : lw_J V) (nxt : ∀ V', lw_J V' → pm_J X 1566 (lw_lv i) [] 118 V') : pm_J X 607 (lw_lv i) [] 118 V := by
  obtain ⟨⟨hV, hQ⟩, hP⟩ := hI
  refine pm_aload_n hC 1 (by decide) dL_law_607 rfl ?_
  refine lw_ld hC hS hL hi (c := 1) (by decide) dL_law_608 dL_law_609 dL_law_610 dL_law_611 dL_law_612 (fun a1 e1 b1 => ?_)
  refine lw_ld hC hS hL hi (c := 2) (by decide) dL_law_613 dL_law_614 dL_law_615 dL_law_616 dL_law_617 (fun a2 e2 b2 => ?_)
  refine lw_ld hC hS hL hi (c := 3) (by decide) dL_law_618 dL_law_619 dL_law_620 dL_law_621 dL_law_622 (fun a3 e3 b3 => ?_)
  refine lw_ld hC hS hL hi (c := 4) (by decide) dL_law_623 dL_law_624 dL_law_625 dL_law_626 dL_law_627 (fun a4 e4 b4 => ?_)
  refine lw_ld hC hS hL hi (c := 5) (by decide) dL_law_628 dL_law_629 dL_law_630 dL_law_631 dL_law_632 (fun a5 e5 b5 => ?_)
  refine pm_callV (ci := 11) (as := [(0, a1), (0, a2), (0, a3), (0, a4), (0, a5)]) (st := []) hC 0 (fD_X11_kind_0 a1 a2 a3 a4 a5 b1 b2 b3 b4 b5) lm_L_64 li_X11_kind (by decide) (by decide) rfl rfl rfl (by decide) rfl rfl (Nat.le_of_ble_eq_true rfl) ⟨Nat.le_refl _, Or.inl rfl⟩ dL_law_633 ⟨rfl, hV.1⟩ (fun r1 V1 hp1 => ?_)
  obtain ⟨y1, rfl, -, hok, hf, hF1⟩ := hp1
  change pm_J X 636 (lw_lv i) [(0, y1)] 118 V1
  refine pm_pop hC rfl dL_law_636 ?_
  have hk1 := hf.hi (by decide)
  have hQ1 := hQ.hi hk1
  have hP1 := hP.hi hk1
  have hV1 := hV.ff hok hf (by decide) (by decide)
  refine pm_aload_n hC 2 (by decide) dL_law_637 rfl ?_
  refine lw_ld hC hS hL hi (c := 1) (by decide) dL_law_638 dL_law_639 dL_law_640 dL_law_641 dL_law_642 (fun a1x e1x b1x => ?_)
  refine lw_ld hC hS hL hi (c := 2) (by decide) dL_law_643 dL_law_644 dL_law_645 dL_law_646 dL_law_647 (fun a2x e2x b2x => ?_)
  refine lw_ld hC hS hL hi (c := 3) (by decide) dL_law_648 dL_law_649 dL_law_650 dL_law_651 dL_law_652 (fun a3x e3x b3x => ?_)
  refine lw_ld hC hS hL hi (c := 4) (by decide) dL_law_653 dL_law_654 dL_law_655 dL_law_656 dL_law_657 (fun a4x e4x b4x => ?_)
  refine lw_ld hC hS hL hi (c := 5) (by decide) dL_law_658 dL_law_659 dL_law_660 dL_law_661 dL_law_662 (fun a5x e5x b5x => ?_)
  obtain rfl : a1 = a1x := e1.symm.trans e1x
  obtain rfl : a2 = a2x := e2.symm.trans e2x
  obtain rfl : a3 = a3x := e3.symm.trans e3x
  obtain rfl : a4 = a4x := e4.symm.trans e4x
  obtain rfl : a5 = a5x := e5.symm.trans e5x
  have hq1 := hQ1.ff hf (by decide)
  have hp1 := hP1.ff hf (by decide)
  rcases hV1.2.2.2 with hA | hB
  · have nS := lw_noS hA
    refine pm_callV (ci := 12) (as := [(0, a1), (0, a2), (0, a3), (0, a4), (0, a5)]) (st := []) hC 90 (A_X12_kind a1 a2 a3 a4 a5 b1 b2 b3 b4 b5) lm_L_67 li_X12_kind (by decide) (by decide) rfl rfl rfl (by decide) rfl rfl (Nat.le_of_ble_eq_true rfl) ⟨Nat.le_refl _, Or.inl rfl⟩ dL_law_663 ⟨rfl, hA⟩ (fun r2 V2 hp2 => ?_)
    obtain ⟨y2, rfl, -, rfl⟩ := hp2
    change pm_J X 666 (lw_lv i) [(0, y2)] 118 V1
    refine pm_pop hC rfl dL_law_666 ?_
    refine pm_goto (tgt := 1566) hC dL_law_667 (by decide) ?_
    exact nxt _ ⟨⟨hV1, hq1⟩, hp1⟩
  · skip
    refine pm_callV (ci := 12) (as := [(0, a1), (0, a2), (0, a3), (0, a4), (0, a5)]) (st := []) hC 90 (fB_X12_kind a1 a2 a3 a4 a5 b1 b2 b3 b4 b5) lm_L_67 li_X12_kind (by decide) (by decide) rfl rfl rfl (by decide) rfl rfl (Nat.le_of_ble_eq_true rfl) ⟨Nat.le_refl _, Or.inl rfl⟩ dL_law_663 ⟨rfl, hB.1, hB.2.1, hB.2.2.1⟩ (fun r2 V2 hp2 => ?_)
    obtain ⟨y2, rfl, -, hq, hg, -⟩ := hp2
    change pm_J X 666 (lw_lv i) [(0, y2)] 118 V2
    have hk2 := hg.lo (by decide)
    have hP2 := (hp1.fs hg (by decide)).lo hk2
    have hQ2 := (hq1.fs hg (by decide) (by decide)).lo hk2
    refine pm_pop hC rfl dL_law_666 ?_
    refine pm_goto (tgt := 1566) hC dL_law_667 (by decide) ?_
    exact nxt _ ⟨⟨(hV1.rB hB hq hg (by decide) (by decide) (by decide) (lw_k3 hB hg (by decide) (by decide)) (lw_k4 hB hg (by decide) (by decide))), hQ2⟩, hP2⟩
set_option maxHeartbeats 4000000 in
set_option maxRecDepth 100000 in
theorem lw_c_likely (hC : pm_C X RL cL_law 4 60) (hS : pm_Sc X L xs) (hL : L ≤ 3072) (hi : 0 ≤ i ∧ i + 6 ≤ (L : Int)) (hI : lw_J V) (nxt : ∀ V', lw_J V' → pm_J X 1566 (lw_lv i) [] 118 V') : pm_J X 670 (lw_lv i) [] 118 V := by
  obtain ⟨⟨hV, hQ⟩, hP⟩ := hI
  refine pm_aload_n hC 1 (by decide) dL_law_670 rfl ?_
  refine lw_ld hC hS hL hi (c := 1) (by decide) dL_law_671 dL_law_672 dL_law_673 dL_law_674 dL_law_675 (fun a1 e1 b1 => ?_)
  refine lw_ld hC hS hL hi (c := 2) (by decide) dL_law_676 dL_law_677 dL_law_678 dL_law_679 dL_law_680 (fun a2 e2 b2 => ?_)
  refine lw_ld hC hS hL hi (c := 3) (by decide) dL_law_681 dL_law_682 dL_law_683 dL_law_684 dL_law_685 (fun a3 e3 b3 => ?_)
  refine lw_ld hC hS hL hi (c := 4) (by decide) dL_law_686 dL_law_687 dL_law_688 dL_law_689 dL_law_690 (fun a4 e4 b4 => ?_)
  refine pm_callV (ci := 11) (as := [(0, a1), (0, a2), (0, a3), (0, a4)]) (st := []) hC 0 (fD_X11_likely_0 a1 a2 a3 a4 b1 b2 b3 b4) lm_L_68 li_X11_likely (by decide) (by decide) rfl rfl rfl (by decide) rfl rfl (Nat.le_of_ble_eq_true rfl) ⟨Nat.le_refl _, Or.inl rfl⟩ dL_law_691 ⟨rfl, hV.1⟩ (fun r1 V1 hp1 => ?_)
  obtain ⟨y1, rfl, -, hok, hf, hF1⟩ := hp1
  change pm_J X 694 (lw_lv i) [(0, y1)] 118 V1
  refine pm_pop hC rfl dL_law_694 ?_
  have hk1 := hf.hi (by decide)
  have hQ1 := hQ.hi hk1
  have hP1 := hP.hi hk1
  have hV1 := hV.ff hok hf (by decide) (by decide)
  refine pm_aload_n hC 2 (by decide) dL_law_695 rfl ?_
  refine lw_ld hC hS hL hi (c := 1) (by decide) dL_law_696 dL_law_697 dL_law_698 dL_law_699 dL_law_700 (fun a1x e1x b1x => ?_)
  refine lw_ld hC hS hL hi (c := 2) (by decide) dL_law_701 dL_law_702 dL_law_703 dL_law_704 dL_law_705 (fun a2x e2x b2x => ?_)
  refine lw_ld hC hS hL hi (c := 3) (by decide) dL_law_706 dL_law_707 dL_law_708 dL_law_709 dL_law_710 (fun a3x e3x b3x => ?_)
  refine lw_ld hC hS hL hi (c := 4) (by decide) dL_law_711 dL_law_712 dL_law_713 dL_law_714 dL_law_715 (fun a4x e4x b4x => ?_)
  obtain rfl : a1 = a1x := e1.symm.trans e1x
  obtain rfl : a2 = a2x := e2.symm.trans e2x
  obtain rfl : a3 = a3x := e3.symm.trans e3x
  obtain rfl : a4 = a4x := e4.symm.trans e4x
  have hq1 := hQ1.ff hf (by decide)
  have hp1 := hP1.ff hf (by decide)
  rcases hV1.2.2.2 with hA | hB
  · have nS := lw_noS hA
    refine pm_callV (ci := 12) (as := [(0, a1), (0, a2), (0, a3), (0, a4)]) (st := []) hC 90 (A_X12_likely a1 a2 a3 a4 b1 b2 b3 b4) lm_L_72 li_X12_likely (by decide) (by decide) rfl rfl rfl (by decide) rfl rfl (Nat.le_of_ble_eq_true rfl) ⟨Nat.le_refl _, Or.inl rfl⟩ dL_law_716 ⟨rfl, hA⟩ (fun r2 V2 hp2 => ?_)
    obtain ⟨y2, rfl, -, rfl⟩ := hp2
    change pm_J X 719 (lw_lv i) [(0, y2)] 118 V1
    refine pm_pop hC rfl dL_law_719 ?_
    refine pm_goto (tgt := 1566) hC dL_law_720 (by decide) ?_
    exact nxt _ ⟨⟨hV1, hq1⟩, hp1⟩
  · skip
    refine pm_callV (ci := 12) (as := [(0, a1), (0, a2), (0, a3), (0, a4)]) (st := []) hC 90 (fB_X12_likely a1 a2 a3 a4 b1 b2 b3 b4) lm_L_72 li_X12_likely (by decide) (by decide) rfl rfl rfl (by decide) rfl rfl (Nat.le_of_ble_eq_true rfl) ⟨Nat.le_refl _, Or.inl rfl⟩ dL_law_716 ⟨rfl, hB.1, hB.2.1, hB.2.2.1⟩ (fun r2 V2 hp2 => ?_)
    obtain ⟨y2, rfl, -, hq, hg, -⟩ := hp2
    change pm_J X 719 (lw_lv i) [(0, y2)] 118 V2
    have hk2 := hg.lo (by decide)
    have hP2 := (hp1.fs hg (by decide)).lo hk2
    have hQ2 := (hq1.fs hg (by decide) (by decide)).lo hk2
    refine pm_pop hC rfl dL_law_719 ?_
    refine pm_goto (tgt := 1566) hC dL_law_720 (by decide) ?_
    exact nxt _ ⟨⟨(hV1.rB hB hq hg (by decide) (by decide) (by decide) (lw_k3 hB hg (by decide) (by decide)) (lw_k4 hB hg (by decide) (by decide))), hQ2⟩, hP2⟩
set_option maxHeartbeats 4000000 in
set_option maxRecDepth 100000 in
theorem lw_c_noticed (hC : pm_C X RL cL_law 4 60) (hS : pm_Sc X L xs) (hL : L ≤ 3072) (hi : 0 ≤ i ∧ i + 6 ≤ (L : Int)) (hI : lw_J V) (nxt : ∀ V', lw_J V' → pm_J X 1566 (lw_lv i) [] 118 V') : pm_J X 723 (lw_lv i) [] 118 V := by
  obtain ⟨⟨hV, hQ⟩, hP⟩ := hI
  refine pm_aload_n hC 1 (by decide) dL_law_723 rfl ?_
  refine lw_ld hC hS hL hi (c := 1) (by decide) dL_law_724 dL_law_725 dL_law_726 dL_law_727 dL_law_728 (fun a1 e1 b1 => ?_)
  refine lw_ld hC hS hL hi (c := 2) (by decide) dL_law_729 dL_law_730 dL_law_731 dL_law_732 dL_law_733 (fun a2 e2 b2 => ?_)
  refine lw_ld hC hS hL hi (c := 3) (by decide) dL_law_734 dL_law_735 dL_law_736 dL_law_737 dL_law_738 (fun a3 e3 b3 => ?_)
  refine pm_callV (ci := 11) (as := [(0, a1), (0, a2), (0, a3)]) (st := []) hC 0 (fD_X11_noticed_0 a1 a2 a3 b1 b2 b3) lm_L_73 li_X11_noticed (by decide) (by decide) rfl rfl rfl (by decide) rfl rfl (Nat.le_of_ble_eq_true rfl) ⟨Nat.le_refl _, Or.inl rfl⟩ dL_law_739 ⟨rfl, hV.1⟩ (fun r1 V1 hp1 => ?_)
  obtain ⟨y1, rfl, -, hok, hf, hF1⟩ := hp1
  change pm_J X 742 (lw_lv i) [(0, y1)] 118 V1
  refine pm_pop hC rfl dL_law_742 ?_
  have hk1 := hf.hi (by decide)
  have hQ1 := hQ.hi hk1
  have hP1 := hP.hi hk1
  have hV1 := hV.ff hok hf (by decide) (by decide)
  refine pm_aload_n hC 2 (by decide) dL_law_743 rfl ?_
  refine lw_ld hC hS hL hi (c := 1) (by decide) dL_law_744 dL_law_745 dL_law_746 dL_law_747 dL_law_748 (fun a1x e1x b1x => ?_)
  refine lw_ld hC hS hL hi (c := 2) (by decide) dL_law_749 dL_law_750 dL_law_751 dL_law_752 dL_law_753 (fun a2x e2x b2x => ?_)
  refine lw_ld hC hS hL hi (c := 3) (by decide) dL_law_754 dL_law_755 dL_law_756 dL_law_757 dL_law_758 (fun a3x e3x b3x => ?_)
  obtain rfl : a1 = a1x := e1.symm.trans e1x
  obtain rfl : a2 = a2x := e2.symm.trans e2x
  obtain rfl : a3 = a3x := e3.symm.trans e3x
  have hq1 := hQ1.ff hf (by decide)
  have hp1 := hP1.ff hf (by decide)
  rcases hV1.2.2.2 with hA | hB
  · have nS := lw_noS hA
    refine pm_callV (ci := 12) (as := [(0, a1), (0, a2), (0, a3)]) (st := []) hC 90 (A_X12_noticed a1 a2 a3 b1 b2 b3) lm_L_76 li_X12_noticed (by decide) (by decide) rfl rfl rfl (by decide) rfl rfl (Nat.le_of_ble_eq_true rfl) ⟨Nat.le_refl _, Or.inl rfl⟩ dL_law_759 ⟨rfl, hA⟩ (fun r2 V2 hp2 => ?_)
    obtain ⟨y2, rfl, -, rfl⟩ := hp2
    change pm_J X 762 (lw_lv i) [(0, y2)] 118 V1
    refine pm_pop hC rfl dL_law_762 ?_
    refine pm_goto (tgt := 1566) hC dL_law_763 (by decide) ?_
    exact nxt _ ⟨⟨hV1, hq1⟩, hp1⟩
  · skip
    refine pm_callV (ci := 12) (as := [(0, a1), (0, a2), (0, a3)]) (st := []) hC 90 (fB_X12_noticed a1 a2 a3 b1 b2 b3) lm_L_76 li_X12_noticed (by decide) (by decide) rfl rfl rfl (by decide) rfl rfl (Nat.le_of_ble_eq_true rfl) ⟨Nat.le_refl _, Or.inl rfl⟩ dL_law_759 ⟨rfl, hB.1, hB.2.1, hB.2.2.1⟩ (fun r2 V2 hp2 => ?_)
    obtain ⟨y2, rfl, -, hq, hg, -⟩ := hp2
    change pm_J X 762 (lw_lv i) [(0, y2)] 118 V2
    have hk2 := hg.lo (by decide)
    have hP2 := (hp1.fs hg (by decide)).lo hk2
    have hQ2 := (hq1.fs hg (by decide) (by decide)).lo hk2
    refine pm_pop hC rfl dL_law_762 ?_
    refine pm_goto (tgt := 1566) hC dL_law_763 (by decide) ?_
    exact nxt _ ⟨⟨(hV1.rB hB hq hg (by decide) (by decide) (by decide) (lw_k3 hB hg (by decide) (by decide)) (lw_k4 hB hg (by decide) (by decide))), hQ2⟩, hP2⟩
set_option maxHeartbeats 4000000 in
set_option maxRecDepth 100000 in
theorem lw_c_answer (hC : pm_C X RL cL_law 4 60) (hS : pm_Sc X L xs) (hL : L ≤ 3072) (hi : 0 ≤ i ∧ i + 6 ≤ (L : Int)) (hI : lw_J V) (nxt : ∀ V', lw_J V' → pm_J X 1566 (lw_lv i) [] 118 V') : pm_J X 766 (lw_lv i) [] 118 V := by
  obtain ⟨⟨hV, hQ⟩, hP⟩ := hI
  refine pm_aload_n hC 1 (by decide) dL_law_766 rfl ?_
  refine lw_ld hC hS hL hi (c := 1) (by decide) dL_law_767 dL_law_768 dL_law_769 dL_law_770 dL_law_771 (fun a1 e1 b1 => ?_)
  refine lw_ld hC hS hL hi (c := 2) (by decide) dL_law_772 dL_law_773 dL_law_774 dL_law_775 dL_law_776 (fun a2 e2 b2 => ?_)
  refine lw_ld hC hS hL hi (c := 3) (by decide) dL_law_777 dL_law_778 dL_law_779 dL_law_780 dL_law_781 (fun a3 e3 b3 => ?_)
  refine lw_ld hC hS hL hi (c := 4) (by decide) dL_law_782 dL_law_783 dL_law_784 dL_law_785 dL_law_786 (fun a4 e4 b4 => ?_)
  refine pm_callV (ci := 11) (as := [(0, a1), (0, a2), (0, a3), (0, a4)]) (st := []) hC 0 (fD_X11_answer_0 a1 a2 a3 a4 b1 b2 b3 b4) lm_L_77 li_X11_answer (by decide) (by decide) rfl rfl rfl (by decide) rfl rfl (Nat.le_of_ble_eq_true rfl) ⟨Nat.le_refl _, Or.inl rfl⟩ dL_law_787 ⟨rfl, hV.1⟩ (fun r1 V1 hp1 => ?_)
  obtain ⟨y1, rfl, -, hok, hf, hF1⟩ := hp1
  change pm_J X 790 (lw_lv i) [(0, y1)] 118 V1
  refine pm_pop hC rfl dL_law_790 ?_
  have hk1 := hf.hi (by decide)
  have hQ1 := hQ.hi hk1
  have hP1 := hP.hi hk1
  have hV1 := hV.ff hok hf (by decide) (by decide)
  refine pm_aload_n hC 2 (by decide) dL_law_791 rfl ?_
  refine lw_ld hC hS hL hi (c := 1) (by decide) dL_law_792 dL_law_793 dL_law_794 dL_law_795 dL_law_796 (fun a1x e1x b1x => ?_)
  refine lw_ld hC hS hL hi (c := 2) (by decide) dL_law_797 dL_law_798 dL_law_799 dL_law_800 dL_law_801 (fun a2x e2x b2x => ?_)
  refine lw_ld hC hS hL hi (c := 3) (by decide) dL_law_802 dL_law_803 dL_law_804 dL_law_805 dL_law_806 (fun a3x e3x b3x => ?_)
  refine lw_ld hC hS hL hi (c := 4) (by decide) dL_law_807 dL_law_808 dL_law_809 dL_law_810 dL_law_811 (fun a4x e4x b4x => ?_)
  obtain rfl : a1 = a1x := e1.symm.trans e1x
  obtain rfl : a2 = a2x := e2.symm.trans e2x
  obtain rfl : a3 = a3x := e3.symm.trans e3x
  obtain rfl : a4 = a4x := e4.symm.trans e4x
  rcases hV1.2.2.2 with hA | hB
  · have nS := lw_noS hA
    have g1 := hF1.symm.trans (mA_answer (by have h := hQ1.hs; rw [nS.1] at h; exact h) (hQ1.2.2.2.2.1.trans nS.2.1) (hQ1.2.2.2.2.2.1.trans nS.2.2.1) ((hQ1.2.2.2.2.2.2 0 (by decide)).1.trans (nS.2.2.2.1 0 (by decide))) ((hQ1.2.2.2.2.2.2 1 (by decide)).1.trans (nS.2.2.2.1 1 (by decide))) ((hQ1.2.2.2.2.2.2 2 (by decide)).1.trans (nS.2.2.2.1 2 (by decide))) a1 a2 a3 a4)
    obtain ⟨g2, g3⟩ := Prod.mk.inj g1
    obtain rfl : V = V1 := g3.symm
    refine pm_callV (ci := 12) (as := [(0, a1), (0, a2), (0, a3), (0, a4)]) (st := []) hC 90 (A_X12_answer a1 a2 a3 a4 b1 b2 b3 b4) lm_L_80 li_X12_answer (by decide) (by decide) rfl rfl rfl (by decide) rfl rfl (Nat.le_of_ble_eq_true rfl) ⟨Nat.le_refl _, Or.inl rfl⟩ dL_law_812 ⟨rfl, hA⟩ (fun r2 V2 hp2 => ?_)
    obtain ⟨y2, rfl, -, rfl⟩ := hp2
    change pm_J X 815 (lw_lv i) [(0, y2)] 118 V
    refine pm_pop hC rfl dL_law_815 ?_
    refine pm_goto (tgt := 1566) hC dL_law_816 (by decide) ?_
    exact nxt _ ⟨⟨hV, hQ⟩, hP⟩
  · skip
    refine pm_callV (ci := 12) (as := [(0, a1), (0, a2), (0, a3), (0, a4)]) (st := []) hC 90 (fB_X12_answer a1 a2 a3 a4 b1 b2 b3 b4) lm_L_80 li_X12_answer (by decide) (by decide) rfl rfl rfl (by decide) rfl rfl (Nat.le_of_ble_eq_true rfl) ⟨Nat.le_refl _, Or.inl rfl⟩ dL_law_812 ⟨rfl, hB.1, hB.2.2.2.1⟩ (fun r2 V2 hp2 => ?_)
    obtain ⟨y2, rfl, -, hq, hg, h3, hF2⟩ := hp2
    change pm_J X 815 (lw_lv i) [(0, y2)] 118 V2
    have hk2 := hg.lo (by decide)
    have hP2 := ((hP1.ff hf (by decide)).fs hg (by decide)).lo hk2
    obtain ⟨z, Z1, Z2, f1, f2, f3⟩ := mB_answer hQ1 (by have b1 := hB.1.get 90 16 (lo := 2) (hi := 9) (t := 0) (by decide) (by decide) rfl; have b2 := hB.1.get 90 23 (lo := 0) (hi := 10) (t := 0) (by decide) (by decide) rfl; have b3 := hB.1.get 90 25 (lo := 0) (hi := 60) (t := 0) (by decide) (by decide) rfl; omega) a1 a2 a3 a4
    have g1 := hF1.symm.trans f1
    have g2 := hF2.symm.trans f2
    obtain ⟨rfl, rfl⟩ := Prod.mk.inj g1
    obtain ⟨rfl, rfl⟩ := Prod.mk.inj g2
    have hQ2 := f3.lo hk2
    refine pm_pop hC rfl dL_law_815 ?_
    refine pm_goto (tgt := 1566) hC dL_law_816 (by decide) ?_
    exact nxt _ ⟨⟨(hV1.rB hB hq hg (by decide) (by decide) (by decide) h3 (lw_k4 hB hg (by decide) (by decide))), hQ2⟩, hP2⟩
set_option maxHeartbeats 4000000 in
set_option maxRecDepth 100000 in
theorem lw_c_undo (hC : pm_C X RL cL_law 4 60) (hS : pm_Sc X L xs) (hL : L ≤ 3072) (hi : 0 ≤ i ∧ i + 6 ≤ (L : Int)) (hI : lw_J V) (nxt : ∀ V', lw_J V' → pm_J X 1566 (lw_lv i) [] 118 V') : pm_J X 819 (lw_lv i) [] 118 V := by
  obtain ⟨⟨hV, hQ⟩, hP⟩ := hI
  refine pm_aload_n hC 1 (by decide) dL_law_819 rfl ?_
  refine pm_callV (ci := 11) (as := []) (st := []) hC 0 fD_X11_undo_0 lm_L_81 li_X11_undo (by decide) (by decide) rfl rfl rfl (by decide) rfl rfl (Nat.le_of_ble_eq_true rfl) ⟨Nat.le_refl _, Or.inl rfl⟩ dL_law_820 ⟨rfl, hV.1⟩ (fun r1 V1 hp1 => ?_)
  obtain ⟨y1, rfl, bb1, hok, hf, hF1⟩ := hp1
  change pm_J X 823 (lw_lv i) [(0, y1)] 118 V1
  have hk1 := hf.hi (by decide)
  have hQ1 := hQ.hi hk1
  have hP1 := hP.hi hk1
  have hV1 := hV.ff hok hf (by decide) (by decide)
  refine pm_aload_n hC 2 (by decide) dL_law_823 rfl ?_
  rcases hV1.2.2.2 with hA | hB
  · have nS := lw_noS hA
    have g1 := hF1.symm.trans (mA_undo (by have h := hQ1.hs; rw [nS.1] at h; exact h) (hQ1.2.2.2.2.1.trans nS.2.1) (hQ1.2.2.2.2.2.1.trans nS.2.2.1) ((hQ1.2.2.2.2.2.2 0 (by decide)).1.trans (nS.2.2.2.1 0 (by decide))) ((hQ1.2.2.2.2.2.2 1 (by decide)).1.trans (nS.2.2.2.1 1 (by decide))) ((hQ1.2.2.2.2.2.2 2 (by decide)).1.trans (nS.2.2.2.1 2 (by decide))) )
    obtain ⟨g2, g3⟩ := Prod.mk.inj g1
    obtain rfl : V = V1 := g3.symm
    refine pm_callV (ci := 12) (as := []) (st := [(0, y1)]) hC 90 A_X12_undo lm_L_84 li_X12_undo (by decide) (by decide) rfl rfl rfl (by decide) rfl rfl (Nat.le_of_ble_eq_true rfl) ⟨Nat.le_refl _, Or.inl rfl⟩ dL_law_824 ⟨rfl, hA⟩ (fun r2 V2 hp2 => ?_)
    obtain ⟨y2, rfl, bb2, rfl⟩ := hp2
    change pm_J X 827 (lw_lv i) [(0, y2), (0, y1)] 118 V
    refine pm_icmp_eq (tgt := 1566) hC ⟨by omega, by omega⟩ ⟨by omega, by omega⟩ dL_law_827 (by decide) (fun c => ?_) (fun c => ?_)
    · exact nxt _ ⟨⟨hV, hQ⟩, hP⟩
    · exact absurd (show y1 = y2 by omega) c
  · skip
    refine pm_callV (ci := 12) (as := []) (st := [(0, y1)]) hC 90 fB_X12_undo lm_L_84 li_X12_undo (by decide) (by decide) rfl rfl rfl (by decide) rfl rfl (Nat.le_of_ble_eq_true rfl) ⟨Nat.le_refl _, Or.inl rfl⟩ dL_law_824 ⟨rfl, hB.1, hB.2.2.2.1⟩ (fun r2 V2 hp2 => ?_)
    obtain ⟨y2, rfl, bb2, hq, hg, h3, hF2⟩ := hp2
    change pm_J X 827 (lw_lv i) [(0, y2), (0, y1)] 118 V2
    have hk2 := hg.lo (by decide)
    have hP2 := ((hP1.ff hf (by decide)).fs hg (by decide)).lo hk2
    obtain ⟨z, Z1, Z2, f1, f2, f3⟩ := mB_undo hQ1 (by have b1 := hB.1.get 90 16 (lo := 2) (hi := 9) (t := 0) (by decide) (by decide) rfl; have b2 := hB.1.get 90 23 (lo := 0) (hi := 10) (t := 0) (by decide) (by decide) rfl; have b3 := hB.1.get 90 25 (lo := 0) (hi := 60) (t := 0) (by decide) (by decide) rfl; omega) 
    have g1 := hF1.symm.trans f1
    have g2 := hF2.symm.trans f2
    obtain ⟨rfl, rfl⟩ := Prod.mk.inj g1
    obtain ⟨rfl, rfl⟩ := Prod.mk.inj g2
    have hQ2 := f3.lo hk2
    refine pm_icmp_eq (tgt := 1566) hC ⟨by omega, by omega⟩ ⟨by omega, by omega⟩ dL_law_827 (by decide) (fun c => ?_) (fun c => ?_)
    · exact nxt _ ⟨⟨(hV1.rB hB hq hg (by decide) (by decide) (by decide) h3 (lw_k4 hB hg (by decide) (by decide))), hQ2⟩, hP2⟩
    · exact absurd rfl c
set_option maxHeartbeats 4000000 in
set_option maxRecDepth 100000 in
theorem lw_c_of (hC : pm_C X RL cL_law 4 60) (hS : pm_Sc X L xs) (hL : L ≤ 3072) (hi : 0 ≤ i ∧ i + 6 ≤ (L : Int)) (hI : lw_J V) (nxt : ∀ V', lw_J V' → pm_J X 1566 (lw_lv i) [] 118 V') : pm_J X 832 (lw_lv i) [] 118 V := by
  obtain ⟨⟨hV, hQ⟩, hP⟩ := hI
  refine pm_aload_n hC 1 (by decide) dL_law_832 rfl ?_
  refine lw_ld hC hS hL hi (c := 1) (by decide) dL_law_833 dL_law_834 dL_law_835 dL_law_836 dL_law_837 (fun a1 e1 b1 => ?_)
  refine lw_ld hC hS hL hi (c := 2) (by decide) dL_law_838 dL_law_839 dL_law_840 dL_law_841 dL_law_842 (fun a2 e2 b2 => ?_)
  refine pm_callV (ci := 11) (as := [(0, a1), (0, a2)]) (st := []) hC 0 (fD_X11_of_0 a1 a2 b1 b2) lm_L_85 li_X11_of (by decide) (by decide) rfl rfl rfl (by decide) rfl rfl (Nat.le_of_ble_eq_true rfl) ⟨Nat.le_refl _, Or.inl rfl⟩ dL_law_843 ⟨rfl, hV.1⟩ (fun r1 V1 hp1 => ?_)
  obtain ⟨y1, rfl, -, rfl, hF1⟩ := hp1
  change pm_J X 846 (lw_lv i) [(0, y1)] 118 V
  refine pm_pop hC rfl dL_law_846 ?_
  have hQ1 := hQ
  have hP1 := hP
  refine pm_aload_n hC 2 (by decide) dL_law_847 rfl ?_
  refine lw_ld hC hS hL hi (c := 1) (by decide) dL_law_848 dL_law_849 dL_law_850 dL_law_851 dL_law_852 (fun a1x e1x b1x => ?_)
  refine lw_ld hC hS hL hi (c := 2) (by decide) dL_law_853 dL_law_854 dL_law_855 dL_law_856 dL_law_857 (fun a2x e2x b2x => ?_)
  obtain rfl : a1 = a1x := e1.symm.trans e1x
  obtain rfl : a2 = a2x := e2.symm.trans e2x
  rcases hV.2.2.2 with hA | hB
  · have nS := lw_noS hA
    refine pm_callV (ci := 12) (as := [(0, a1), (0, a2)]) (st := []) hC 90 (A_X12_of a1 a2 b1 b2) lm_L_88 li_X12_of (by decide) (by decide) rfl rfl rfl (by decide) rfl rfl (Nat.le_of_ble_eq_true rfl) ⟨Nat.le_refl _, Or.inl rfl⟩ dL_law_858 ⟨rfl, hA⟩ (fun r2 V2 hp2 => ?_)
    obtain ⟨y2, rfl, -, rfl⟩ := hp2
    change pm_J X 861 (lw_lv i) [(0, y2)] 118 V
    refine pm_pop hC rfl dL_law_861 ?_
    refine pm_goto (tgt := 1566) hC dL_law_862 (by decide) ?_
    exact nxt _ ⟨⟨hV, hQ1⟩, hP1⟩
  · skip
    refine pm_callV (ci := 12) (as := [(0, a1), (0, a2)]) (st := []) hC 90 (fB_X12_of a1 a2 b1 b2) lm_L_88 li_X12_of (by decide) (by decide) rfl rfl rfl (by decide) rfl rfl (Nat.le_of_ble_eq_true rfl) ⟨Nat.le_refl _, Or.inl rfl⟩ dL_law_858 ⟨rfl, hB.1, hB.2.1, hB.2.2.2.1⟩ (fun r2 V2 hp2 => ?_)
    obtain ⟨y2, rfl, -, hq, hg, -⟩ := hp2
    change pm_J X 861 (lw_lv i) [(0, y2)] 118 V2
    have hk2 := hg.lo (by decide)
    have hP2 := (hP1.fs hg (by decide)).lo hk2
    have hQ2 := (hQ1.fs hg (by decide) (by decide)).lo hk2
    refine pm_pop hC rfl dL_law_861 ?_
    refine pm_goto (tgt := 1566) hC dL_law_862 (by decide) ?_
    exact nxt _ ⟨⟨(hV.rB hB hq hg (by decide) (by decide) (by decide) (lw_k3 hB hg (by decide) (by decide)) (lw_k4 hB hg (by decide) (by decide))), hQ2⟩, hP2⟩
set_option maxHeartbeats 4000000 in
set_option maxRecDepth 100000 in
theorem lw_c_more (hC : pm_C X RL cL_law 4 60) (hS : pm_Sc X L xs) (hL : L ≤ 3072) (hi : 0 ≤ i ∧ i + 6 ≤ (L : Int)) (hI : lw_J V) (nxt : ∀ V', lw_J V' → pm_J X 1566 (lw_lv i) [] 118 V') : pm_J X 865 (lw_lv i) [] 118 V := by
  obtain ⟨⟨hV, hQ⟩, hP⟩ := hI
  refine pm_aload_n hC 1 (by decide) dL_law_865 rfl ?_
  refine lw_ld hC hS hL hi (c := 1) (by decide) dL_law_866 dL_law_867 dL_law_868 dL_law_869 dL_law_870 (fun a1 e1 b1 => ?_)
  refine lw_ld hC hS hL hi (c := 2) (by decide) dL_law_871 dL_law_872 dL_law_873 dL_law_874 dL_law_875 (fun a2 e2 b2 => ?_)
  refine lw_ld hC hS hL hi (c := 3) (by decide) dL_law_876 dL_law_877 dL_law_878 dL_law_879 dL_law_880 (fun a3 e3 b3 => ?_)
  refine pm_callV (ci := 11) (as := [(0, a1), (0, a2), (0, a3)]) (st := []) hC 0 (uD_X11_more_0 a1 a2 a3 b1 b2 b3) lm_L_89 li_X11_more (by decide) (by decide) rfl rfl rfl (by decide) rfl rfl (Nat.le_of_ble_eq_true rfl) ⟨Nat.le_refl _, Or.inl rfl⟩ dL_law_881 ⟨rfl, hV.1⟩ (fun r1 V1 hp1 => ?_)
  obtain ⟨y1, rfl, -, hok, hf⟩ := hp1
  change pm_J X 884 (lw_lv i) [(0, y1)] 118 V1
  refine pm_pop hC rfl dL_law_884 ?_
  have hk1 := hf.hi (by decide)
  have hQ1 := hQ.hi hk1
  have hP1 := hP.hi hk1
  have hV1 := hV.ff hok hf (by decide) (by decide)
  refine pm_aload_n hC 2 (by decide) dL_law_885 rfl ?_
  refine lw_ld hC hS hL hi (c := 1) (by decide) dL_law_886 dL_law_887 dL_law_888 dL_law_889 dL_law_890 (fun a1x e1x b1x => ?_)
  refine lw_ld hC hS hL hi (c := 2) (by decide) dL_law_891 dL_law_892 dL_law_893 dL_law_894 dL_law_895 (fun a2x e2x b2x => ?_)
  refine lw_ld hC hS hL hi (c := 3) (by decide) dL_law_896 dL_law_897 dL_law_898 dL_law_899 dL_law_900 (fun a3x e3x b3x => ?_)
  obtain rfl : a1 = a1x := e1.symm.trans e1x
  obtain rfl : a2 = a2x := e2.symm.trans e2x
  obtain rfl : a3 = a3x := e3.symm.trans e3x
  have hq1 := hQ1.ff hf (by decide)
  have hp1 := hP1.ff hf (by decide)
  rcases hV1.2.2.2 with hA | hB
  · have nS := lw_noS hA
    refine pm_callV (ci := 12) (as := [(0, a1), (0, a2), (0, a3)]) (st := []) hC 90 (A_X12_more a1 a2 a3 b1 b2 b3) lm_L_92 li_X12_more (by decide) (by decide) rfl rfl rfl (by decide) rfl rfl (Nat.le_of_ble_eq_true rfl) ⟨Nat.le_refl _, Or.inl rfl⟩ dL_law_901 ⟨rfl, hA⟩ (fun r2 V2 hp2 => ?_)
    obtain ⟨y2, rfl, -, rfl⟩ := hp2
    change pm_J X 904 (lw_lv i) [(0, y2)] 118 V1
    refine pm_pop hC rfl dL_law_904 ?_
    refine pm_goto (tgt := 1566) hC dL_law_905 (by decide) ?_
    exact nxt _ ⟨⟨hV1, hq1⟩, hp1⟩
  · skip
    refine pm_callV (ci := 12) (as := [(0, a1), (0, a2), (0, a3)]) (st := []) hC 90 (fB_X12_more a1 a2 a3 b1 b2 b3) lm_L_92 li_X12_more (by decide) (by decide) rfl rfl rfl (by decide) rfl rfl (Nat.le_of_ble_eq_true rfl) ⟨Nat.le_refl _, Or.inl rfl⟩ dL_law_901 ⟨rfl, hB.1, hB.2.1, hB.2.2.1, hB.2.2.2.1⟩ (fun r2 V2 hp2 => ?_)
    obtain ⟨y2, rfl, -, hq, hg, -⟩ := hp2
    change pm_J X 904 (lw_lv i) [(0, y2)] 118 V2
    have hk2 := hg.lo (by decide)
    have hP2 := (hp1.fs hg (by decide)).lo hk2
    have hQ2 := (hq1.fs hg (by decide) (by decide)).lo hk2
    refine pm_pop hC rfl dL_law_904 ?_
    refine pm_goto (tgt := 1566) hC dL_law_905 (by decide) ?_
    exact nxt _ ⟨⟨(hV1.rB hB hq hg (by decide) (by decide) (by decide) (lw_k3 hB hg (by decide) (by decide)) (lw_k4 hB hg (by decide) (by decide))), hQ2⟩, hP2⟩
set_option maxHeartbeats 4000000 in
set_option maxRecDepth 100000 in
theorem lw_c_best (hC : pm_C X RL cL_law 4 60) (hS : pm_Sc X L xs) (hL : L ≤ 3072) (hi : 0 ≤ i ∧ i + 6 ≤ (L : Int)) (hI : lw_J V) (nxt : ∀ V', lw_J V' → pm_J X 1566 (lw_lv i) [] 118 V') : pm_J X 908 (lw_lv i) [] 118 V := by
  obtain ⟨⟨hV, hQ⟩, hP⟩ := hI
  refine pm_aload_n hC 1 (by decide) dL_law_908 rfl ?_
  refine lw_ld hC hS hL hi (c := 1) (by decide) dL_law_909 dL_law_910 dL_law_911 dL_law_912 dL_law_913 (fun a1 e1 b1 => ?_)
  refine pm_callV (ci := 11) (as := [(0, a1)]) (st := []) hC 0 (uD_X11_best_0 a1 b1) lm_L_93 li_X11_best (by decide) (by decide) rfl rfl rfl (by decide) rfl rfl (Nat.le_of_ble_eq_true rfl) ⟨Nat.le_refl _, Or.inl rfl⟩ dL_law_914 ⟨rfl, hV.1⟩ (fun r1 V1 hp1 => ?_)
  obtain ⟨y1, rfl, -, hok, hf⟩ := hp1
  change pm_J X 917 (lw_lv i) [(0, y1)] 118 V1
  refine pm_pop hC rfl dL_law_917 ?_
  have hk1 := hf.hi (by decide)
  have hQ1 := hQ.hi hk1
  have hP1 := hP.hi hk1
  have hV1 := hV.ff hok hf (by decide) (by decide)
  refine pm_aload_n hC 2 (by decide) dL_law_918 rfl ?_
  refine lw_ld hC hS hL hi (c := 1) (by decide) dL_law_919 dL_law_920 dL_law_921 dL_law_922 dL_law_923 (fun a1x e1x b1x => ?_)
  obtain rfl : a1 = a1x := e1.symm.trans e1x
  have hq1 := hQ1.ff hf (by decide)
  have hp1 := hP1.ff hf (by decide)
  rcases hV1.2.2.2 with hA | hB
  · have nS := lw_noS hA
    refine pm_callV (ci := 12) (as := [(0, a1)]) (st := []) hC 90 (A_X12_best a1 b1) lm_L_96 li_X12_best (by decide) (by decide) rfl rfl rfl (by decide) rfl rfl (Nat.le_of_ble_eq_true rfl) ⟨Nat.le_refl _, Or.inl rfl⟩ dL_law_924 ⟨rfl, hA⟩ (fun r2 V2 hp2 => ?_)
    obtain ⟨y2, rfl, -, rfl⟩ := hp2
    change pm_J X 927 (lw_lv i) [(0, y2)] 118 V1
    refine pm_pop hC rfl dL_law_927 ?_
    refine pm_goto (tgt := 1566) hC dL_law_928 (by decide) ?_
    exact nxt _ ⟨⟨hV1, hq1⟩, hp1⟩
  · skip
    refine pm_callV (ci := 12) (as := [(0, a1)]) (st := []) hC 90 (fB_X12_best a1 b1) lm_L_96 li_X12_best (by decide) (by decide) rfl rfl rfl (by decide) rfl rfl (Nat.le_of_ble_eq_true rfl) ⟨Nat.le_refl _, Or.inl rfl⟩ dL_law_924 ⟨rfl, hB.1, hB.2.1, hB.2.2.1, hB.2.2.2.1⟩ (fun r2 V2 hp2 => ?_)
    obtain ⟨y2, rfl, -, hq, hg, -⟩ := hp2
    change pm_J X 927 (lw_lv i) [(0, y2)] 118 V2
    have hk2 := hg.lo (by decide)
    have hP2 := (hp1.fs hg (by decide)).lo hk2
    have hQ2 := (hq1.fs hg (by decide) (by decide)).lo hk2
    refine pm_pop hC rfl dL_law_927 ?_
    refine pm_goto (tgt := 1566) hC dL_law_928 (by decide) ?_
    exact nxt _ ⟨⟨(hV1.rB hB hq hg (by decide) (by decide) (by decide) (lw_k3 hB hg (by decide) (by decide)) (lw_k4 hB hg (by decide) (by decide))), hQ2⟩, hP2⟩
end LW
