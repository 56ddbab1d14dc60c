/-! THE LAW'S CASES: questions, by program -/
theorem cs_count {G : am_G} {dp a b n len : Nat} {m : am_M} {Q : am_Q} {o5 o6 o7 : Option am_V} {xs : Nat → Int32} (hsc : va_X G.2.2.1 len xs G.2.1 G.2.1.heap) (hz : SZ G) (hnc : NC G) (hdp : 40 ≤ dp) (ha : 8 ≤ a) (hb : 48 ≤ b) (hl : n + 6 ≤ len) (hl2 : len ≤ 3072) (hJ : zJ m len) (kk : zK G dp a b len n Q) : X G dp a b ML_law 330 (LL n o5 o6 o7) [] m Q := by
  obtain ⟨I, Z⟩ := m
  obtain ⟨w, s, R, na, Pa, tp, nt, l, f, g, Ri, hS, hC, hR, hP⟩ := hJ
  have hRV : RV R := hC.1.1.1
  obtain ⟨A9, hA9, _⟩ := hC.1.2
  refine X_aload_n dL_law_330 rfl rfl ?_
  refine L_ld (k := 1) dL_law_331 dL_law_332 dL_law_334 dL_law_335 dL_law_336 (by decide) hl hl2 hsc ?_
  refine X_aload_n dL_law_337 rfl rfl ?_
  refine X_callSH (As := [rV (some 1), iV (xs (n + 1)).toInt, rV (some 122)]) (rest := []) (a' := 4) (b' := 24) dL_law_338 th_count ml_L_121 rfl rfl (Nat.le_of_ble_eq_true rfl) rfl (by omega) (by omega) (by omega) ?_
  have H : zH I Z (am_go (fun r m' => X G dp (a - 4) (b - 24) ML_law (338 + 3) (LL n o5 o6 o7) (r.toList ++ []) m' Q) (fun k m' => Q (.inr k) m')) (A_count R na nt (xs (n + 1)).toInt) (B_count R na nt (xs (n + 1)).toInt) False := by
    intro k v ho I1 g1 g2
    have hR1 := hR.cf fun x h1 h2 => g1 x h2 (by omega)
    have e0 : ∀ j, I1 0 j = I 0 j := fun j => by rw [g1 0 (by omega) (by omega)]
    refine X_istore dL_law_341 (Nat.le_of_ble_eq_true rfl) ?_
    refine X_aload_n dL_law_343 rfl rfl ?_
    refine L_ld (k := 1) dL_law_344 dL_law_345 dL_law_347 dL_law_348 dL_law_349 (by decide) hl hl2 hsc ?_
    have T0 : ∀ k' v', zA (A_count R na nt (xs (n + 1)).toInt) (B_count R na nt (xs (n + 1)).toInt) False k' v' → ∀ I2, MF I1 I2 → I2 103 7 = k' → am_go (fun r m' => X G dp (a - 4 - 4) (b - 24 - 24) ML_law (350 + 3) (LL n (some (iV k)) o6 o7) (r.toList ++ []) m' Q) (fun k m' => Q (.inr k) m') (.inl (some (iV v'))) (I2, Z) := by
      intro k' v' ho' I2 m2 c2
      obtain ⟨rfl, rfl⟩ := ho.fn ho' (f_count)
      exact L_taili (by omega) hS.2.1 hS.2.2.1 c2 (fun e => by rw [m2.1 122 (by omega) (by omega)]; exact g2 e) dL_law_353 dL_law_355 dL_law_356 dL_law_359 dL_law_361 dL_law_366 dL_law_368 dL_law_371 dL_law_372 dL_law_373 dL_law_374 dL_law_376 dL_law_377 dL_law_378 dL_law_383 ⟨rfl, rfl, rfl, rfl, rfl, rfl, rfl, rfl, rfl, rfl, rfl, rfl, rfl, rfl, by decide⟩ (kk _ _ _ _ _ _ (by omega) (by omega) (zJ.q hS hC hR hP g1 m2))
    refine X_callV (As := [iV (xs (n + 1)).toInt]) (rest := []) (r := 103) (a' := 4) (b' := 24) dL_law_350 t9_count ml_L_123 (am_ow hS.2.1.1) rfl rfl (Nat.le_of_ble_eq_true rfl) rfl (by omega) (by omega) (by omega) ?_
    exact r_count (hd := by omega) (hM := hS.2.1) (hv := hR1.1) (hR := hRV) (hD := hP.1) (hn := hR1.2.1.1) (h0 := fun v I2 e m c => T0 0 v (Or.inl ⟨rfl, by have e1 : I1 103 24 = nt := hR1.2.2.1.1; rw [e1] at e; exact e⟩) I2 m c) (h1 := fun b I2 m c => T0 1 0 (Or.inr (Or.inl ⟨rfl, rfl, by have e1 : I1 103 24 = nt := hR1.2.2.1.1; rw [e1] at b; exact b⟩)) I2 m c)
  exact w_count hnc (by omega) (am_ow hS.1.o) fun Q1 hK => q_count (hd := by omega) (hC := hS.1) (hI := hC.1.1) (hA := hA9) (h0 := fun v e => hK _ _ (H.i hS.2.2.1 (fun _ _ => rfl) (by have e1 : I 1 1 = nt := hC.2.1.1; rw [e1] at e; exact e))) (h1 := fun b => hK _ _ (H.i1 (by have e1 : I 1 1 = nt := hC.2.1.1; rw [e1] at b; exact b) ⟨rfl, rfl⟩))
theorem cs_race {G : am_G} {dp a b n len : Nat} {m : am_M} {Q : am_Q} {o5 o6 o7 : Option am_V} {xs : Nat → Int32} (hsc : va_X G.2.2.1 len xs G.2.1 G.2.1.heap) (hz : SZ G) (hnc : NC G) (hdp : 40 ≤ dp) (ha : 8 ≤ a) (hb : 48 ≤ b) (hl : n + 6 ≤ len) (hl2 : len ≤ 3072) (hJ : zJ m len) (kk : zK G dp a b len n Q) : X G dp a b ML_law 386 (LL n o5 o6 o7) [] m Q := by
  obtain ⟨I, Z⟩ := m
  obtain ⟨w, s, R, na, Pa, tp, nt, l, f, g, Ri, hS, hC, hR, hP⟩ := hJ
  have hRV : RV R := hC.1.1.1
  refine X_aload_n dL_law_386 rfl rfl ?_
  refine L_ld (k := 1) dL_law_387 dL_law_388 dL_law_390 dL_law_391 dL_law_392 (by decide) hl hl2 hsc ?_
  refine L_ld (k := 2) dL_law_393 dL_law_394 dL_law_396 dL_law_397 dL_law_398 (by decide) hl hl2 hsc ?_
  refine X_aload_n dL_law_399 rfl rfl ?_
  refine X_callSH (As := [rV (some 1), iV (xs (n + 1)).toInt, iV (xs (n + 2)).toInt, rV (some 122)]) (rest := []) (a' := 4) (b' := 24) dL_law_400 th_race ml_L_124 rfl rfl (Nat.le_of_ble_eq_true rfl) rfl (by omega) (by omega) (by omega) ?_
  have H : zH I Z (am_go (fun r m' => X G dp (a - 4) (b - 24) ML_law (400 + 3) (LL n o5 o6 o7) (r.toList ++ []) m' Q) (fun k m' => Q (.inr k) m')) (A_race R (xs (n + 1)).toInt (xs (n + 2)).toInt) (B_race R (xs (n + 1)).toInt (xs (n + 2)).toInt) False := by
    intro k v ho I1 g1 g2
    have hR1 := hR.cf fun x h1 h2 => g1 x h2 (by omega)
    have e0 : ∀ j, I1 0 j = I 0 j := fun j => by rw [g1 0 (by omega) (by omega)]
    refine X_istore dL_law_403 (Nat.le_of_ble_eq_true rfl) ?_
    refine X_aload_n dL_law_405 rfl rfl ?_
    refine L_ld (k := 1) dL_law_406 dL_law_407 dL_law_409 dL_law_410 dL_law_411 (by decide) hl hl2 hsc ?_
    refine L_ld (k := 2) dL_law_412 dL_law_413 dL_law_415 dL_law_416 dL_law_417 (by decide) hl hl2 hsc ?_
    have T0 : ∀ k' v', zA (A_race R (xs (n + 1)).toInt (xs (n + 2)).toInt) (B_race R (xs (n + 1)).toInt (xs (n + 2)).toInt) False k' v' → ∀ I2, MF I1 I2 → I2 103 7 = k' → am_go (fun r m' => X G dp (a - 4 - 4) (b - 24 - 24) ML_law (418 + 3) (LL n (some (iV k)) o6 o7) (r.toList ++ []) m' Q) (fun k m' => Q (.inr k) m') (.inl (some (iV v'))) (I2, Z) := by
      intro k' v' ho' I2 m2 c2
      obtain ⟨rfl, rfl⟩ := ho.fn ho' (f_race hRV)
      exact L_taili (by omega) hS.2.1 hS.2.2.1 c2 (fun e => by rw [m2.1 122 (by omega) (by omega)]; exact g2 e) dL_law_421 dL_law_423 dL_law_424 dL_law_427 dL_law_429 dL_law_434 dL_law_436 dL_law_439 dL_law_440 dL_law_441 dL_law_442 dL_law_444 dL_law_445 dL_law_446 dL_law_451 ⟨rfl, rfl, rfl, rfl, rfl, rfl, rfl, rfl, rfl, rfl, rfl, rfl, rfl, rfl, by decide⟩ (kk _ _ _ _ _ _ (by omega) (by omega) (zJ.q hS hC hR hP g1 m2))
    refine X_callV (As := [iV (xs (n + 1)).toInt, iV (xs (n + 2)).toInt]) (rest := []) (r := 103) (a' := 4) (b' := 24) dL_law_418 t9_race ml_L_127 (am_ow hS.2.1.1) rfl rfl (Nat.le_of_ble_eq_true rfl) rfl (by omega) (by omega) (by omega) ?_
    exact r_race (hd := by omega) (hM := hS.2.1) (hv := hR1.1) (hR := hRV) (hD := hP.1) (h0 := fun r v I2 e h q m c => T0 0 v (Or.inl ⟨rfl, ⟨r, e, h, q⟩⟩) I2 m c) (h1 := fun b I2 m c => T0 1 0 (Or.inr (Or.inl ⟨rfl, rfl, b⟩)) I2 m c)
  exact w_race hnc (by omega) (am_ow hS.1.o) fun Q1 hK => q_race (hd := by omega) (hC := hS.1) (hI := hC.1.1) (h0 := fun r v e h _ q => hK _ _ (H.i hS.2.2.1 (fun _ _ => rfl) ⟨r, e, h, q⟩)) (h1 := fun b => hK _ _ (H.i1 b ⟨rfl, rfl⟩))
theorem cs_risk {G : am_G} {dp a b n len : Nat} {m : am_M} {Q : am_Q} {o5 o6 o7 : Option am_V} {xs : Nat → Int32} (hsc : va_X G.2.2.1 len xs G.2.1 G.2.1.heap) (hz : SZ G) (hnc : NC G) (hdp : 40 ≤ dp) (ha : 8 ≤ a) (hb : 48 ≤ b) (hl : n + 6 ≤ len) (hl2 : len ≤ 3072) (hJ : zJ m len) (kk : zK G dp a b len n Q) : X G dp a b ML_law 454 (LL n o5 o6 o7) [] m Q := by
  obtain ⟨I, Z⟩ := m
  obtain ⟨w, s, R, na, Pa, tp, nt, l, f, g, Ri, hS, hC, hR, hP⟩ := hJ
  have hRV : RV R := hC.1.1.1
  refine X_aload_n dL_law_454 rfl rfl ?_
  refine L_ld (k := 1) dL_law_455 dL_law_456 dL_law_458 dL_law_459 dL_law_460 (by decide) hl hl2 hsc ?_
  refine X_aload_n dL_law_461 rfl rfl ?_
  refine X_callSH (As := [rV (some 1), iV (xs (n + 1)).toInt, rV (some 122)]) (rest := []) (a' := 4) (b' := 24) dL_law_462 th_risk ml_L_128 rfl rfl (Nat.le_of_ble_eq_true rfl) rfl (by omega) (by omega) (by omega) ?_
  have H : zH I Z (am_go (fun r m' => X G dp (a - 4) (b - 24) ML_law (462 + 3) (LL n o5 o6 o7) (r.toList ++ []) m' Q) (fun k m' => Q (.inr k) m')) (A_risk R (xs (n + 1)).toInt) (B_r R (xs (n + 1)).toInt) False := by
    intro k v ho I1 g1 g2
    have hR1 := hR.cf fun x h1 h2 => g1 x h2 (by omega)
    have e0 : ∀ j, I1 0 j = I 0 j := fun j => by rw [g1 0 (by omega) (by omega)]
    refine X_istore dL_law_465 (Nat.le_of_ble_eq_true rfl) ?_
    refine X_aload_n dL_law_467 rfl rfl ?_
    refine L_ld (k := 1) dL_law_468 dL_law_469 dL_law_471 dL_law_472 dL_law_473 (by decide) hl hl2 hsc ?_
    have T0 : ∀ k' v', zA (A_risk R (xs (n + 1)).toInt) (B_r R (xs (n + 1)).toInt) False k' v' → ∀ I2, MF I1 I2 → I2 103 7 = k' → am_go (fun r m' => X G dp (a - 4 - 4) (b - 24 - 24) ML_law (474 + 3) (LL n (some (iV k)) o6 o7) (r.toList ++ []) m' Q) (fun k m' => Q (.inr k) m') (.inl (some (lV v'))) (I2, Z) := by
      intro k' v' ho' I2 m2 c2
      obtain ⟨rfl, rfl⟩ := ho.fn ho' (f_risk hRV)
      exact L_taill (by omega) hS.2.1 hS.2.2.1 c2 (fun e => by rw [m2.1 122 (by omega) (by omega)]; exact g2 e) dL_law_477 dL_law_479 dL_law_480 dL_law_483 dL_law_485 dL_law_490 dL_law_492 dL_law_495 dL_law_496 dL_law_497 dL_law_498 dL_law_500 dL_law_501 dL_law_506 ⟨rfl, rfl, rfl, rfl, rfl, rfl, rfl, rfl, rfl, rfl, rfl, rfl, rfl, by decide⟩ (kk _ _ _ _ _ _ (by omega) (by omega) (zJ.q hS hC hR hP g1 m2))
    refine X_callV (As := [iV (xs (n + 1)).toInt]) (rest := []) (r := 103) (a' := 4) (b' := 24) dL_law_474 t9_risk ml_L_130 (am_ow hS.2.1.1) rfl rfl (Nat.le_of_ble_eq_true rfl) rfl (by omega) (by omega) (by omega) ?_
    exact r_risk (hd := by omega) (hM := hS.2.1) (hv := hR1.1) (hR := hRV) (hD := hP.1) (h0 := fun r I2 e h m c => T0 0 _ (Or.inl ⟨rfl, ⟨r, e, h, rfl⟩⟩) I2 m c) (h1 := fun b I2 m c => T0 1 0 (Or.inr (Or.inl ⟨rfl, rfl, b⟩)) I2 m c)
  exact w_risk hnc (by omega) (am_ow hS.1.o) fun Q1 hK => q_risk (hd := by omega) (hC := hS.1) (hI := hC.1.1) (h0 := fun r e h _ => hK _ _ (H.l hS.2.2.1 (fun _ _ => rfl) ⟨r, e, h, rfl⟩)) (h1 := fun b => hK _ _ (H.l1 b ⟨rfl, rfl⟩))
theorem cs_riskOf {G : am_G} {dp a b n len : Nat} {m : am_M} {Q : am_Q} {o5 o6 o7 : Option am_V} {xs : Nat → Int32} (hsc : va_X G.2.2.1 len xs G.2.1 G.2.1.heap) (hz : SZ G) (hnc : NC G) (hdp : 40 ≤ dp) (ha : 8 ≤ a) (hb : 48 ≤ b) (hl : n + 6 ≤ len) (hl2 : len ≤ 3072) (hJ : zJ m len) (kk : zK G dp a b len n Q) : X G dp a b ML_law 509 (LL n o5 o6 o7) [] m Q := by
  obtain ⟨I, Z⟩ := m
  obtain ⟨w, s, R, na, Pa, tp, nt, l, f, g, Ri, hS, hC, hR, hP⟩ := hJ
  have hRV : RV R := hC.1.1.1
  refine X_aload_n dL_law_509 rfl rfl ?_
  refine L_ld (k := 1) dL_law_510 dL_law_511 dL_law_513 dL_law_514 dL_law_515 (by decide) hl hl2 hsc ?_
  refine L_ld (k := 2) dL_law_516 dL_law_517 dL_law_519 dL_law_520 dL_law_521 (by decide) hl hl2 hsc ?_
  refine X_aload_n dL_law_522 rfl rfl ?_
  refine X_callSH (As := [rV (some 1), iV (xs (n + 1)).toInt, iV (xs (n + 2)).toInt, rV (some 122)]) (rest := []) (a' := 4) (b' := 24) dL_law_523 th_riskOf ml_L_131 rfl rfl (Nat.le_of_ble_eq_true rfl) rfl (by omega) (by omega) (by omega) ?_
  have H : zH I Z (am_go (fun r m' => X G dp (a - 4) (b - 24) ML_law (523 + 3) (LL n o5 o6 o7) (r.toList ++ []) m' Q) (fun k m' => Q (.inr k) m')) (A_riskOf R (xs (n + 1)).toInt (xs (n + 2)).toInt) (B_rc R (xs (n + 1)).toInt (xs (n + 2)).toInt) False := by
    intro k v ho I1 g1 g2
    have hR1 := hR.cf fun x h1 h2 => g1 x h2 (by omega)
    have e0 : ∀ j, I1 0 j = I 0 j := fun j => by rw [g1 0 (by omega) (by omega)]
    refine X_istore dL_law_526 (Nat.le_of_ble_eq_true rfl) ?_
    refine X_aload_n dL_law_528 rfl rfl ?_
    refine L_ld (k := 1) dL_law_529 dL_law_530 dL_law_532 dL_law_533 dL_law_534 (by decide) hl hl2 hsc ?_
    refine L_ld (k := 2) dL_law_535 dL_law_536 dL_law_538 dL_law_539 dL_law_540 (by decide) hl hl2 hsc ?_
    have T0 : ∀ k' v', zA (A_riskOf R (xs (n + 1)).toInt (xs (n + 2)).toInt) (B_rc R (xs (n + 1)).toInt (xs (n + 2)).toInt) False k' v' → ∀ I2, MF I1 I2 → I2 103 7 = k' → am_go (fun r m' => X G dp (a - 4 - 4) (b - 24 - 24) ML_law (541 + 3) (LL n (some (iV k)) o6 o7) (r.toList ++ []) m' Q) (fun k m' => Q (.inr k) m') (.inl (some (lV v'))) (I2, Z) := by
      intro k' v' ho' I2 m2 c2
      obtain ⟨rfl, rfl⟩ := ho.fn ho' (f_riskOf hRV)
      exact L_taill (by omega) hS.2.1 hS.2.2.1 c2 (fun e => by rw [m2.1 122 (by omega) (by omega)]; exact g2 e) dL_law_544 dL_law_546 dL_law_547 dL_law_550 dL_law_552 dL_law_557 dL_law_559 dL_law_562 dL_law_563 dL_law_564 dL_law_565 dL_law_567 dL_law_568 dL_law_573 ⟨rfl, rfl, rfl, rfl, rfl, rfl, rfl, rfl, rfl, rfl, rfl, rfl, rfl, by decide⟩ (kk _ _ _ _ _ _ (by omega) (by omega) (zJ.q hS hC hR hP g1 m2))
    refine X_callV (As := [iV (xs (n + 1)).toInt, iV (xs (n + 2)).toInt]) (rest := []) (r := 103) (a' := 4) (b' := 24) dL_law_541 t9_riskOf ml_L_133 (am_ow hS.2.1.1) rfl rfl (Nat.le_of_ble_eq_true rfl) rfl (by omega) (by omega) (by omega) ?_
    exact r_riskOf (hd := by omega) (hM := hS.2.1) (hv := hR1.1) (hR := hRV) (hD := hP.1) (h0 := fun r x I2 e h d k m c => T0 0 _ (Or.inl ⟨rfl, ⟨r, x, e, h, d, k, rfl⟩⟩) I2 m c) (h1 := fun b I2 m c => T0 1 0 (Or.inr (Or.inl ⟨rfl, rfl, b⟩)) I2 m c)
  exact w_riskOf hnc (by omega) (am_ow hS.1.o) fun Q1 hK => q_riskOf (hd := by omega) (hC := hS.1) (hI := hC.1.1) (h0 := fun r c e h _ d k _ => hK _ _ (H.l hS.2.2.1 (fun _ _ => rfl) ⟨r, c, e, h, d, k, rfl⟩)) (h1 := fun b => hK _ _ (H.l1 b ⟨rfl, rfl⟩))
theorem cs_worst {G : am_G} {dp a b n len : Nat} {m : am_M} {Q : am_Q} {o5 o6 o7 : Option am_V} {xs : Nat → Int32} (hsc : va_X G.2.2.1 len xs G.2.1 G.2.1.heap) (hz : SZ G) (hnc : NC G) (hdp : 40 ≤ dp) (ha : 8 ≤ a) (hb : 48 ≤ b) (hl : n + 6 ≤ len) (hl2 : len ≤ 3072) (hJ : zJ m len) (kk : zK G dp a b len n Q) : X G dp a b ML_law 576 (LL n o5 o6 o7) [] m Q := by
  obtain ⟨I, Z⟩ := m
  obtain ⟨w, s, R, na, Pa, tp, nt, l, f, g, Ri, hS, hC, hR, hP⟩ := hJ
  have hRV : RV R := hC.1.1.1
  refine X_aload_n dL_law_576 rfl rfl ?_
  refine L_ld (k := 1) dL_law_577 dL_law_578 dL_law_580 dL_law_581 dL_law_582 (by decide) hl hl2 hsc ?_
  refine X_aload_n dL_law_583 rfl rfl ?_
  refine X_callSH (As := [rV (some 1), iV (xs (n + 1)).toInt, rV (some 122)]) (rest := []) (a' := 4) (b' := 24) dL_law_584 th_worst ml_L_134 rfl rfl (Nat.le_of_ble_eq_true rfl) rfl (by omega) (by omega) (by omega) ?_
  have H : zH I Z (am_go (fun r m' => X G dp (a - 4) (b - 24) ML_law (584 + 3) (LL n o5 o6 o7) (r.toList ++ []) m' Q) (fun k m' => Q (.inr k) m')) (A_worst R (xs (n + 1)).toInt) (B_r R (xs (n + 1)).toInt) False := by
    intro k v ho I1 g1 g2
    have hR1 := hR.cf fun x h1 h2 => g1 x h2 (by omega)
    have e0 : ∀ j, I1 0 j = I 0 j := fun j => by rw [g1 0 (by omega) (by omega)]
    refine X_istore dL_law_587 (Nat.le_of_ble_eq_true rfl) ?_
    refine X_aload_n dL_law_589 rfl rfl ?_
    refine L_ld (k := 1) dL_law_590 dL_law_591 dL_law_593 dL_law_594 dL_law_595 (by decide) hl hl2 hsc ?_
    have T0 : ∀ k' v', zA (A_worst R (xs (n + 1)).toInt) (B_r R (xs (n + 1)).toInt) False k' v' → ∀ I2, MF I1 I2 → I2 103 7 = k' → am_go (fun r m' => X G dp (a - 4 - 4) (b - 24 - 24) ML_law (596 + 3) (LL n (some (iV k)) o6 o7) (r.toList ++ []) m' Q) (fun k m' => Q (.inr k) m') (.inl (some (iV v'))) (I2, Z) := by
      intro k' v' ho' I2 m2 c2
      obtain ⟨rfl, rfl⟩ := ho.fn ho' (f_worst hRV)
      exact L_taili (by omega) hS.2.1 hS.2.2.1 c2 (fun e => by rw [m2.1 122 (by omega) (by omega)]; exact g2 e) dL_law_599 dL_law_601 dL_law_602 dL_law_605 dL_law_607 dL_law_612 dL_law_614 dL_law_617 dL_law_618 dL_law_619 dL_law_620 dL_law_622 dL_law_623 dL_law_624 dL_law_629 ⟨rfl, rfl, rfl, rfl, rfl, rfl, rfl, rfl, rfl, rfl, rfl, rfl, rfl, rfl, by decide⟩ (kk _ _ _ _ _ _ (by omega) (by omega) (zJ.q hS hC hR hP g1 m2))
    refine X_callV (As := [iV (xs (n + 1)).toInt]) (rest := []) (r := 103) (a' := 4) (b' := 24) dL_law_596 t9_worst ml_L_136 (am_ow hS.2.1.1) rfl rfl (Nat.le_of_ble_eq_true rfl) rfl (by omega) (by omega) (by omega) ?_
    exact r_worst (hd := by omega) (hM := hS.2.1) (hv := hR1.1) (hR := hRV) (hD := hP.1) (h0 := fun r I2 e h m c => T0 0 _ (Or.inl ⟨rfl, ⟨r, e, h, rfl⟩⟩) I2 m c) (h1 := fun b I2 m c => T0 1 0 (Or.inr (Or.inl ⟨rfl, rfl, b⟩)) I2 m c)
  exact w_worst hnc (by omega) (am_ow hS.1.o) fun Q1 hK => q_worst (hd := by omega) (hC := hS.1) (hI := hC.1.1) (h0 := fun r e h _ => hK _ _ (H.i hS.2.2.1 (fun _ _ => rfl) ⟨r, e, h, rfl⟩)) (h1 := fun b => hK _ _ (H.i1 b ⟨rfl, rfl⟩))
theorem cs_chance {G : am_G} {dp a b n len : Nat} {m : am_M} {Q : am_Q} {o5 o6 o7 : Option am_V} {xs : Nat → Int32} (hsc : va_X G.2.2.1 len xs G.2.1 G.2.1.heap) (hz : SZ G) (hnc : NC G) (hdp : 40 ≤ dp) (ha : 8 ≤ a) (hb : 48 ≤ b) (hl : n + 6 ≤ len) (hl2 : len ≤ 3072) (hJ : zJ m len) (kk : zK G dp a b len n Q) : X G dp a b ML_law 632 (LL n o5 o6 o7) [] m Q := by
  obtain ⟨I, Z⟩ := m
  obtain ⟨w, s, R, na, Pa, tp, nt, l, f, g, Ri, hS, hC, hR, hP⟩ := hJ
  have hRV : RV R := hC.1.1.1
  refine X_aload_n dL_law_632 rfl rfl ?_
  refine L_ld (k := 1) dL_law_633 dL_law_634 dL_law_636 dL_law_637 dL_law_638 (by decide) hl hl2 hsc ?_
  refine L_ld (k := 2) dL_law_639 dL_law_640 dL_law_642 dL_law_643 dL_law_644 (by decide) hl hl2 hsc ?_
  refine X_aload_n dL_law_645 rfl rfl ?_
  refine X_callSH (As := [rV (some 1), iV (xs (n + 1)).toInt, iV (xs (n + 2)).toInt, rV (some 122)]) (rest := []) (a' := 4) (b' := 24) dL_law_646 th_chance ml_L_137 rfl rfl (Nat.le_of_ble_eq_true rfl) rfl (by omega) (by omega) (by omega) ?_
  have H : zH I Z (am_go (fun r m' => X G dp (a - 4) (b - 24) ML_law (646 + 3) (LL n o5 o6 o7) (r.toList ++ []) m' Q) (fun k m' => Q (.inr k) m')) (A_chance R (xs (n + 1)).toInt (xs (n + 2)).toInt) (B_r R (xs (n + 1)).toInt) (B_chance R (xs (n + 1)).toInt (xs (n + 2)).toInt) := by
    intro k v ho I1 g1 g2
    have hR1 := hR.cf fun x h1 h2 => g1 x h2 (by omega)
    have e0 : ∀ j, I1 0 j = I 0 j := fun j => by rw [g1 0 (by omega) (by omega)]
    refine X_istore dL_law_649 (Nat.le_of_ble_eq_true rfl) ?_
    refine X_aload_n dL_law_651 rfl rfl ?_
    refine L_ld (k := 1) dL_law_652 dL_law_653 dL_law_655 dL_law_656 dL_law_657 (by decide) hl hl2 hsc ?_
    refine L_ld (k := 2) dL_law_658 dL_law_659 dL_law_661 dL_law_662 dL_law_663 (by decide) hl hl2 hsc ?_
    have T0 : ∀ k' v', zA (A_chance R (xs (n + 1)).toInt (xs (n + 2)).toInt) (B_r R (xs (n + 1)).toInt) (B_chance R (xs (n + 1)).toInt (xs (n + 2)).toInt) k' v' → ∀ I2, MF I1 I2 → I2 103 7 = k' → am_go (fun r m' => X G dp (a - 4 - 4) (b - 24 - 24) ML_law (664 + 3) (LL n (some (iV k)) o6 o7) (r.toList ++ []) m' Q) (fun k m' => Q (.inr k) m') (.inl (some (lV v'))) (I2, Z) := by
      intro k' v' ho' I2 m2 c2
      obtain ⟨rfl, rfl⟩ := ho.fn ho' (f_chance hRV)
      exact L_taill (by omega) hS.2.1 hS.2.2.1 c2 (fun e => by rw [m2.1 122 (by omega) (by omega)]; exact g2 e) dL_law_667 dL_law_669 dL_law_670 dL_law_673 dL_law_675 dL_law_680 dL_law_682 dL_law_685 dL_law_686 dL_law_687 dL_law_688 dL_law_690 dL_law_691 dL_law_696 ⟨rfl, rfl, rfl, rfl, rfl, rfl, rfl, rfl, rfl, rfl, rfl, rfl, rfl, by decide⟩ (kk _ _ _ _ _ _ (by omega) (by omega) (zJ.q hS hC hR hP g1 m2))
    refine X_callV (As := [iV (xs (n + 1)).toInt, iV (xs (n + 2)).toInt]) (rest := []) (r := 103) (a' := 4) (b' := 24) dL_law_664 t9_chance ml_L_139 (am_ow hS.2.1.1) rfl rfl (Nat.le_of_ble_eq_true rfl) rfl (by omega) (by omega) (by omega) ?_
    exact r_chance (hd := by omega) (hM := hS.2.1) (hv := hR1.1) (hR := hRV) (h0 := fun r x I2 e h d k m c => T0 0 _ (Or.inl ⟨rfl, ⟨r, x, e, h, d, k, rfl⟩⟩) I2 m c) (h1 := fun b I2 m c => T0 1 0 (Or.inr (Or.inl ⟨rfl, rfl, b⟩)) I2 m c) (h2 := fun b g I2 m c => T0 2 0 (Or.inr (Or.inr ⟨rfl, rfl, ⟨b, g⟩⟩)) I2 m c)
  exact w_chance hnc (by omega) (am_ow hS.1.o) fun Q1 hK => q_chance (hd := by omega) (hC := hS.1) (hI := hC.1.1) (h0 := fun r x e h _ d k => hK _ _ (H.l hS.2.2.1 (fun _ _ => rfl) ⟨r, x, e, h, d, k, rfl⟩)) (h1 := fun b => hK _ _ (H.l1 b (Or.inl ⟨rfl, rfl⟩))) (h2 := fun r e h b => hK _ _ (H.l2 ⟨isR_of hRV e h, b⟩ (Or.inr ⟨rfl, rfl⟩)))
theorem cs_enough {G : am_G} {dp a b n len : Nat} {m : am_M} {Q : am_Q} {o5 o6 o7 : Option am_V} {xs : Nat → Int32} (hsc : va_X G.2.2.1 len xs G.2.1 G.2.1.heap) (hz : SZ G) (hnc : NC G) (hdp : 40 ≤ dp) (ha : 8 ≤ a) (hb : 48 ≤ b) (hl : n + 6 ≤ len) (hl2 : len ≤ 3072) (hJ : zJ m len) (kk : zK G dp a b len n Q) : X G dp a b ML_law 699 (LL n o5 o6 o7) [] m Q := by
  obtain ⟨I, Z⟩ := m
  obtain ⟨w, s, R, na, Pa, tp, nt, l, f, g, Ri, hS, hC, hR, hP⟩ := hJ
  have hRV : RV R := hC.1.1.1
  refine X_aload_n dL_law_699 rfl rfl ?_
  refine L_ld (k := 1) dL_law_700 dL_law_701 dL_law_703 dL_law_704 dL_law_705 (by decide) hl hl2 hsc ?_
  refine X_aload_n dL_law_706 rfl rfl ?_
  refine X_callSH (As := [rV (some 1), iV (xs (n + 1)).toInt, rV (some 122)]) (rest := []) (a' := 4) (b' := 24) dL_law_707 th_enough ml_L_140 rfl rfl (Nat.le_of_ble_eq_true rfl) rfl (by omega) (by omega) (by omega) ?_
  have H : zH I Z (am_go (fun r m' => X G dp (a - 4) (b - 24) ML_law (707 + 3) (LL n o5 o6 o7) (r.toList ++ []) m' Q) (fun k m' => Q (.inr k) m')) (A_enough R (xs (n + 1)).toInt) (B_r R (xs (n + 1)).toInt) False := by
    intro k v ho I1 g1 g2
    have hR1 := hR.cf fun x h1 h2 => g1 x h2 (by omega)
    have e0 : ∀ j, I1 0 j = I 0 j := fun j => by rw [g1 0 (by omega) (by omega)]
    refine X_istore dL_law_710 (Nat.le_of_ble_eq_true rfl) ?_
    refine X_aload_n dL_law_712 rfl rfl ?_
    refine L_ld (k := 1) dL_law_713 dL_law_714 dL_law_716 dL_law_717 dL_law_718 (by decide) hl hl2 hsc ?_
    have T0 : ∀ k' v', zA (A_enough R (xs (n + 1)).toInt) (B_r R (xs (n + 1)).toInt) False k' v' → ∀ I2, MF I1 I2 → I2 103 7 = k' → am_go (fun r m' => X G dp (a - 4 - 4) (b - 24 - 24) ML_law (719 + 3) (LL n (some (iV k)) o6 o7) (r.toList ++ []) m' Q) (fun k m' => Q (.inr k) m') (.inl (some (iV v'))) (I2, Z) := by
      intro k' v' ho' I2 m2 c2
      obtain ⟨rfl, rfl⟩ := ho.fn ho' (f_enough hRV)
      exact L_taili (by omega) hS.2.1 hS.2.2.1 c2 (fun e => by rw [m2.1 122 (by omega) (by omega)]; exact g2 e) dL_law_722 dL_law_724 dL_law_725 dL_law_728 dL_law_730 dL_law_735 dL_law_737 dL_law_740 dL_law_741 dL_law_742 dL_law_743 dL_law_745 dL_law_746 dL_law_747 dL_law_752 ⟨rfl, rfl, rfl, rfl, rfl, rfl, rfl, rfl, rfl, rfl, rfl, rfl, rfl, rfl, by decide⟩ (kk _ _ _ _ _ _ (by omega) (by omega) (zJ.q hS hC hR hP g1 m2))
    refine X_callV (As := [iV (xs (n + 1)).toInt]) (rest := []) (r := 103) (a' := 4) (b' := 24) dL_law_719 t9_enough ml_L_142 (am_ow hS.2.1.1) rfl rfl (Nat.le_of_ble_eq_true rfl) rfl (by omega) (by omega) (by omega) ?_
    exact r_enough (hd := by omega) (hM := hS.2.1) (hv := hR1.1) (hR := hRV) (h0 := fun r I2 e h m c => T0 0 _ (Or.inl ⟨rfl, ⟨r, e, h, rfl⟩⟩) I2 m c) (h1 := fun b I2 m c => T0 1 0 (Or.inr (Or.inl ⟨rfl, rfl, b⟩)) I2 m c)
  exact w_enough hnc (by omega) (am_ow hS.1.o) fun Q1 hK => q_enough (hd := by omega) (hC := hS.1) (hI := hC.1.1) (h0 := fun r e h _ => hK _ _ (H.i hS.2.2.1 (fun _ _ => rfl) ⟨r, e, h, rfl⟩)) (h1 := fun b => hK _ _ (H.i1 b ⟨rfl, rfl⟩))
theorem cs_flips {G : am_G} {dp a b n len : Nat} {m : am_M} {Q : am_Q} {o5 o6 o7 : Option am_V} {xs : Nat → Int32} (hsc : va_X G.2.2.1 len xs G.2.1 G.2.1.heap) (hz : SZ G) (hnc : NC G) (hdp : 40 ≤ dp) (ha : 8 ≤ a) (hb : 48 ≤ b) (hl : n + 6 ≤ len) (hl2 : len ≤ 3072) (hJ : zJ m len) (kk : zK G dp a b len n Q) : X G dp a b ML_law 755 (LL n o5 o6 o7) [] m Q := by
  obtain ⟨I, Z⟩ := m
  obtain ⟨w, s, R, na, Pa, tp, nt, l, f, g, Ri, hS, hC, hR, hP⟩ := hJ
  have hRV : RV R := hC.1.1.1
  refine X_aload_n dL_law_755 rfl rfl ?_
  refine L_ld (k := 1) dL_law_756 dL_law_757 dL_law_759 dL_law_760 dL_law_761 (by decide) hl hl2 hsc ?_
  refine L_ld (k := 2) dL_law_762 dL_law_763 dL_law_765 dL_law_766 dL_law_767 (by decide) hl hl2 hsc ?_
  refine X_aload_n dL_law_768 rfl rfl ?_
  refine X_callSH (As := [rV (some 1), iV (xs (n + 1)).toInt, iV (xs (n + 2)).toInt, rV (some 122)]) (rest := []) (a' := 4) (b' := 24) dL_law_769 th_flips ml_L_143 rfl rfl (Nat.le_of_ble_eq_true rfl) rfl (by omega) (by omega) (by omega) ?_
  have H : zH I Z (am_go (fun r m' => X G dp (a - 4) (b - 24) ML_law (769 + 3) (LL n o5 o6 o7) (r.toList ++ []) m' Q) (fun k m' => Q (.inr k) m')) (A_flips R (xs (n + 1)).toInt (xs (n + 2)).toInt) (B_flips R (xs (n + 1)).toInt (xs (n + 2)).toInt) False := by
    intro k v ho I1 g1 g2
    have hR1 := hR.cf fun x h1 h2 => g1 x h2 (by omega)
    have e0 : ∀ j, I1 0 j = I 0 j := fun j => by rw [g1 0 (by omega) (by omega)]
    refine X_istore dL_law_772 (Nat.le_of_ble_eq_true rfl) ?_
    refine X_aload_n dL_law_774 rfl rfl ?_
    refine L_ld (k := 1) dL_law_775 dL_law_776 dL_law_778 dL_law_779 dL_law_780 (by decide) hl hl2 hsc ?_
    refine L_ld (k := 2) dL_law_781 dL_law_782 dL_law_784 dL_law_785 dL_law_786 (by decide) hl hl2 hsc ?_
    have T0 : ∀ k' v', zA (A_flips R (xs (n + 1)).toInt (xs (n + 2)).toInt) (B_flips R (xs (n + 1)).toInt (xs (n + 2)).toInt) False k' v' → ∀ I2, MF I1 I2 → I2 103 7 = k' → am_go (fun r m' => X G dp (a - 4 - 4) (b - 24 - 24) ML_law (787 + 3) (LL n (some (iV k)) o6 o7) (r.toList ++ []) m' Q) (fun k m' => Q (.inr k) m') (.inl (some (iV v'))) (I2, Z) := by
      intro k' v' ho' I2 m2 c2
      obtain ⟨rfl, rfl⟩ := ho.fn ho' (f_flips hRV)
      exact L_taili (by omega) hS.2.1 hS.2.2.1 c2 (fun e => by rw [m2.1 122 (by omega) (by omega)]; exact g2 e) dL_law_790 dL_law_792 dL_law_793 dL_law_796 dL_law_798 dL_law_803 dL_law_805 dL_law_808 dL_law_809 dL_law_810 dL_law_811 dL_law_813 dL_law_814 dL_law_815 dL_law_820 ⟨rfl, rfl, rfl, rfl, rfl, rfl, rfl, rfl, rfl, rfl, rfl, rfl, rfl, rfl, by decide⟩ (kk _ _ _ _ _ _ (by omega) (by omega) (zJ.q hS hC hR hP g1 m2))
    refine X_callV (As := [iV (xs (n + 1)).toInt, iV (xs (n + 2)).toInt]) (rest := []) (r := 103) (a' := 4) (b' := 24) dL_law_787 t9_flips ml_L_145 (am_ow hS.2.1.1) rfl rfl (Nat.le_of_ble_eq_true rfl) rfl (by omega) (by omega) (by omega) ?_
    exact r_flips (hd := by omega) (hM := hS.2.1) (hv := hR1.1) (hR := hRV) (h0 := fun r I2 e h x1 x2 m c => T0 0 _ (Or.inl ⟨rfl, ⟨r, e, h, x1, x2, rfl⟩⟩) I2 m c) (h1 := fun b I2 m c => T0 1 0 (Or.inr (Or.inl ⟨rfl, rfl, b⟩)) I2 m c)
  exact w_flips hnc (by omega) (am_ow hS.1.o) fun Q1 hK => q_flips (hd := by omega) (hC := hS.1) (hI := hC.1.1) (h0 := fun r e h _ x1 x2 => hK _ _ (H.i hS.2.2.1 (fun _ _ => rfl) ⟨r, e, h, x1, x2, rfl⟩)) (h1 := fun b => hK _ _ (H.i1 b ⟨rfl, rfl⟩))
theorem cs_votes {G : am_G} {dp a b n len : Nat} {m : am_M} {Q : am_Q} {o5 o6 o7 : Option am_V} {xs : Nat → Int32} (hsc : va_X G.2.2.1 len xs G.2.1 G.2.1.heap) (hz : SZ G) (hnc : NC G) (hdp : 40 ≤ dp) (ha : 8 ≤ a) (hb : 48 ≤ b) (hl : n + 6 ≤ len) (hl2 : len ≤ 3072) (hJ : zJ m len) (kk : zK G dp a b len n Q) : X G dp a b ML_law 861 (LL n o5 o6 o7) [] m Q := by
  obtain ⟨I, Z⟩ := m
  obtain ⟨w, s, R, na, Pa, tp, nt, l, f, g, Ri, hS, hC, hR, hP⟩ := hJ
  have hRV : RV R := hC.1.1.1
  refine X_aload_n dL_law_861 rfl rfl ?_
  refine L_ld (k := 1) dL_law_862 dL_law_863 dL_law_865 dL_law_866 dL_law_867 (by decide) hl hl2 hsc ?_
  refine L_ld (k := 2) dL_law_868 dL_law_869 dL_law_871 dL_law_872 dL_law_873 (by decide) hl hl2 hsc ?_
  refine L_ld (k := 3) dL_law_874 dL_law_875 dL_law_877 dL_law_878 dL_law_879 (by decide) hl hl2 hsc ?_
  refine L_bool dL_law_880 dL_law_883 dL_law_884 dL_law_887 rfl rfl rfl ?_
  refine X_aload_n dL_law_888 rfl rfl ?_
  refine X_callSH (As := [rV (some 1), iV (xs (n + 1)).toInt, iV (xs (n + 2)).toInt, iV (if (xs (n + 3)).toInt = 0 then 0 else 1), rV (some 122)]) (rest := []) (a' := 4) (b' := 24) dL_law_889 th_votes ml_L_154 rfl rfl (Nat.le_of_ble_eq_true rfl) rfl (by omega) (by omega) (by omega) ?_
  have H : zH I Z (am_go (fun r m' => X G dp (a - 4) (b - 24) ML_law (889 + 3) (LL n o5 o6 o7) (r.toList ++ []) m' Q) (fun k m' => Q (.inr k) m')) (A_votes R (xs (n + 1)).toInt (xs (n + 2)).toInt (if (xs (n + 3)).toInt = 0 then 0 else 1)) (B_rc R (xs (n + 1)).toInt (xs (n + 2)).toInt) False := by
    intro k v ho I1 g1 g2
    have hR1 := hR.cf fun x h1 h2 => g1 x h2 (by omega)
    have e0 : ∀ j, I1 0 j = I 0 j := fun j => by rw [g1 0 (by omega) (by omega)]
    refine X_istore dL_law_892 (Nat.le_of_ble_eq_true rfl) ?_
    refine X_aload_n dL_law_894 rfl rfl ?_
    refine L_ld (k := 1) dL_law_895 dL_law_896 dL_law_898 dL_law_899 dL_law_900 (by decide) hl hl2 hsc ?_
    refine L_ld (k := 2) dL_law_901 dL_law_902 dL_law_904 dL_law_905 dL_law_906 (by decide) hl hl2 hsc ?_
    refine L_ld (k := 3) dL_law_907 dL_law_908 dL_law_910 dL_law_911 dL_law_912 (by decide) hl hl2 hsc ?_
    refine L_bool dL_law_913 dL_law_916 dL_law_917 dL_law_920 rfl rfl rfl ?_
    have T0 : ∀ k' v', zA (A_votes R (xs (n + 1)).toInt (xs (n + 2)).toInt (if (xs (n + 3)).toInt = 0 then 0 else 1)) (B_rc R (xs (n + 1)).toInt (xs (n + 2)).toInt) False k' v' → ∀ I2, MF I1 I2 → I2 103 7 = k' → am_go (fun r m' => X G dp (a - 4 - 4) (b - 24 - 24) ML_law (921 + 3) (LL n (some (iV k)) o6 o7) (r.toList ++ []) m' Q) (fun k m' => Q (.inr k) m') (.inl (some (iV v'))) (I2, Z) := by
      intro k' v' ho' I2 m2 c2
      obtain ⟨rfl, rfl⟩ := ho.fn ho' (f_votes hRV)
      exact L_taili (by omega) hS.2.1 hS.2.2.1 c2 (fun e => by rw [m2.1 122 (by omega) (by omega)]; exact g2 e) dL_law_924 dL_law_926 dL_law_927 dL_law_930 dL_law_932 dL_law_937 dL_law_939 dL_law_942 dL_law_943 dL_law_944 dL_law_945 dL_law_947 dL_law_948 dL_law_949 dL_law_954 ⟨rfl, rfl, rfl, rfl, rfl, rfl, rfl, rfl, rfl, rfl, rfl, rfl, rfl, rfl, by decide⟩ (kk _ _ _ _ _ _ (by omega) (by omega) (zJ.q hS hC hR hP g1 m2))
    refine X_callV (As := [iV (xs (n + 1)).toInt, iV (xs (n + 2)).toInt, iV (if (xs (n + 3)).toInt = 0 then 0 else 1)]) (rest := []) (r := 103) (a' := 4) (b' := 24) dL_law_921 t9_votes ml_L_157 (am_ow hS.2.1.1) rfl rfl (Nat.le_of_ble_eq_true rfl) rfl (by omega) (by omega) (by omega) ?_
    exact r_votes (hd := by omega) (hM := hS.2.1) (hv := hR1.1) (hR := hRV) (h0 := fun r x I2 e h d k m c => T0 0 _ (Or.inl ⟨rfl, ⟨r, x, e, h, d, k, rfl⟩⟩) I2 m c) (h1 := fun b I2 m c => T0 1 0 (Or.inr (Or.inl ⟨rfl, rfl, b⟩)) I2 m c)
  exact w_votes hnc (by omega) (am_ow hS.1.o) fun Q1 hK => q_votes (hd := by omega) (hC := hS.1) (hI := hC.1.1) (h0 := fun r c e h _ d k _ => hK _ _ (H.i hS.2.2.1 (fun _ _ => rfl) ⟨r, c, e, h, d, k, rfl⟩)) (h1 := fun b => hK _ _ (H.i1 b ⟨rfl, rfl⟩))
theorem cs_ballot {G : am_G} {dp a b n len : Nat} {m : am_M} {Q : am_Q} {o5 o6 o7 : Option am_V} {xs : Nat → Int32} (hsc : va_X G.2.2.1 len xs G.2.1 G.2.1.heap) (hz : SZ G) (hnc : NC G) (hdp : 40 ≤ dp) (ha : 8 ≤ a) (hb : 48 ≤ b) (hl : n + 6 ≤ len) (hl2 : len ≤ 3072) (hJ : zJ m len) (kk : zK G dp a b len n Q) : X G dp a b ML_law 957 (LL n o5 o6 o7) [] m Q := by
  obtain ⟨I, Z⟩ := m
  obtain ⟨w, s, R, na, Pa, tp, nt, l, f, g, Ri, hS, hC, hR, hP⟩ := hJ
  have hRV : RV R := hC.1.1.1
  refine X_aload_n dL_law_957 rfl rfl ?_
  refine L_ld (k := 1) dL_law_958 dL_law_959 dL_law_961 dL_law_962 dL_law_963 (by decide) hl hl2 hsc ?_
  refine L_ld (k := 2) dL_law_964 dL_law_965 dL_law_967 dL_law_968 dL_law_969 (by decide) hl hl2 hsc ?_
  refine L_ld (k := 3) dL_law_970 dL_law_971 dL_law_973 dL_law_974 dL_law_975 (by decide) hl hl2 hsc ?_
  refine X_aload_n dL_law_976 rfl rfl ?_
  refine X_callSH (As := [rV (some 1), iV (xs (n + 1)).toInt, iV (xs (n + 2)).toInt, iV (xs (n + 3)).toInt, rV (some 122)]) (rest := []) (a' := 4) (b' := 24) dL_law_977 th_ballot ml_L_158 rfl rfl (Nat.le_of_ble_eq_true rfl) rfl (by omega) (by omega) (by omega) ?_
  have H : zH I Z (am_go (fun r m' => X G dp (a - 4) (b - 24) ML_law (977 + 3) (LL n o5 o6 o7) (r.toList ++ []) m' Q) (fun k m' => Q (.inr k) m')) (A_ballot R (xs (n + 1)).toInt (xs (n + 2)).toInt (xs (n + 3)).toInt) (B_ballot R (xs (n + 1)).toInt (xs (n + 2)).toInt (xs (n + 3)).toInt) False := by
    intro k v ho I1 g1 g2
    have hR1 := hR.cf fun x h1 h2 => g1 x h2 (by omega)
    have e0 : ∀ j, I1 0 j = I 0 j := fun j => by rw [g1 0 (by omega) (by omega)]
    refine X_istore dL_law_980 (Nat.le_of_ble_eq_true rfl) ?_
    refine X_aload_n dL_law_982 rfl rfl ?_
    refine L_ld (k := 1) dL_law_983 dL_law_984 dL_law_986 dL_law_987 dL_law_988 (by decide) hl hl2 hsc ?_
    refine L_ld (k := 2) dL_law_989 dL_law_990 dL_law_992 dL_law_993 dL_law_994 (by decide) hl hl2 hsc ?_
    refine L_ld (k := 3) dL_law_995 dL_law_996 dL_law_998 dL_law_999 dL_law_1000 (by decide) hl hl2 hsc ?_
    have T0 : ∀ k' v', zA (A_ballot R (xs (n + 1)).toInt (xs (n + 2)).toInt (xs (n + 3)).toInt) (B_ballot R (xs (n + 1)).toInt (xs (n + 2)).toInt (xs (n + 3)).toInt) False k' v' → ∀ I2, MF I1 I2 → I2 103 7 = k' → am_go (fun r m' => X G dp (a - 4 - 4) (b - 24 - 24) ML_law (1001 + 3) (LL n (some (iV k)) o6 o7) (r.toList ++ []) m' Q) (fun k m' => Q (.inr k) m') (.inl (some (iV v'))) (I2, Z) := by
      intro k' v' ho' I2 m2 c2
      obtain ⟨rfl, rfl⟩ := ho.fn ho' (f_ballot hRV)
      exact L_taili (by omega) hS.2.1 hS.2.2.1 c2 (fun e => by rw [m2.1 122 (by omega) (by omega)]; exact g2 e) dL_law_1004 dL_law_1006 dL_law_1007 dL_law_1010 dL_law_1012 dL_law_1017 dL_law_1019 dL_law_1022 dL_law_1023 dL_law_1024 dL_law_1025 dL_law_1027 dL_law_1028 dL_law_1029 dL_law_1034 ⟨rfl, rfl, rfl, rfl, rfl, rfl, rfl, rfl, rfl, rfl, rfl, rfl, rfl, rfl, by decide⟩ (kk _ _ _ _ _ _ (by omega) (by omega) (zJ.q hS hC hR hP g1 m2))
    refine X_callV (As := [iV (xs (n + 1)).toInt, iV (xs (n + 2)).toInt, iV (xs (n + 3)).toInt]) (rest := []) (r := 103) (a' := 4) (b' := 24) dL_law_1001 t9_ballot ml_L_161 (am_ow hS.2.1.1) rfl rfl (Nat.le_of_ble_eq_true rfl) rfl (by omega) (by omega) (by omega) ?_
    exact r_ballot (hd := by omega) (hM := hS.2.1) (hv := hR1.1) (hR := hRV) (h0 := fun r x v I2 e h d k q m c => T0 0 v (Or.inl ⟨rfl, ⟨r, x, e, h, d, k, q⟩⟩) I2 m c) (h1 := fun b I2 m c => T0 1 0 (Or.inr (Or.inl ⟨rfl, rfl, b⟩)) I2 m c)
  exact w_ballot hnc (by omega) (am_ow hS.1.o) fun Q1 hK => q_ballot (hd := by omega) (hC := hS.1) (hI := hC.1.1) (h0 := fun r x v e h _ d k _ q => hK _ _ (H.i hS.2.2.1 (fun _ _ => rfl) ⟨r, x, e, h, d, k, q⟩)) (h1 := fun b => hK _ _ (H.i1 b ⟨rfl, rfl⟩))
theorem cs_drawn {G : am_G} {dp a b n len : Nat} {m : am_M} {Q : am_Q} {o5 o6 o7 : Option am_V} {xs : Nat → Int32} (hsc : va_X G.2.2.1 len xs G.2.1 G.2.1.heap) (hz : SZ G) (hnc : NC G) (hdp : 40 ≤ dp) (ha : 8 ≤ a) (hb : 48 ≤ b) (hl : n + 6 ≤ len) (hl2 : len ≤ 3072) (hJ : zJ m len) (kk : zK G dp a b len n Q) : X G dp a b ML_law 1037 (LL n o5 o6 o7) [] m Q := by
  obtain ⟨I, Z⟩ := m
  obtain ⟨w, s, R, na, Pa, tp, nt, l, f, g, Ri, hS, hC, hR, hP⟩ := hJ
  have hRV : RV R := hC.1.1.1
  refine X_aload_n dL_law_1037 rfl rfl ?_
  refine L_ld (k := 1) dL_law_1038 dL_law_1039 dL_law_1041 dL_law_1042 dL_law_1043 (by decide) hl hl2 hsc ?_
  refine X_aload_n dL_law_1044 rfl rfl ?_
  refine X_callSH (As := [rV (some 1), iV (xs (n + 1)).toInt, rV (some 122)]) (rest := []) (a' := 4) (b' := 24) dL_law_1045 th_drawn ml_L_162 rfl rfl (Nat.le_of_ble_eq_true rfl) rfl (by omega) (by omega) (by omega) ?_
  have H : zH I Z (am_go (fun r m' => X G dp (a - 4) (b - 24) ML_law (1045 + 3) (LL n o5 o6 o7) (r.toList ++ []) m' Q) (fun k m' => Q (.inr k) m')) (A_drawn R (xs (n + 1)).toInt) (B_drawn R (xs (n + 1)).toInt) False := by
    intro k v ho I1 g1 g2
    have hR1 := hR.cf fun x h1 h2 => g1 x h2 (by omega)
    have e0 : ∀ j, I1 0 j = I 0 j := fun j => by rw [g1 0 (by omega) (by omega)]
    refine X_istore dL_law_1048 (Nat.le_of_ble_eq_true rfl) ?_
    refine X_aload_n dL_law_1050 rfl rfl ?_
    refine L_ld (k := 1) dL_law_1051 dL_law_1052 dL_law_1054 dL_law_1055 dL_law_1056 (by decide) hl hl2 hsc ?_
    have T0 : ∀ k' v', zA (A_drawn R (xs (n + 1)).toInt) (B_drawn R (xs (n + 1)).toInt) False k' v' → ∀ I2, MF I1 I2 → I2 103 7 = k' → am_go (fun r m' => X G dp (a - 4 - 4) (b - 24 - 24) ML_law (1057 + 3) (LL n (some (iV k)) o6 o7) (r.toList ++ []) m' Q) (fun k m' => Q (.inr k) m') (.inl (some (iV v'))) (I2, Z) := by
      intro k' v' ho' I2 m2 c2
      obtain ⟨rfl, rfl⟩ := ho.fn ho' (f_drawn)
      exact L_taili (by omega) hS.2.1 hS.2.2.1 c2 (fun e => by rw [m2.1 122 (by omega) (by omega)]; exact g2 e) dL_law_1060 dL_law_1062 dL_law_1063 dL_law_1066 dL_law_1068 dL_law_1073 dL_law_1075 dL_law_1078 dL_law_1079 dL_law_1080 dL_law_1081 dL_law_1083 dL_law_1084 dL_law_1085 dL_law_1090 ⟨rfl, rfl, rfl, rfl, rfl, rfl, rfl, rfl, rfl, rfl, rfl, rfl, rfl, rfl, by decide⟩ (kk _ _ _ _ _ _ (by omega) (by omega) (zJ.q hS hC hR hP g1 m2))
    refine X_callV (As := [iV (xs (n + 1)).toInt]) (rest := []) (r := 103) (a' := 4) (b' := 24) dL_law_1057 t9_drawn ml_L_164 (am_ow hS.2.1.1) rfl rfl (Nat.le_of_ble_eq_true rfl) rfl (by omega) (by omega) (by omega) ?_
    exact r_drawn (hd := by omega) (hM := hS.2.1) (hv := hR1.1) (hR := hRV) (hD := hP.1) (h0 := fun k I2 e h m c => T0 0 _ (Or.inl ⟨rfl, ⟨k, e, h, rfl⟩⟩) I2 m c) (h1 := fun b I2 m c => T0 1 0 (Or.inr (Or.inl ⟨rfl, rfl, b⟩)) I2 m c)
  exact w_drawn hnc (by omega) (am_ow hS.1.o) fun Q1 hK => q_drawn (hC := hS.1) (hI := hC.1.1) (h0 := fun k e h => hK _ _ (H.i hS.2.2.1 (fun _ _ => rfl) ⟨k, e, h, rfl⟩)) (h1 := fun b => hK _ _ (H.i1 b ⟨rfl, rfl⟩))
theorem cs_times {G : am_G} {dp a b n len : Nat} {m : am_M} {Q : am_Q} {o5 o6 o7 : Option am_V} {xs : Nat → Int32} (hsc : va_X G.2.2.1 len xs G.2.1 G.2.1.heap) (hz : SZ G) (hnc : NC G) (hdp : 40 ≤ dp) (ha : 8 ≤ a) (hb : 48 ≤ b) (hl : n + 6 ≤ len) (hl2 : len ≤ 3072) (hJ : zJ m len) (kk : zK G dp a b len n Q) : X G dp a b ML_law 1093 (LL n o5 o6 o7) [] m Q := by
  obtain ⟨I, Z⟩ := m
  obtain ⟨w, s, R, na, Pa, tp, nt, l, f, g, Ri, hS, hC, hR, hP⟩ := hJ
  have hRV : RV R := hC.1.1.1
  refine X_aload_n dL_law_1093 rfl rfl ?_
  refine L_ld (k := 1) dL_law_1094 dL_law_1095 dL_law_1097 dL_law_1098 dL_law_1099 (by decide) hl hl2 hsc ?_
  refine X_aload_n dL_law_1100 rfl rfl ?_
  refine X_callSH (As := [rV (some 1), iV (xs (n + 1)).toInt, rV (some 122)]) (rest := []) (a' := 4) (b' := 24) dL_law_1101 th_times ml_L_165 rfl rfl (Nat.le_of_ble_eq_true rfl) rfl (by omega) (by omega) (by omega) ?_
  have H : zH I Z (am_go (fun r m' => X G dp (a - 4) (b - 24) ML_law (1101 + 3) (LL n o5 o6 o7) (r.toList ++ []) m' Q) (fun k m' => Q (.inr k) m')) (A_times R (xs (n + 1)).toInt) (B_b R (xs (n + 1)).toInt) False := by
    intro k v ho I1 g1 g2
    have hR1 := hR.cf fun x h1 h2 => g1 x h2 (by omega)
    have e0 : ∀ j, I1 0 j = I 0 j := fun j => by rw [g1 0 (by omega) (by omega)]
    refine X_istore dL_law_1104 (Nat.le_of_ble_eq_true rfl) ?_
    refine X_aload_n dL_law_1106 rfl rfl ?_
    refine L_ld (k := 1) dL_law_1107 dL_law_1108 dL_law_1110 dL_law_1111 dL_law_1112 (by decide) hl hl2 hsc ?_
    have T0 : ∀ k' v', zA (A_times R (xs (n + 1)).toInt) (B_b R (xs (n + 1)).toInt) False k' v' → ∀ I2, MF I1 I2 → I2 103 7 = k' → am_go (fun r m' => X G dp (a - 4 - 4) (b - 24 - 24) ML_law (1113 + 3) (LL n (some (iV k)) o6 o7) (r.toList ++ []) m' Q) (fun k m' => Q (.inr k) m') (.inl (some (iV v'))) (I2, Z) := by
      intro k' v' ho' I2 m2 c2
      obtain ⟨rfl, rfl⟩ := ho.fn ho' (f_times hRV)
      exact L_taili (by omega) hS.2.1 hS.2.2.1 c2 (fun e => by rw [m2.1 122 (by omega) (by omega)]; exact g2 e) dL_law_1116 dL_law_1118 dL_law_1119 dL_law_1122 dL_law_1124 dL_law_1129 dL_law_1131 dL_law_1134 dL_law_1135 dL_law_1136 dL_law_1137 dL_law_1139 dL_law_1140 dL_law_1141 dL_law_1146 ⟨rfl, rfl, rfl, rfl, rfl, rfl, rfl, rfl, rfl, rfl, rfl, rfl, rfl, rfl, by decide⟩ (kk _ _ _ _ _ _ (by omega) (by omega) (zJ.q hS hC hR hP g1 m2))
    refine X_callV (As := [iV (xs (n + 1)).toInt]) (rest := []) (r := 103) (a' := 4) (b' := 24) dL_law_1113 t9_times_ ml_L_167 (am_ow hS.2.1.1) rfl rfl (Nat.le_of_ble_eq_true rfl) rfl (by omega) (by omega) (by omega) ?_
    exact r_times (hd := by omega) (hM := hS.2.1) (hv := hR1.1) (hR := hRV) (hD := hP.1) (h0 := fun r I2 e h m c => T0 0 _ (Or.inl ⟨rfl, ⟨r, e, h, rfl⟩⟩) I2 m c) (h1 := fun b I2 m c => T0 1 0 (Or.inr (Or.inl ⟨rfl, rfl, b⟩)) I2 m c)
  exact w_times hnc (by omega) (am_ow hS.1.o) fun Q1 hK => q_times (hd := by omega) (hC := hS.1) (hI := hC.1.1) (h0 := fun r e h _ => hK _ _ (H.i hS.2.2.1 (fun _ _ => rfl) ⟨r, e, h, rfl⟩)) (h1 := fun b => hK _ _ (H.i1 b ⟨rfl, rfl⟩))
theorem cs_mistakes {G : am_G} {dp a b n len : Nat} {m : am_M} {Q : am_Q} {o5 o6 o7 : Option am_V} {xs : Nat → Int32} (hsc : va_X G.2.2.1 len xs G.2.1 G.2.1.heap) (hz : SZ G) (hnc : NC G) (hdp : 40 ≤ dp) (ha : 8 ≤ a) (hb : 48 ≤ b) (hl : n + 6 ≤ len) (hl2 : len ≤ 3072) (hJ : zJ m len) (kk : zK G dp a b len n Q) : X G dp a b ML_law 1149 (LL n o5 o6 o7) [] m Q := by
  obtain ⟨I, Z⟩ := m
  obtain ⟨w, s, R, na, Pa, tp, nt, l, f, g, Ri, hS, hC, hR, hP⟩ := hJ
  have hRV : RV R := hC.1.1.1
  refine X_aload_n dL_law_1149 rfl rfl ?_
  refine L_ld (k := 1) dL_law_1150 dL_law_1151 dL_law_1153 dL_law_1154 dL_law_1155 (by decide) hl hl2 hsc ?_
  refine L_ld (k := 2) dL_law_1156 dL_law_1157 dL_law_1159 dL_law_1160 dL_law_1161 (by decide) hl hl2 hsc ?_
  refine X_aload_n dL_law_1162 rfl rfl ?_
  refine X_callSH (As := [rV (some 1), iV (xs (n + 1)).toInt, iV (xs (n + 2)).toInt, rV (some 122)]) (rest := []) (a' := 4) (b' := 24) dL_law_1163 th_mistakes ml_L_168 rfl rfl (Nat.le_of_ble_eq_true rfl) rfl (by omega) (by omega) (by omega) ?_
  have H : zH I Z (am_go (fun r m' => X G dp (a - 4) (b - 24) ML_law (1163 + 3) (LL n o5 o6 o7) (r.toList ++ []) m' Q) (fun k m' => Q (.inr k) m')) (A_mistakes R (xs (n + 1)).toInt (xs (n + 2)).toInt) (B_mistakes R (xs (n + 1)).toInt (xs (n + 2)).toInt) False := by
    intro k v ho I1 g1 g2
    have hR1 := hR.cf fun x h1 h2 => g1 x h2 (by omega)
    have e0 : ∀ j, I1 0 j = I 0 j := fun j => by rw [g1 0 (by omega) (by omega)]
    refine X_istore dL_law_1166 (Nat.le_of_ble_eq_true rfl) ?_
    refine X_aload_n dL_law_1168 rfl rfl ?_
    refine L_ld (k := 1) dL_law_1169 dL_law_1170 dL_law_1172 dL_law_1173 dL_law_1174 (by decide) hl hl2 hsc ?_
    refine L_ld (k := 2) dL_law_1175 dL_law_1176 dL_law_1178 dL_law_1179 dL_law_1180 (by decide) hl hl2 hsc ?_
    have T0 : ∀ k' v', zA (A_mistakes R (xs (n + 1)).toInt (xs (n + 2)).toInt) (B_mistakes R (xs (n + 1)).toInt (xs (n + 2)).toInt) False k' v' → ∀ I2, MF I1 I2 → I2 103 7 = k' → am_go (fun r m' => X G dp (a - 4 - 4) (b - 24 - 24) ML_law (1181 + 3) (LL n (some (iV k)) o6 o7) (r.toList ++ []) m' Q) (fun k m' => Q (.inr k) m') (.inl (some (iV v'))) (I2, Z) := by
      intro k' v' ho' I2 m2 c2
      obtain ⟨rfl, rfl⟩ := ho.fn ho' (f_mistakes hRV)
      exact L_taili (by omega) hS.2.1 hS.2.2.1 c2 (fun e => by rw [m2.1 122 (by omega) (by omega)]; exact g2 e) dL_law_1184 dL_law_1186 dL_law_1187 dL_law_1190 dL_law_1192 dL_law_1197 dL_law_1199 dL_law_1202 dL_law_1203 dL_law_1204 dL_law_1205 dL_law_1207 dL_law_1208 dL_law_1209 dL_law_1214 ⟨rfl, rfl, rfl, rfl, rfl, rfl, rfl, rfl, rfl, rfl, rfl, rfl, rfl, rfl, by decide⟩ (kk _ _ _ _ _ _ (by omega) (by omega) (zJ.q hS hC hR hP g1 m2))
    refine X_callV (As := [iV (xs (n + 1)).toInt, iV (xs (n + 2)).toInt]) (rest := []) (r := 103) (a' := 4) (b' := 24) dL_law_1181 t9_mistakes ml_L_170 (am_ow hS.2.1.1) rfl rfl (Nat.le_of_ble_eq_true rfl) rfl (by omega) (by omega) (by omega) ?_
    exact r_mistakes (hd := by omega) (hM := hS.2.1) (hv := hR1.1) (hR := hRV) (hD := hP.1) (h0 := fun r I2 e h x1 x2 m c => T0 0 _ (Or.inl ⟨rfl, ⟨r, e, h, x1, x2, rfl⟩⟩) I2 m c) (h1 := fun b I2 m c => T0 1 0 (Or.inr (Or.inl ⟨rfl, rfl, b⟩)) I2 m c)
  exact w_mistakes hnc (by omega) (am_ow hS.1.o) fun Q1 hK => q_mistakes (hd := by omega) (hC := hS.1) (hI := hC.1.1) (h0 := fun r e h _ x1 x2 => hK _ _ (H.i hS.2.2.1 (fun _ _ => rfl) ⟨r, e, h, x1, x2, rfl⟩)) (h1 := fun b => hK _ _ (H.i1 b ⟨rfl, rfl⟩))
theorem cs_riskAt {G : am_G} {dp a b n len : Nat} {m : am_M} {Q : am_Q} {o5 o6 o7 : Option am_V} {xs : Nat → Int32} (hsc : va_X G.2.2.1 len xs G.2.1 G.2.1.heap) (hz : SZ G) (hnc : NC G) (hdp : 40 ≤ dp) (ha : 8 ≤ a) (hb : 48 ≤ b) (hl : n + 6 ≤ len) (hl2 : len ≤ 3072) (hJ : zJ m len) (kk : zK G dp a b len n Q) : X G dp a b ML_law 1217 (LL n o5 o6 o7) [] m Q := by
  obtain ⟨I, Z⟩ := m
  obtain ⟨w, s, R, na, Pa, tp, nt, l, f, g, Ri, hS, hC, hR, hP⟩ := hJ
  have hRV : RV R := hC.1.1.1
  refine X_aload_n dL_law_1217 rfl rfl ?_
  refine L_ld (k := 1) dL_law_1218 dL_law_1219 dL_law_1221 dL_law_1222 dL_law_1223 (by decide) hl hl2 hsc ?_
  refine L_ld (k := 2) dL_law_1224 dL_law_1225 dL_law_1227 dL_law_1228 dL_law_1229 (by decide) hl hl2 hsc ?_
  refine X_aload_n dL_law_1230 rfl rfl ?_
  refine X_callSH (As := [rV (some 1), iV (xs (n + 1)).toInt, iV (xs (n + 2)).toInt, rV (some 122)]) (rest := []) (a' := 4) (b' := 24) dL_law_1231 th_riskAt ml_L_171 rfl rfl (Nat.le_of_ble_eq_true rfl) rfl (by omega) (by omega) (by omega) ?_
  have H : zH I Z (am_go (fun r m' => X G dp (a - 4) (b - 24) ML_law (1231 + 3) (LL n o5 o6 o7) (r.toList ++ []) m' Q) (fun k m' => Q (.inr k) m')) (A_riskAt R (xs (n + 1)).toInt (xs (n + 2)).toInt) (B_riskAt R (xs (n + 1)).toInt (xs (n + 2)).toInt) False := by
    intro k v ho I1 g1 g2
    have hR1 := hR.cf fun x h1 h2 => g1 x h2 (by omega)
    have e0 : ∀ j, I1 0 j = I 0 j := fun j => by rw [g1 0 (by omega) (by omega)]
    refine X_istore dL_law_1234 (Nat.le_of_ble_eq_true rfl) ?_
    refine X_aload_n dL_law_1236 rfl rfl ?_
    refine L_ld (k := 1) dL_law_1237 dL_law_1238 dL_law_1240 dL_law_1241 dL_law_1242 (by decide) hl hl2 hsc ?_
    refine L_ld (k := 2) dL_law_1243 dL_law_1244 dL_law_1246 dL_law_1247 dL_law_1248 (by decide) hl hl2 hsc ?_
    have T0 : ∀ k' v', zA (A_riskAt R (xs (n + 1)).toInt (xs (n + 2)).toInt) (B_riskAt R (xs (n + 1)).toInt (xs (n + 2)).toInt) False k' v' → ∀ I2, MF I1 I2 → I2 103 7 = k' → am_go (fun r m' => X G dp (a - 4 - 4) (b - 24 - 24) ML_law (1249 + 3) (LL n (some (iV k)) o6 o7) (r.toList ++ []) m' Q) (fun k m' => Q (.inr k) m') (.inl (some (lV v'))) (I2, Z) := by
      intro k' v' ho' I2 m2 c2
      obtain ⟨rfl, rfl⟩ := ho.fn ho' (f_riskAt hRV)
      exact L_taill (by omega) hS.2.1 hS.2.2.1 c2 (fun e => by rw [m2.1 122 (by omega) (by omega)]; exact g2 e) dL_law_1252 dL_law_1254 dL_law_1255 dL_law_1258 dL_law_1260 dL_law_1265 dL_law_1267 dL_law_1270 dL_law_1271 dL_law_1272 dL_law_1273 dL_law_1275 dL_law_1276 dL_law_1281 ⟨rfl, rfl, rfl, rfl, rfl, rfl, rfl, rfl, rfl, rfl, rfl, rfl, rfl, by decide⟩ (kk _ _ _ _ _ _ (by omega) (by omega) (zJ.q hS hC hR hP g1 m2))
    refine X_callV (As := [iV (xs (n + 1)).toInt, iV (xs (n + 2)).toInt]) (rest := []) (r := 103) (a' := 4) (b' := 24) dL_law_1249 t9_riskAt ml_L_173 (am_ow hS.2.1.1) rfl rfl (Nat.le_of_ble_eq_true rfl) rfl (by omega) (by omega) (by omega) ?_
    exact r_riskAt (hd := by omega) (hM := hS.2.1) (hv := hR1.1) (hR := hRV) (hD := hP.1) (h0 := fun r x I2 e h d k m c => T0 0 _ (Or.inl ⟨rfl, ⟨r, x, e, h, d, k, rfl⟩⟩) I2 m c) (h1 := fun b I2 m c => T0 1 0 (Or.inr (Or.inl ⟨rfl, rfl, b⟩)) I2 m c)
  exact w_riskAt hnc (by omega) (am_ow hS.1.o) fun Q1 hK => q_riskAt (hd := by omega) (hC := hS.1) (hI := hC.1.1) (h0 := fun r x e h _ d k => hK _ _ (H.l hS.2.2.1 (fun _ _ => rfl) ⟨r, x, e, h, d, k, rfl⟩)) (h1 := fun b => hK _ _ (H.l1 b ⟨rfl, rfl⟩))
theorem cs_next {G : am_G} {dp a b n len : Nat} {m : am_M} {Q : am_Q} {o5 o6 o7 : Option am_V} {xs : Nat → Int32} (hsc : va_X G.2.2.1 len xs G.2.1 G.2.1.heap) (hz : SZ G) (hnc : NC G) (hdp : 40 ≤ dp) (ha : 8 ≤ a) (hb : 48 ≤ b) (hl : n + 6 ≤ len) (hl2 : len ≤ 3072) (hJ : zJ m len) (kk : zK G dp a b len n Q) : X G dp a b ML_law 1340 (LL n o5 o6 o7) [] m Q := by
  obtain ⟨I, Z⟩ := m
  obtain ⟨w, s, R, na, Pa, tp, nt, l, f, g, Ri, hS, hC, hR, hP⟩ := hJ
  have hRV : RV R := hC.1.1.1
  refine X_aload_n dL_law_1340 rfl rfl ?_
  refine L_ld (k := 1) dL_law_1341 dL_law_1342 dL_law_1344 dL_law_1345 dL_law_1346 (by decide) hl hl2 hsc ?_
  refine L_ld (k := 2) dL_law_1347 dL_law_1348 dL_law_1350 dL_law_1351 dL_law_1352 (by decide) hl hl2 hsc ?_
  refine X_aload_n dL_law_1353 rfl rfl ?_
  refine X_callSH (As := [rV (some 1), iV (xs (n + 1)).toInt, iV (xs (n + 2)).toInt, rV (some 122)]) (rest := []) (a' := 4) (b' := 24) dL_law_1354 th_next ml_L_177 rfl rfl (Nat.le_of_ble_eq_true rfl) rfl (by omega) (by omega) (by omega) ?_
  have H : zH I Z (am_go (fun r m' => X G dp (a - 4) (b - 24) ML_law (1354 + 3) (LL n o5 o6 o7) (r.toList ++ []) m' Q) (fun k m' => Q (.inr k) m')) (A_next R (xs (n + 1)).toInt (xs (n + 2)).toInt) (B_rb R (xs (n + 1)).toInt (xs (n + 2)).toInt) False := by
    intro k v ho I1 g1 g2
    have hR1 := hR.cf fun x h1 h2 => g1 x h2 (by omega)
    have e0 : ∀ j, I1 0 j = I 0 j := fun j => by rw [g1 0 (by omega) (by omega)]
    refine X_istore dL_law_1357 (Nat.le_of_ble_eq_true rfl) ?_
    refine X_aload_n dL_law_1359 rfl rfl ?_
    refine L_ld (k := 1) dL_law_1360 dL_law_1361 dL_law_1363 dL_law_1364 dL_law_1365 (by decide) hl hl2 hsc ?_
    refine L_ld (k := 2) dL_law_1366 dL_law_1367 dL_law_1369 dL_law_1370 dL_law_1371 (by decide) hl hl2 hsc ?_
    have T0 : ∀ k' v', zA (A_next R (xs (n + 1)).toInt (xs (n + 2)).toInt) (B_rb R (xs (n + 1)).toInt (xs (n + 2)).toInt) False k' v' → ∀ I2, MF I1 I2 → I2 103 7 = k' → am_go (fun r m' => X G dp (a - 4 - 4) (b - 24 - 24) ML_law (1372 + 3) (LL n (some (iV k)) o6 o7) (r.toList ++ []) m' Q) (fun k m' => Q (.inr k) m') (.inl (some (lV v'))) (I2, Z) := by
      intro k' v' ho' I2 m2 c2
      obtain ⟨rfl, rfl⟩ := ho.fn ho' (f_next hRV)
      exact L_taill (by omega) hS.2.1 hS.2.2.1 c2 (fun e => by rw [m2.1 122 (by omega) (by omega)]; exact g2 e) dL_law_1375 dL_law_1377 dL_law_1378 dL_law_1381 dL_law_1383 dL_law_1388 dL_law_1390 dL_law_1393 dL_law_1394 dL_law_1395 dL_law_1396 dL_law_1398 dL_law_1399 dL_law_1404 ⟨rfl, rfl, rfl, rfl, rfl, rfl, rfl, rfl, rfl, rfl, rfl, rfl, rfl, by decide⟩ (kk _ _ _ _ _ _ (by omega) (by omega) (zJ.q hS hC hR hP g1 m2))
    refine X_callV (As := [iV (xs (n + 1)).toInt, iV (xs (n + 2)).toInt]) (rest := []) (r := 103) (a' := 4) (b' := 24) dL_law_1372 t9_next ml_L_179 (am_ow hS.2.1.1) rfl rfl (Nat.le_of_ble_eq_true rfl) rfl (by omega) (by omega) (by omega) ?_
    exact r_next (hd := by omega) (hM := hS.2.1) (hv := hR1.1) (hR := hRV) (hD := hP.1) (h0 := fun r x I2 e h d k m c => T0 0 _ (Or.inl ⟨rfl, ⟨r, x, e, h, d, k, rfl⟩⟩) I2 m c) (h1 := fun b I2 m c => T0 1 0 (Or.inr (Or.inl ⟨rfl, rfl, b⟩)) I2 m c)
  exact w_next hnc (by omega) (am_ow hS.1.o) fun Q1 hK => q_next (hd := by omega) (hC := hS.1) (hI := hC.1.1) (h0 := fun r x e h _ d k _ => hK _ _ (H.l hS.2.2.1 (fun _ _ => rfl) ⟨r, x, e, h, d, k, rfl⟩)) (h1 := fun b => hK _ _ (H.l1 b ⟨rfl, rfl⟩))
theorem cs_need {G : am_G} {dp a b n len : Nat} {m : am_M} {Q : am_Q} {o5 o6 o7 : Option am_V} {xs : Nat → Int32} (hsc : va_X G.2.2.1 len xs G.2.1 G.2.1.heap) (hz : SZ G) (hnc : NC G) (hdp : 40 ≤ dp) (ha : 8 ≤ a) (hb : 48 ≤ b) (hl : n + 6 ≤ len) (hl2 : len ≤ 3072) (hJ : zJ m len) (kk : zK G dp a b len n Q) : X G dp a b ML_law 1636 (LL n o5 o6 o7) [] m Q := by
  obtain ⟨I, Z⟩ := m
  obtain ⟨w, s, R, na, Pa, tp, nt, l, f, g, Ri, hS, hC, hR, hP⟩ := hJ
  have hRV : RV R := hC.1.1.1
  refine X_aload_n dL_law_1636 rfl rfl ?_
  refine L_ld (k := 1) dL_law_1637 dL_law_1638 dL_law_1640 dL_law_1641 dL_law_1642 (by decide) hl hl2 hsc ?_
  refine L_ld (k := 2) dL_law_1643 dL_law_1644 dL_law_1646 dL_law_1647 dL_law_1648 (by decide) hl hl2 hsc ?_
  refine L_ld (k := 3) dL_law_1649 dL_law_1650 dL_law_1652 dL_law_1653 dL_law_1654 (by decide) hl hl2 hsc ?_
  refine X_aload_n dL_law_1655 rfl rfl ?_
  refine X_callSH (As := [rV (some 1), iV (xs (n + 1)).toInt, iV (xs (n + 2)).toInt, iV (xs (n + 3)).toInt, rV (some 122)]) (rest := []) (a' := 4) (b' := 24) dL_law_1656 th_need ml_L_193 rfl rfl (Nat.le_of_ble_eq_true rfl) rfl (by omega) (by omega) (by omega) ?_
  have H : zH I Z (am_go (fun r m' => X G dp (a - 4) (b - 24) ML_law (1656 + 3) (LL n o5 o6 o7) (r.toList ++ []) m' Q) (fun k m' => Q (.inr k) m')) (A_need R (xs (n + 1)).toInt (xs (n + 2)).toInt (xs (n + 3)).toInt) (B_r R (xs (n + 1)).toInt) (B_two R (xs (n + 1)).toInt (xs (n + 2)).toInt (xs (n + 3)).toInt) := by
    intro k v ho I1 g1 g2
    have hR1 := hR.cf fun x h1 h2 => g1 x h2 (by omega)
    have e0 : ∀ j, I1 0 j = I 0 j := fun j => by rw [g1 0 (by omega) (by omega)]
    refine X_istore dL_law_1659 (Nat.le_of_ble_eq_true rfl) ?_
    refine X_aload_n dL_law_1661 rfl rfl ?_
    refine L_ld (k := 1) dL_law_1662 dL_law_1663 dL_law_1665 dL_law_1666 dL_law_1667 (by decide) hl hl2 hsc ?_
    refine L_ld (k := 2) dL_law_1668 dL_law_1669 dL_law_1671 dL_law_1672 dL_law_1673 (by decide) hl hl2 hsc ?_
    refine L_ld (k := 3) dL_law_1674 dL_law_1675 dL_law_1677 dL_law_1678 dL_law_1679 (by decide) hl hl2 hsc ?_
    have T0 : ∀ k' v', zA (A_need R (xs (n + 1)).toInt (xs (n + 2)).toInt (xs (n + 3)).toInt) (B_r R (xs (n + 1)).toInt) (B_two R (xs (n + 1)).toInt (xs (n + 2)).toInt (xs (n + 3)).toInt) k' v' → ∀ I2, MF I1 I2 → I2 103 7 = k' → am_go (fun r m' => X G dp (a - 4 - 4) (b - 24 - 24) ML_law (1680 + 3) (LL n (some (iV k)) o6 o7) (r.toList ++ []) m' Q) (fun k m' => Q (.inr k) m') (.inl (some (iV v'))) (I2, Z) := by
      intro k' v' ho' I2 m2 c2
      obtain ⟨rfl, rfl⟩ := ho.fn ho' (f_need hRV)
      exact L_taili (by omega) hS.2.1 hS.2.2.1 c2 (fun e => by rw [m2.1 122 (by omega) (by omega)]; exact g2 e) dL_law_1683 dL_law_1685 dL_law_1686 dL_law_1689 dL_law_1691 dL_law_1696 dL_law_1698 dL_law_1701 dL_law_1702 dL_law_1703 dL_law_1704 dL_law_1706 dL_law_1707 dL_law_1708 dL_law_1713 ⟨rfl, rfl, rfl, rfl, rfl, rfl, rfl, rfl, rfl, rfl, rfl, rfl, rfl, rfl, by decide⟩ (kk _ _ _ _ _ _ (by omega) (by omega) (zJ.q hS hC hR hP g1 m2))
    refine X_callV (As := [iV (xs (n + 1)).toInt, iV (xs (n + 2)).toInt, iV (xs (n + 3)).toInt]) (rest := []) (r := 103) (a' := 4) (b' := 24) dL_law_1680 t9_need ml_L_195 (am_ow hS.2.1.1) rfl rfl (Nat.le_of_ble_eq_true rfl) rfl (by omega) (by omega) (by omega) ?_
    exact r_need (hd := by omega) (hM := hS.2.1) (hv := hR1.1) (hR := hRV) (h0 := fun r x y e h d g k1 k2 I2 m c => T0 0 _ (Or.inl ⟨rfl, ⟨r, x, y, e, h, d, g, k1, k2, rfl⟩⟩) I2 m c) (h1 := fun b I2 m c => T0 1 0 (Or.inr (Or.inl ⟨rfl, rfl, b⟩)) I2 m c) (h2 := fun b g I2 m c => T0 2 0 (Or.inr (Or.inr ⟨rfl, rfl, ⟨b, g⟩⟩)) I2 m c)
  exact w_need hnc (by omega) (am_ow hS.1.o) fun Q1 hK => q_need (hd := by omega) (hC := hS.1) (hI := hC.1.1) (h0 := fun r x y e h _ d g k1 k2 => hK _ _ (H.i hS.2.2.1 (fun _ _ => rfl) ⟨r, x, y, e, h, d, g, k1, k2, rfl⟩)) (h1 := fun b => hK _ _ (H.i1 b (Or.inl ⟨rfl, rfl⟩))) (h2 := fun b c => hK _ _ (H.i2 ⟨b, c⟩ (Or.inr ⟨rfl, rfl⟩)))
theorem cs_bestFactor {G : am_G} {dp a b n len : Nat} {m : am_M} {Q : am_Q} {o5 o6 o7 : Option am_V} {xs : Nat → Int32} (hsc : va_X G.2.2.1 len xs G.2.1 G.2.1.heap) (hz : SZ G) (hnc : NC G) (hdp : 40 ≤ dp) (ha : 8 ≤ a) (hb : 48 ≤ b) (hl : n + 6 ≤ len) (hl2 : len ≤ 3072) (hJ : zJ m len) (kk : zK G dp a b len n Q) : X G dp a b ML_law 1716 (LL n o5 o6 o7) [] m Q := by
  obtain ⟨I, Z⟩ := m
  obtain ⟨w, s, R, na, Pa, tp, nt, l, f, g, Ri, hS, hC, hR, hP⟩ := hJ
  have hRV : RV R := hC.1.1.1
  refine X_aload_n dL_law_1716 rfl rfl ?_
  refine L_ld (k := 1) dL_law_1717 dL_law_1718 dL_law_1720 dL_law_1721 dL_law_1722 (by decide) hl hl2 hsc ?_
  refine L_ld (k := 2) dL_law_1723 dL_law_1724 dL_law_1726 dL_law_1727 dL_law_1728 (by decide) hl hl2 hsc ?_
  refine L_ld (k := 3) dL_law_1729 dL_law_1730 dL_law_1732 dL_law_1733 dL_law_1734 (by decide) hl hl2 hsc ?_
  refine X_aload_n dL_law_1735 rfl rfl ?_
  refine X_callSH (As := [rV (some 1), iV (xs (n + 1)).toInt, iV (xs (n + 2)).toInt, iV (xs (n + 3)).toInt, rV (some 122)]) (rest := []) (a' := 4) (b' := 24) dL_law_1736 th_bestFactor ml_L_196 rfl rfl (Nat.le_of_ble_eq_true rfl) rfl (by omega) (by omega) (by omega) ?_
  have H : zH I Z (am_go (fun r m' => X G dp (a - 4) (b - 24) ML_law (1736 + 3) (LL n o5 o6 o7) (r.toList ++ []) m' Q) (fun k m' => Q (.inr k) m')) (A_bestFactor R (xs (n + 1)).toInt (xs (n + 2)).toInt (xs (n + 3)).toInt) (B_r R (xs (n + 1)).toInt) (B_two R (xs (n + 1)).toInt (xs (n + 2)).toInt (xs (n + 3)).toInt) := by
    intro k v ho I1 g1 g2
    have hR1 := hR.cf fun x h1 h2 => g1 x h2 (by omega)
    have e0 : ∀ j, I1 0 j = I 0 j := fun j => by rw [g1 0 (by omega) (by omega)]
    refine X_istore dL_law_1739 (Nat.le_of_ble_eq_true rfl) ?_
    refine X_aload_n dL_law_1741 rfl rfl ?_
    refine L_ld (k := 1) dL_law_1742 dL_law_1743 dL_law_1745 dL_law_1746 dL_law_1747 (by decide) hl hl2 hsc ?_
    refine L_ld (k := 2) dL_law_1748 dL_law_1749 dL_law_1751 dL_law_1752 dL_law_1753 (by decide) hl hl2 hsc ?_
    refine L_ld (k := 3) dL_law_1754 dL_law_1755 dL_law_1757 dL_law_1758 dL_law_1759 (by decide) hl hl2 hsc ?_
    have T0 : ∀ k' v', zA (A_bestFactor R (xs (n + 1)).toInt (xs (n + 2)).toInt (xs (n + 3)).toInt) (B_r R (xs (n + 1)).toInt) (B_two R (xs (n + 1)).toInt (xs (n + 2)).toInt (xs (n + 3)).toInt) k' v' → ∀ I2, MF I1 I2 → I2 103 7 = k' → am_go (fun r m' => X G dp (a - 4 - 4) (b - 24 - 24) ML_law (1760 + 3) (LL n (some (iV k)) o6 o7) (r.toList ++ []) m' Q) (fun k m' => Q (.inr k) m') (.inl (some (iV v'))) (I2, Z) := by
      intro k' v' ho' I2 m2 c2
      obtain ⟨rfl, rfl⟩ := ho.fn ho' (f_bestFactor hRV)
      exact L_taili (by omega) hS.2.1 hS.2.2.1 c2 (fun e => by rw [m2.1 122 (by omega) (by omega)]; exact g2 e) dL_law_1763 dL_law_1765 dL_law_1766 dL_law_1769 dL_law_1771 dL_law_1776 dL_law_1778 dL_law_1781 dL_law_1782 dL_law_1783 dL_law_1784 dL_law_1786 dL_law_1787 dL_law_1788 dL_law_1793 ⟨rfl, rfl, rfl, rfl, rfl, rfl, rfl, rfl, rfl, rfl, rfl, rfl, rfl, rfl, by decide⟩ (kk _ _ _ _ _ _ (by omega) (by omega) (zJ.q hS hC hR hP g1 m2))
    refine X_callV (As := [iV (xs (n + 1)).toInt, iV (xs (n + 2)).toInt, iV (xs (n + 3)).toInt]) (rest := []) (r := 103) (a' := 4) (b' := 24) dL_law_1760 t9_bestFactor ml_L_198 (am_ow hS.2.1.1) rfl rfl (Nat.le_of_ble_eq_true rfl) rfl (by omega) (by omega) (by omega) ?_
    exact r_bestFactor (hd := by omega) (hM := hS.2.1) (hv := hR1.1) (hR := hRV) (h0 := fun r x y e h d g k1 k2 I2 m c => T0 0 _ (Or.inl ⟨rfl, ⟨r, x, y, e, h, d, g, k1, k2, rfl⟩⟩) I2 m c) (h1 := fun b I2 m c => T0 1 0 (Or.inr (Or.inl ⟨rfl, rfl, b⟩)) I2 m c) (h2 := fun b g I2 m c => T0 2 0 (Or.inr (Or.inr ⟨rfl, rfl, ⟨b, g⟩⟩)) I2 m c)
  exact w_bestFactor hnc (by omega) (am_ow hS.1.o) fun Q1 hK => q_bestFactor (hd := by omega) (hC := hS.1) (hI := hC.1.1) (h0 := fun r x y e h _ d g k1 k2 => hK _ _ (H.i hS.2.2.1 (fun _ _ => rfl) ⟨r, x, y, e, h, d, g, k1, k2, rfl⟩)) (h1 := fun b => hK _ _ (H.i1 b (Or.inl ⟨rfl, rfl⟩))) (h2 := fun b c => hK _ _ (H.i2 ⟨b, c⟩ (Or.inr ⟨rfl, rfl⟩)))
theorem cs_more {G : am_G} {dp a b n len : Nat} {m : am_M} {Q : am_Q} {o5 o6 o7 : Option am_V} {xs : Nat → Int32} (hsc : va_X G.2.2.1 len xs G.2.1 G.2.1.heap) (hz : SZ G) (hnc : NC G) (hdp : 40 ≤ dp) (ha : 8 ≤ a) (hb : 48 ≤ b) (hl : n + 6 ≤ len) (hl2 : len ≤ 3072) (hJ : zJ m len) (kk : zK G dp a b len n Q) : X G dp a b ML_law 1796 (LL n o5 o6 o7) [] m Q := by
  obtain ⟨I, Z⟩ := m
  obtain ⟨w, s, R, na, Pa, tp, nt, l, f, g, Ri, hS, hC, hR, hP⟩ := hJ
  have hRV : RV R := hC.1.1.1
  refine X_aload_n dL_law_1796 rfl rfl ?_
  refine L_ld (k := 1) dL_law_1797 dL_law_1798 dL_law_1800 dL_law_1801 dL_law_1802 (by decide) hl hl2 hsc ?_
  refine X_aload_n dL_law_1803 rfl rfl ?_
  refine X_callSH (As := [rV (some 1), iV (xs (n + 1)).toInt, rV (some 122)]) (rest := []) (a' := 4) (b' := 24) dL_law_1804 th_more ml_L_199 rfl rfl (Nat.le_of_ble_eq_true rfl) rfl (by omega) (by omega) (by omega) ?_
  have H : zH I Z (am_go (fun r m' => X G dp (a - 4) (b - 24) ML_law (1804 + 3) (LL n o5 o6 o7) (r.toList ++ []) m' Q) (fun k m' => Q (.inr k) m')) (A_more R (xs (n + 1)).toInt) (B_r R (xs (n + 1)).toInt) False := by
    intro k v ho I1 g1 g2
    have hR1 := hR.cf fun x h1 h2 => g1 x h2 (by omega)
    have e0 : ∀ j, I1 0 j = I 0 j := fun j => by rw [g1 0 (by omega) (by omega)]
    refine X_istore dL_law_1807 (Nat.le_of_ble_eq_true rfl) ?_
    refine X_aload_n dL_law_1809 rfl rfl ?_
    refine L_ld (k := 1) dL_law_1810 dL_law_1811 dL_law_1813 dL_law_1814 dL_law_1815 (by decide) hl hl2 hsc ?_
    have T0 : ∀ k' v', zA (A_more R (xs (n + 1)).toInt) (B_r R (xs (n + 1)).toInt) False k' v' → ∀ I2, MF I1 I2 → I2 103 7 = k' → am_go (fun r m' => X G dp (a - 4 - 4) (b - 24 - 24) ML_law (1816 + 3) (LL n (some (iV k)) o6 o7) (r.toList ++ []) m' Q) (fun k m' => Q (.inr k) m') (.inl (some (iV v'))) (I2, Z) := by
      intro k' v' ho' I2 m2 c2
      obtain ⟨rfl, rfl⟩ := ho.fn ho' (f_more hRV)
      exact L_taili (by omega) hS.2.1 hS.2.2.1 c2 (fun e => by rw [m2.1 122 (by omega) (by omega)]; exact g2 e) dL_law_1819 dL_law_1821 dL_law_1822 dL_law_1825 dL_law_1827 dL_law_1832 dL_law_1834 dL_law_1837 dL_law_1838 dL_law_1839 dL_law_1840 dL_law_1842 dL_law_1843 dL_law_1844 dL_law_1849 ⟨rfl, rfl, rfl, rfl, rfl, rfl, rfl, rfl, rfl, rfl, rfl, rfl, rfl, rfl, by decide⟩ (kk _ _ _ _ _ _ (by omega) (by omega) (zJ.q hS hC hR hP g1 m2))
    refine X_callV (As := [iV (xs (n + 1)).toInt]) (rest := []) (r := 103) (a' := 4) (b' := 24) dL_law_1816 t9_more ml_L_201 (am_ow hS.2.1.1) rfl rfl (Nat.le_of_ble_eq_true rfl) rfl (by omega) (by omega) (by omega) ?_
    exact r_more (hd := by omega) (hM := hS.2.1) (hv := hR1.1) (hR := hRV) (hD := hP.1) (h0 := fun r I2 e h m c => T0 0 _ (Or.inl ⟨rfl, ⟨r, e, h, rfl⟩⟩) I2 m c) (h1 := fun b I2 m c => T0 1 0 (Or.inr (Or.inl ⟨rfl, rfl, b⟩)) I2 m c)
  exact w_more hnc (by omega) (am_ow hS.1.o) fun Q1 hK => q_more (hd := by omega) (hC := hS.1) (hI := hC.1.1) (h0 := fun r e h _ => hK _ _ (H.i hS.2.2.1 (fun _ _ => rfl) ⟨r, e, h, rfl⟩)) (h1 := fun b => hK _ _ (H.i1 b ⟨rfl, rfl⟩))
theorem cs_tries {G : am_G} {dp a b n len : Nat} {m : am_M} {Q : am_Q} {o5 o6 o7 : Option am_V} {xs : Nat → Int32} (hsc : va_X G.2.2.1 len xs G.2.1 G.2.1.heap) (hz : SZ G) (hnc : NC G) (hdp : 40 ≤ dp) (ha : 8 ≤ a) (hb : 48 ≤ b) (hl : n + 6 ≤ len) (hl2 : len ≤ 3072) (hJ : zJ m len) (kk : zK G dp a b len n Q) : X G dp a b ML_law 1852 (LL n o5 o6 o7) [] m Q := by
  obtain ⟨I, Z⟩ := m
  obtain ⟨w, s, R, na, Pa, tp, nt, l, f, g, Ri, hS, hC, hR, hP⟩ := hJ
  have hRV : RV R := hC.1.1.1
  refine X_aload_n dL_law_1852 rfl rfl ?_
  refine L_ld (k := 1) dL_law_1853 dL_law_1854 dL_law_1856 dL_law_1857 dL_law_1858 (by decide) hl hl2 hsc ?_
  refine L_ld (k := 2) dL_law_1859 dL_law_1860 dL_law_1862 dL_law_1863 dL_law_1864 (by decide) hl hl2 hsc ?_
  refine L_ld (k := 3) dL_law_1865 dL_law_1866 dL_law_1868 dL_law_1869 dL_law_1870 (by decide) hl hl2 hsc ?_
  refine L_ld (k := 4) dL_law_1871 dL_law_1872 dL_law_1874 dL_law_1875 dL_law_1876 (by decide) hl hl2 hsc ?_
  refine X_aload_n dL_law_1877 rfl rfl ?_
  refine X_callSH (As := [rV (some 1), iV (xs (n + 1)).toInt, iV (xs (n + 2)).toInt, iV (xs (n + 3)).toInt, iV (xs (n + 4)).toInt, rV (some 122)]) (rest := []) (a' := 4) (b' := 24) dL_law_1878 th_tries ml_L_202 rfl rfl (Nat.le_of_ble_eq_true rfl) rfl (by omega) (by omega) (by omega) ?_
  have H : zH I Z (am_go (fun r m' => X G dp (a - 4) (b - 24) ML_law (1878 + 3) (LL n o5 o6 o7) (r.toList ++ []) m' Q) (fun k m' => Q (.inr k) m')) (A_tries R (xs (n + 1)).toInt (xs (n + 2)).toInt (xs (n + 3)).toInt (xs (n + 4)).toInt) (B_tries R (xs (n + 1)).toInt (xs (n + 4)).toInt) (C_tries R (xs (n + 1)).toInt (xs (n + 3)).toInt (xs (n + 4)).toInt) := by
    intro k v ho I1 g1 g2
    have hR1 := hR.cf fun x h1 h2 => g1 x h2 (by omega)
    have e0 : ∀ j, I1 0 j = I 0 j := fun j => by rw [g1 0 (by omega) (by omega)]
    refine X_istore dL_law_1881 (Nat.le_of_ble_eq_true rfl) ?_
    refine X_aload_n dL_law_1883 rfl rfl ?_
    refine L_ld (k := 1) dL_law_1884 dL_law_1885 dL_law_1887 dL_law_1888 dL_law_1889 (by decide) hl hl2 hsc ?_
    refine L_ld (k := 2) dL_law_1890 dL_law_1891 dL_law_1893 dL_law_1894 dL_law_1895 (by decide) hl hl2 hsc ?_
    refine L_ld (k := 3) dL_law_1896 dL_law_1897 dL_law_1899 dL_law_1900 dL_law_1901 (by decide) hl hl2 hsc ?_
    refine L_ld (k := 4) dL_law_1902 dL_law_1903 dL_law_1905 dL_law_1906 dL_law_1907 (by decide) hl hl2 hsc ?_
    have T0 : ∀ k' v', zA (A_tries R (xs (n + 1)).toInt (xs (n + 2)).toInt (xs (n + 3)).toInt (xs (n + 4)).toInt) (B_tries R (xs (n + 1)).toInt (xs (n + 4)).toInt) (C_tries R (xs (n + 1)).toInt (xs (n + 3)).toInt (xs (n + 4)).toInt) k' v' → ∀ I2, MF I1 I2 → I2 103 7 = k' → am_go (fun r m' => X G dp (a - 4 - 4) (b - 24 - 24) ML_law (1908 + 3) (LL n (some (iV k)) o6 o7) (r.toList ++ []) m' Q) (fun k m' => Q (.inr k) m') (.inl (some (iV v'))) (I2, Z) := by
      intro k' v' ho' I2 m2 c2
      obtain ⟨rfl, rfl⟩ := ho.fn ho' (f_tries hRV)
      exact L_taili (by omega) hS.2.1 hS.2.2.1 c2 (fun e => by rw [m2.1 122 (by omega) (by omega)]; exact g2 e) dL_law_1911 dL_law_1913 dL_law_1914 dL_law_1917 dL_law_1919 dL_law_1924 dL_law_1926 dL_law_1929 dL_law_1930 dL_law_1931 dL_law_1932 dL_law_1934 dL_law_1935 dL_law_1936 dL_law_1941 ⟨rfl, rfl, rfl, rfl, rfl, rfl, rfl, rfl, rfl, rfl, rfl, rfl, rfl, rfl, by decide⟩ (kk _ _ _ _ _ _ (by omega) (by omega) (zJ.q hS hC hR hP g1 m2))
    refine X_callV (As := [iV (xs (n + 1)).toInt, iV (xs (n + 2)).toInt, iV (xs (n + 3)).toInt, iV (xs (n + 4)).toInt]) (rest := []) (r := 103) (a' := 4) (b' := 24) dL_law_1908 t9_tries ml_L_205 (am_ow hS.2.1.1) rfl rfl (Nat.le_of_ble_eq_true rfl) rfl (by omega) (by omega) (by omega) ?_
    exact r_tries (hd := by omega) (hM := hS.2.1) (hv := hR1.1) (hR := hRV) (h0 := fun r x e h y1 y2 d k1 k2 I2 m c => T0 0 _ (Or.inl ⟨rfl, ⟨r, x, e, h, y1, y2, d, k1, k2, rfl⟩⟩) I2 m c) (h1 := fun b I2 m c => T0 1 0 (Or.inr (Or.inl ⟨rfl, rfl, b⟩)) I2 m c) (h2 := fun b y1 y2 g I2 m c => T0 2 0 (Or.inr (Or.inr ⟨rfl, rfl, ⟨b, y1, y2, g⟩⟩)) I2 m c)
  exact w_tries hnc (by omega) (am_ow hS.1.o) fun Q1 hK => q_tries (hd := by omega) (hC := hS.1) (hI := hC.1.1) (h0 := fun r x e h _ y1 y2 d k1 k2 I3 g9 => hK _ _ (H.i hS.2.2.1 g9 ⟨r, x, e, h, y1, y2, d, k1, k2, rfl⟩)) (h1 := fun b => hK _ _ (H.i1 b (Or.inl ⟨rfl, rfl⟩))) (h2 := fun b y1 y2 c => hK _ _ (H.i2 ⟨b, y1, y2, c⟩ (Or.inr ⟨rfl, rfl⟩)))
theorem cs_quickest {G : am_G} {dp a b n len : Nat} {m : am_M} {Q : am_Q} {o5 o6 o7 : Option am_V} {xs : Nat → Int32} (hsc : va_X G.2.2.1 len xs G.2.1 G.2.1.heap) (hz : SZ G) (hnc : NC G) (hdp : 40 ≤ dp) (ha : 8 ≤ a) (hb : 48 ≤ b) (hl : n + 6 ≤ len) (hl2 : len ≤ 3072) (hJ : zJ m len) (kk : zK G dp a b len n Q) : X G dp a b ML_law 1944 (LL n o5 o6 o7) [] m Q := by
  obtain ⟨I, Z⟩ := m
  obtain ⟨w, s, R, na, Pa, tp, nt, l, f, g, Ri, hS, hC, hR, hP⟩ := hJ
  have hRV : RV R := hC.1.1.1
  refine X_aload_n dL_law_1944 rfl rfl ?_
  refine L_ld (k := 1) dL_law_1945 dL_law_1946 dL_law_1948 dL_law_1949 dL_law_1950 (by decide) hl hl2 hsc ?_
  refine L_ld (k := 2) dL_law_1951 dL_law_1952 dL_law_1954 dL_law_1955 dL_law_1956 (by decide) hl hl2 hsc ?_
  refine X_aload_n dL_law_1957 rfl rfl ?_
  refine X_callSH (As := [rV (some 1), iV (xs (n + 1)).toInt, iV (xs (n + 2)).toInt, rV (some 122)]) (rest := []) (a' := 4) (b' := 24) dL_law_1958 th_quickest ml_L_206 rfl rfl (Nat.le_of_ble_eq_true rfl) rfl (by omega) (by omega) (by omega) ?_
  have H : zH I Z (am_go (fun r m' => X G dp (a - 4) (b - 24) ML_law (1958 + 3) (LL n o5 o6 o7) (r.toList ++ []) m' Q) (fun k m' => Q (.inr k) m')) (A_quickest R (xs (n + 1)).toInt (xs (n + 2)).toInt) (B_quickest (xs (n + 2)).toInt) False := by
    intro k v ho I1 g1 g2
    have hR1 := hR.cf fun x h1 h2 => g1 x h2 (by omega)
    have e0 : ∀ j, I1 0 j = I 0 j := fun j => by rw [g1 0 (by omega) (by omega)]
    refine X_istore dL_law_1961 (Nat.le_of_ble_eq_true rfl) ?_
    refine X_aload_n dL_law_1963 rfl rfl ?_
    refine L_ld (k := 1) dL_law_1964 dL_law_1965 dL_law_1967 dL_law_1968 dL_law_1969 (by decide) hl hl2 hsc ?_
    refine L_ld (k := 2) dL_law_1970 dL_law_1971 dL_law_1973 dL_law_1974 dL_law_1975 (by decide) hl hl2 hsc ?_
    have T0 : ∀ k' v', zA (A_quickest R (xs (n + 1)).toInt (xs (n + 2)).toInt) (B_quickest (xs (n + 2)).toInt) False k' v' → ∀ I2, MF I1 I2 → I2 103 7 = k' → am_go (fun r m' => X G dp (a - 4 - 4) (b - 24 - 24) ML_law (1976 + 3) (LL n (some (iV k)) o6 o7) (r.toList ++ []) m' Q) (fun k m' => Q (.inr k) m') (.inl (some (iV v'))) (I2, Z) := by
      intro k' v' ho' I2 m2 c2
      obtain ⟨rfl, rfl⟩ := ho.fn ho' (f_quickest)
      exact L_taili (by omega) hS.2.1 hS.2.2.1 c2 (fun e => by rw [m2.1 122 (by omega) (by omega)]; exact g2 e) dL_law_1979 dL_law_1981 dL_law_1982 dL_law_1985 dL_law_1987 dL_law_1992 dL_law_1994 dL_law_1997 dL_law_1998 dL_law_1999 dL_law_2000 dL_law_2002 dL_law_2003 dL_law_2004 dL_law_2009 ⟨rfl, rfl, rfl, rfl, rfl, rfl, rfl, rfl, rfl, rfl, rfl, rfl, rfl, rfl, by decide⟩ (kk _ _ _ _ _ _ (by omega) (by omega) (zJ.q hS hC hR hP g1 m2))
    refine X_callV (As := [iV (xs (n + 1)).toInt, iV (xs (n + 2)).toInt]) (rest := []) (r := 103) (a' := 4) (b' := 24) dL_law_1976 t9_quickest ml_L_208 (am_ow hS.2.1.1) rfl rfl (Nat.le_of_ble_eq_true rfl) rfl (by omega) (by omega) (by omega) ?_
    exact r_quickest (hd := by omega) (hM := hS.2.1) (hv := hR1.1) (hR := hRV) (h0 := fun x d k1 k2 I2 m c => T0 0 _ (Or.inl ⟨rfl, ⟨x, d, k1, k2, rfl⟩⟩) I2 m c) (h1 := fun b I2 m c => T0 1 0 (Or.inr (Or.inl ⟨rfl, rfl, b⟩)) I2 m c)
  exact w_quickest hnc (by omega) (am_ow hS.1.o) fun Q1 hK => q_quickest (hd := by omega) (hC := hS.1) (hI := hC.1.1) (h0 := fun x d k1 k2 I3 g9 => hK _ _ (H.i hS.2.2.1 g9 ⟨x, d, k1, k2, rfl⟩)) (h1 := fun b => hK _ _ (H.i1 b ⟨rfl, rfl⟩))
