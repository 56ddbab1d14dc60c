/-! THE LAW'S CASES: acts, by program -/
theorem cs_draw {G : am_G} {dp a b n len : Nat} {m : am_M} {Q : am_Q} {o5 o6 o7 : Option am_V} {xs : Nat → Int32} (hsc : va_X G.2.2.1 len xs G.2.1 G.2.1.heap) (hz : SZ G) (hnc : NC G) (hdp : 40 ≤ dp) (ha : 8 ≤ a) (hb : 48 ≤ b) (hl : n + 6 ≤ len) (hl2 : len ≤ 3072) (hJ : zJ m len) (kk : zK G dp a b len n Q) : X G dp a b ML_law 1284 (LL n o5 o6 o7) [] m Q := by
  obtain ⟨I, Z⟩ := m
  obtain ⟨w, s, R, na, Pa, tp, nt, l, f, g, Ri, hS, hC, hR, hP⟩ := hJ
  have hRV : RV R := hC.1.1.1
  have hDp : ∀ j, j < psn na → DR (psh Pa na R j) := psh_all hP.2.1 hR.2.1.2.1 hP.1
  refine X_aload_n dL_law_1284 rfl rfl ?_
  refine L_ld (k := 1) dL_law_1285 dL_law_1286 dL_law_1288 dL_law_1289 dL_law_1290 (by decide) hl hl2 hsc ?_
  refine X_aload_n dL_law_1291 rfl rfl ?_
  refine X_callSH (As := [rV (some 1), iV (xs (n + 1)).toInt, rV (some 122)]) (rest := []) (a' := 4) (b' := 24) dL_law_1292 th_draw ml_L_174 rfl rfl (Nat.le_of_ble_eq_true rfl) rfl (by omega) (by omega) (by omega) ?_
  have H : yH I Z (am_go (fun r m' => X G dp (a - 4) (b - 24) ML_law (1292 + 3) (LL n o5 o6 o7) (r.toList ++ []) m' Q) (fun k m' => Q (.inr k) m')) w R na Pa (A_draw R na Pa (xs (n + 1)).toInt) (B_draw (xs (n + 1)).toInt) False := by
    intro k v R1 n1 P1 ho I1 g1 X1 g2
    have hR1 := hR.cf fun x h1 h2 => g1 x h2 (by omega)
    have e0 : ∀ j, I1 0 j = I 0 j := fun j => by rw [g1 0 (by omega) (by omega)]
    refine X_istore dL_law_1295 (Nat.le_of_ble_eq_true rfl) ?_
    refine X_aload_n dL_law_1297 rfl rfl ?_
    refine L_ld (k := 1) dL_law_1298 dL_law_1299 dL_law_1301 dL_law_1302 dL_law_1303 (by decide) hl hl2 hsc ?_
    have T0 : ∀ k' v' R' n' P', yA R na Pa (A_draw R na Pa (xs (n + 1)).toInt) (B_draw (xs (n + 1)).toInt) False k' v' R' n' P' → ∀ I2, MU I1 I2 → I2 103 7 = k' → RowV I2 R' → PaV I2 n' P' → DR R' → (∀ j, j < n' → DR (P' j)) → am_go (fun r m' => X G dp (a - 4 - 4) (b - 24 - 24) ML_law (1304 + 3) (LL n (some (iV k)) o6 o7) (r.toList ++ []) m' Q) (fun k m' => Q (.inr k) m') (.inl (some (iV v'))) (I2, Z) := by
      intro k' v' R' n' P' ho' I2 m2 c2 r2 p2 d2 dp2
      obtain ⟨rfl, rfl, rfl, rfl, rfl⟩ := ho.fn ho' (y_draw)
      exact L_taili (by omega) hS.2.1 hS.2.2.1 c2 (fun e => by rw [m2.1 122 (by omega)]; exact g2 e) dL_law_1307 dL_law_1309 dL_law_1310 dL_law_1313 dL_law_1315 dL_law_1320 dL_law_1322 dL_law_1325 dL_law_1326 dL_law_1327 dL_law_1328 dL_law_1330 dL_law_1331 dL_law_1332 dL_law_1337 ⟨rfl, rfl, rfl, rfl, rfl, rfl, rfl, rfl, rfl, rfl, rfl, rfl, rfl, rfl, by decide⟩ (kk _ _ _ _ _ _ (by omega) (by omega) (zJ.u hS hC hR hP g1 X1 m2 r2 p2 d2 dp2))
    refine X_callV (As := [iV (xs (n + 1)).toInt]) (rest := []) (r := 103) (a' := 4) (b' := 24) dL_law_1304 t9_draw ml_L_176 (am_ow hS.2.1.1) rfl rfl (Nat.le_of_ble_eq_true rfl) rfl (by omega) (by omega) (by omega) ?_
    exact r_draw (hd := by omega) (hM := hS.2.1) (hv := hR1.1) (hR := hRV) (hD := hP.1) (hp := hR1.2.1) (h1 := fun b I2 m c => T0 1 0 _ _ _ (Or.inr (Or.inl ⟨rfl, rfl, b, rfl, rfl, rfl⟩)) I2 m.mu c (m.row hR1.1) (m.pa hR1.2.1) hP.1 hP.2.1) (h0 := fun x1 x2 I2 c => ⟨fun e m => T0 0 _ _ _ _ (Or.inl ⟨rfl, ⟨x1, x2⟩, Or.inl ⟨e, rfl, rfl, rfl, rfl⟩⟩) I2 m.mu c (m.row hR1.1) (m.pa hR1.2.1) hP.1 hP.2.1, fun e m h2 h3 h4 => T0 0 _ _ _ _ (Or.inl ⟨rfl, ⟨x1, x2⟩, Or.inr ⟨e, rfl, rfl, rfl, rfl⟩⟩) I2 m c h2 h4 h3 hDp⟩)
  exact w_draw hnc (by omega) (am_ow hS.1.o) fun Q1 hK => q_draw (hd := by omega) (hC := hS.1) (hX := hC.1) (h1 := fun b => hK _ _ (H.i1 hC.1 b ⟨rfl, rfl⟩)) (h0 := fun x1 x2 I3 g9 => ⟨fun e X3 => hK _ _ (H.i hS.w hS.2.2.1 g9 X3 ⟨⟨x1, x2⟩, Or.inl ⟨e, rfl, rfl, rfl, rfl⟩⟩), fun e X3 => hK _ _ (H.i hS.w hS.2.2.1 g9 (X3.sm Rd_sm) ⟨⟨x1, x2⟩, Or.inr ⟨e, rfl, rfl, rfl, rfl⟩⟩)⟩)
theorem cs_paper {G : am_G} {dp a b n len : Nat} {m : am_M} {Q : am_Q} {o5 o6 o7 : Option am_V} {xs : Nat → Int32} (hsc : va_X G.2.2.1 len xs G.2.1 G.2.1.heap) (hz : SZ G) (hnc : NC G) (hdp : 40 ≤ dp) (ha : 8 ≤ a) (hb : 48 ≤ b) (hl : n + 6 ≤ len) (hl2 : len ≤ 3072) (hJ : zJ m len) (kk : zK G dp a b len n Q) : X G dp a b ML_law 1407 (LL n o5 o6 o7) [] m Q := by
  obtain ⟨I, Z⟩ := m
  obtain ⟨w, s, R, na, Pa, tp, nt, l, f, g, Ri, hS, hC, hR, hP⟩ := hJ
  have hRV : RV R := hC.1.1.1
  have hDp : ∀ j, j < psn na → DR (psh Pa na R j) := psh_all hP.2.1 hR.2.1.2.1 hP.1
  refine X_aload_n dL_law_1407 rfl rfl ?_
  refine L_ld (k := 1) dL_law_1408 dL_law_1409 dL_law_1411 dL_law_1412 dL_law_1413 (by decide) hl hl2 hsc ?_
  refine L_ld (k := 2) dL_law_1414 dL_law_1415 dL_law_1417 dL_law_1418 dL_law_1419 (by decide) hl hl2 hsc ?_
  refine L_ld (k := 3) dL_law_1420 dL_law_1421 dL_law_1423 dL_law_1424 dL_law_1425 (by decide) hl hl2 hsc ?_
  refine X_aload_n dL_law_1426 rfl rfl ?_
  refine X_callSH (As := [rV (some 1), iV (xs (n + 1)).toInt, iV (xs (n + 2)).toInt, iV (xs (n + 3)).toInt, rV (some 122)]) (rest := []) (a' := 4) (b' := 24) dL_law_1427 th_paper ml_L_180 rfl rfl (Nat.le_of_ble_eq_true rfl) rfl (by omega) (by omega) (by omega) ?_
  have H : yH I Z (am_go (fun r m' => X G dp (a - 4) (b - 24) ML_law (1427 + 3) (LL n o5 o6 o7) (r.toList ++ []) m' Q) (fun k m' => Q (.inr k) m')) w R na Pa (A_paper R na Pa (xs (n + 1)).toInt (xs (n + 2)).toInt (xs (n + 3)).toInt) (B_paper R (xs (n + 1)).toInt (xs (n + 2)).toInt) (C_paper R (xs (n + 1)).toInt (xs (n + 2)).toInt (xs (n + 3)).toInt) := by
    intro k v R1 n1 P1 ho I1 g1 X1 g2
    have hR1 := hR.cf fun x h1 h2 => g1 x h2 (by omega)
    have e0 : ∀ j, I1 0 j = I 0 j := fun j => by rw [g1 0 (by omega) (by omega)]
    refine X_istore dL_law_1430 (Nat.le_of_ble_eq_true rfl) ?_
    refine X_aload_n dL_law_1432 rfl rfl ?_
    refine L_ld (k := 1) dL_law_1433 dL_law_1434 dL_law_1436 dL_law_1437 dL_law_1438 (by decide) hl hl2 hsc ?_
    refine L_ld (k := 2) dL_law_1439 dL_law_1440 dL_law_1442 dL_law_1443 dL_law_1444 (by decide) hl hl2 hsc ?_
    refine L_ld (k := 3) dL_law_1445 dL_law_1446 dL_law_1448 dL_law_1449 dL_law_1450 (by decide) hl hl2 hsc ?_
    have T0 : ∀ k' v' R' n' P', yA R na Pa (A_paper R na Pa (xs (n + 1)).toInt (xs (n + 2)).toInt (xs (n + 3)).toInt) (B_paper R (xs (n + 1)).toInt (xs (n + 2)).toInt) (C_paper R (xs (n + 1)).toInt (xs (n + 2)).toInt (xs (n + 3)).toInt) k' v' R' n' P' → ∀ I2, MU I1 I2 → I2 103 7 = k' → RowV I2 R' → PaV I2 n' P' → DR R' → (∀ j, j < n' → DR (P' j)) → am_go (fun r m' => X G dp (a - 4 - 4) (b - 24 - 24) ML_law (1451 + 3) (LL n (some (iV k)) o6 o7) (r.toList ++ []) m' Q) (fun k m' => Q (.inr k) m') (.inl (some (iV v'))) (I2, Z) := by
      intro k' v' R' n' P' ho' I2 m2 c2 r2 p2 d2 dp2
      obtain ⟨rfl, rfl, rfl, rfl, rfl⟩ := ho.fn ho' (y_paper hRV)
      exact L_taili (by omega) hS.2.1 hS.2.2.1 c2 (fun e => by rw [m2.1 122 (by omega)]; exact g2 e) dL_law_1454 dL_law_1456 dL_law_1457 dL_law_1460 dL_law_1462 dL_law_1467 dL_law_1469 dL_law_1472 dL_law_1473 dL_law_1474 dL_law_1475 dL_law_1477 dL_law_1478 dL_law_1479 dL_law_1484 ⟨rfl, rfl, rfl, rfl, rfl, rfl, rfl, rfl, rfl, rfl, rfl, rfl, rfl, rfl, by decide⟩ (kk _ _ _ _ _ _ (by omega) (by omega) (zJ.u hS hC hR hP g1 X1 m2 r2 p2 d2 dp2))
    refine X_callV (As := [iV (xs (n + 1)).toInt, iV (xs (n + 2)).toInt, iV (xs (n + 3)).toInt]) (rest := []) (r := 103) (a' := 4) (b' := 24) dL_law_1451 t9_paper ml_L_182 (am_ow hS.2.1.1) rfl rfl (Nat.le_of_ble_eq_true rfl) rfl (by omega) (by omega) (by omega) ?_
    exact r_paper (hd := by omega) (hM := hS.2.1) (hv := hR1.1) (hR := hRV) (hp := hR1.2.1) (h1 := fun b I2 m c => T0 1 0 _ _ _ (Or.inr (Or.inl ⟨rfl, rfl, b, rfl, rfl, rfl⟩)) I2 m.mu c (m.row hR1.1) (m.pa hR1.2.1) hP.1 hP.2.1) (h2 := fun r e h h2 b I2 m c => T0 2 0 _ _ _ (Or.inr (Or.inr ⟨rfl, rfl, ⟨r, e, h, h2, b⟩, rfl, rfl, rfl⟩)) I2 m.mu c (m.row hR1.1) (m.pa hR1.2.1) hP.1 hP.2.1) (h0 := fun r x e h e2 h2 y1 y2 I2 m c k1 k2 => T0 0 _ _ _ _ (Or.inl ⟨rfl, r, x, e, h, e2, h2, ⟨y1, y2⟩, rfl, rfl, rfl, rfl⟩) I2 m c k1 k2 (hP.1.pl (by omega) (by omega) (by omega) (by have := hRV.n; have := hRV.c; omega)) hDp)
  exact w_paper hnc (by omega) (am_ow hS.1.o) fun Q1 hK => q_paper (hd := by omega) (hC := hS.1) (hX := hC.1) (h1 := fun b => hK _ _ (H.i1 hC.1 b (Or.inl ⟨rfl, rfl⟩))) (h2 := fun r e h h2 b => hK _ _ (H.i2 hC.1 ⟨r, e, h, h2, b⟩ (Or.inr ⟨rfl, rfl⟩))) (h0 := fun r x e h _ e2 h2 _ y1 y2 I3 g9 X3 => hK _ _ (H.i hS.w hS.2.2.1 g9 X3 ⟨r, x, e, h, e2, h2, ⟨y1, y2⟩, rfl, rfl, rfl, rfl⟩))
theorem cs_way {G : am_G} {dp a b n len : Nat} {m : am_M} {Q : am_Q} {o5 o6 o7 : Option am_V} {xs : Nat → Int32} (hsc : va_X G.2.2.1 len xs G.2.1 G.2.1.heap) (hz : SZ G) (hnc : NC G) (hdp : 40 ≤ dp) (ha : 8 ≤ a) (hb : 48 ≤ b) (hl : n + 6 ≤ len) (hl2 : len ≤ 3072) (hJ : zJ m len) (kk : zK G dp a b len n Q) : X G dp a b ML_law 1487 (LL n o5 o6 o7) [] m Q := by
  obtain ⟨I, Z⟩ := m
  obtain ⟨w, s, R, na, Pa, tp, nt, l, f, g, Ri, hS, hC, hR, hP⟩ := hJ
  have hRV : RV R := hC.1.1.1
  have hDp : ∀ j, j < psn na → DR (psh Pa na R j) := psh_all hP.2.1 hR.2.1.2.1 hP.1
  refine X_aload_n dL_law_1487 rfl rfl ?_
  refine L_ld (k := 1) dL_law_1488 dL_law_1489 dL_law_1491 dL_law_1492 dL_law_1493 (by decide) hl hl2 hsc ?_
  refine L_ld (k := 2) dL_law_1494 dL_law_1495 dL_law_1497 dL_law_1498 dL_law_1499 (by decide) hl hl2 hsc ?_
  refine X_aload_n dL_law_1500 rfl rfl ?_
  refine X_callSH (As := [rV (some 1), iV (xs (n + 1)).toInt, iV (xs (n + 2)).toInt, rV (some 122)]) (rest := []) (a' := 4) (b' := 24) dL_law_1501 th_way ml_L_183 rfl rfl (Nat.le_of_ble_eq_true rfl) rfl (by omega) (by omega) (by omega) ?_
  have H : yH I Z (am_go (fun r m' => X G dp (a - 4) (b - 24) ML_law (1501 + 3) (LL n o5 o6 o7) (r.toList ++ []) m' Q) (fun k m' => Q (.inr k) m')) w R na Pa (A_way R na Pa (xs (n + 1)).toInt (xs (n + 2)).toInt) (B_r R (xs (n + 1)).toInt) (C_way R (xs (n + 1)).toInt (xs (n + 2)).toInt) := by
    intro k v R1 n1 P1 ho I1 g1 X1 g2
    have hR1 := hR.cf fun x h1 h2 => g1 x h2 (by omega)
    have e0 : ∀ j, I1 0 j = I 0 j := fun j => by rw [g1 0 (by omega) (by omega)]
    refine X_istore dL_law_1504 (Nat.le_of_ble_eq_true rfl) ?_
    refine X_aload_n dL_law_1506 rfl rfl ?_
    refine L_ld (k := 1) dL_law_1507 dL_law_1508 dL_law_1510 dL_law_1511 dL_law_1512 (by decide) hl hl2 hsc ?_
    refine L_ld (k := 2) dL_law_1513 dL_law_1514 dL_law_1516 dL_law_1517 dL_law_1518 (by decide) hl hl2 hsc ?_
    have T0 : ∀ k' v' R' n' P', yA R na Pa (A_way R na Pa (xs (n + 1)).toInt (xs (n + 2)).toInt) (B_r R (xs (n + 1)).toInt) (C_way R (xs (n + 1)).toInt (xs (n + 2)).toInt) k' v' R' n' P' → ∀ I2, MU I1 I2 → I2 103 7 = k' → RowV I2 R' → PaV I2 n' P' → DR R' → (∀ j, j < n' → DR (P' j)) → am_go (fun r m' => X G dp (a - 4 - 4) (b - 24 - 24) ML_law (1519 + 3) (LL n (some (iV k)) o6 o7) (r.toList ++ []) m' Q) (fun k m' => Q (.inr k) m') (.inl (some (iV v'))) (I2, Z) := by
      intro k' v' R' n' P' ho' I2 m2 c2 r2 p2 d2 dp2
      obtain ⟨rfl, rfl, rfl, rfl, rfl⟩ := ho.fn ho' (y_way hRV)
      exact L_taili (by omega) hS.2.1 hS.2.2.1 c2 (fun e => by rw [m2.1 122 (by omega)]; exact g2 e) dL_law_1522 dL_law_1524 dL_law_1525 dL_law_1528 dL_law_1530 dL_law_1535 dL_law_1537 dL_law_1540 dL_law_1541 dL_law_1542 dL_law_1543 dL_law_1545 dL_law_1546 dL_law_1547 dL_law_1552 ⟨rfl, rfl, rfl, rfl, rfl, rfl, rfl, rfl, rfl, rfl, rfl, rfl, rfl, rfl, by decide⟩ (kk _ _ _ _ _ _ (by omega) (by omega) (zJ.u hS hC hR hP g1 X1 m2 r2 p2 d2 dp2))
    refine X_callV (As := [iV (xs (n + 1)).toInt, iV (xs (n + 2)).toInt]) (rest := []) (r := 103) (a' := 4) (b' := 24) dL_law_1519 t9_way ml_L_185 (am_ow hS.2.1.1) rfl rfl (Nat.le_of_ble_eq_true rfl) rfl (by omega) (by omega) (by omega) ?_
    exact r_way (hd := by omega) (hM := hS.2.1) (hv := hR1.1) (hR := hRV) (hp := hR1.2.1) (h1 := fun b I2 m c => T0 1 0 _ _ _ (Or.inr (Or.inl ⟨rfl, rfl, b, rfl, rfl, rfl⟩)) I2 m.mu c (m.row hR1.1) (m.pa hR1.2.1) hP.1 hP.2.1) (h2 := fun h b I2 m c => T0 2 0 _ _ _ (Or.inr (Or.inr ⟨rfl, rfl, ⟨h, b⟩, rfl, rfl, rfl⟩)) I2 m.mu c (m.row hR1.1) (m.pa hR1.2.1) hP.1 hP.2.1) (h0 := fun r e h y1 I2 m c k1 k2 => T0 0 _ _ _ _ (Or.inl ⟨rfl, r, e, h, y1, rfl, rfl, rfl, rfl⟩) I2 m c k1 k2 (hP.1.pl (by omega) (by omega) (by omega) (by have := hRV.n; have := hRV.c; omega)) hDp)
  exact w_way hnc (by omega) (am_ow hS.1.o) fun Q1 hK => q_way (hd := by omega) (hC := hS.1) (hX := hC.1) (h1 := fun b => hK _ _ (H.i1 hC.1 b (Or.inl ⟨rfl, rfl⟩))) (h2 := fun h b => hK _ _ (H.i2 hC.1 ⟨h, b⟩ (Or.inr ⟨rfl, rfl⟩))) (h0 := fun r e h _ y1 I3 g9 X3 => hK _ _ (H.i hS.w hS.2.2.1 g9 X3 ⟨r, e, h, y1, rfl, rfl, rfl, rfl⟩))
theorem cs_rule {G : am_G} {dp a b n len : Nat} {m : am_M} {Q : am_Q} {o5 o6 o7 : Option am_V} {xs : Nat → Int32} (hsc : va_X G.2.2.1 len xs G.2.1 G.2.1.heap) (hz : SZ G) (hnc : NC G) (hdp : 40 ≤ dp) (ha : 8 ≤ a) (hb : 48 ≤ b) (hl : n + 6 ≤ len) (hl2 : len ≤ 3072) (hJ : zJ m len) (kk : zK G dp a b len n Q) : X G dp a b ML_law 1555 (LL n o5 o6 o7) [] m Q := by
  obtain ⟨I, Z⟩ := m
  obtain ⟨w, s, R, na, Pa, tp, nt, l, f, g, Ri, hS, hC, hR, hP⟩ := hJ
  have hRV : RV R := hC.1.1.1
  have hDp : ∀ j, j < psn na → DR (psh Pa na R j) := psh_all hP.2.1 hR.2.1.2.1 hP.1
  refine X_aload_n dL_law_1555 rfl rfl ?_
  refine L_ld (k := 1) dL_law_1556 dL_law_1557 dL_law_1559 dL_law_1560 dL_law_1561 (by decide) hl hl2 hsc ?_
  refine L_ld (k := 2) dL_law_1562 dL_law_1563 dL_law_1565 dL_law_1566 dL_law_1567 (by decide) hl hl2 hsc ?_
  refine X_aload_n dL_law_1568 rfl rfl ?_
  refine X_callSH (As := [rV (some 1), iV (xs (n + 1)).toInt, iV (xs (n + 2)).toInt, rV (some 122)]) (rest := []) (a' := 4) (b' := 24) dL_law_1569 th_rule ml_L_186 rfl rfl (Nat.le_of_ble_eq_true rfl) rfl (by omega) (by omega) (by omega) ?_
  have H : yH I Z (am_go (fun r m' => X G dp (a - 4) (b - 24) ML_law (1569 + 3) (LL n o5 o6 o7) (r.toList ++ []) m' Q) (fun k m' => Q (.inr k) m')) w R na Pa (A_rule R na Pa (xs (n + 1)).toInt (xs (n + 2)).toInt) (B_rule (xs (n + 1)).toInt) (C_rule (xs (n + 1)).toInt (xs (n + 2)).toInt) := by
    intro k v R1 n1 P1 ho I1 g1 X1 g2
    have hR1 := hR.cf fun x h1 h2 => g1 x h2 (by omega)
    have e0 : ∀ j, I1 0 j = I 0 j := fun j => by rw [g1 0 (by omega) (by omega)]
    refine X_istore dL_law_1572 (Nat.le_of_ble_eq_true rfl) ?_
    refine X_aload_n dL_law_1574 rfl rfl ?_
    refine L_ld (k := 1) dL_law_1575 dL_law_1576 dL_law_1578 dL_law_1579 dL_law_1580 (by decide) hl hl2 hsc ?_
    refine L_ld (k := 2) dL_law_1581 dL_law_1582 dL_law_1584 dL_law_1585 dL_law_1586 (by decide) hl hl2 hsc ?_
    have T0 : ∀ k' v' R' n' P', yA R na Pa (A_rule R na Pa (xs (n + 1)).toInt (xs (n + 2)).toInt) (B_rule (xs (n + 1)).toInt) (C_rule (xs (n + 1)).toInt (xs (n + 2)).toInt) k' v' R' n' P' → ∀ I2, MU I1 I2 → I2 103 7 = k' → RowV I2 R' → PaV I2 n' P' → DR R' → (∀ j, j < n' → DR (P' j)) → am_go (fun r m' => X G dp (a - 4 - 4) (b - 24 - 24) ML_law (1587 + 3) (LL n (some (iV k)) o6 o7) (r.toList ++ []) m' Q) (fun k m' => Q (.inr k) m') (.inl (some (iV v'))) (I2, Z) := by
      intro k' v' R' n' P' ho' I2 m2 c2 r2 p2 d2 dp2
      obtain ⟨rfl, rfl, rfl, rfl, rfl⟩ := ho.fn ho' (y_rule)
      exact L_taili (by omega) hS.2.1 hS.2.2.1 c2 (fun e => by rw [m2.1 122 (by omega)]; exact g2 e) dL_law_1590 dL_law_1592 dL_law_1593 dL_law_1596 dL_law_1598 dL_law_1603 dL_law_1605 dL_law_1608 dL_law_1609 dL_law_1610 dL_law_1611 dL_law_1613 dL_law_1614 dL_law_1615 dL_law_1620 ⟨rfl, rfl, rfl, rfl, rfl, rfl, rfl, rfl, rfl, rfl, rfl, rfl, rfl, rfl, by decide⟩ (kk _ _ _ _ _ _ (by omega) (by omega) (zJ.u hS hC hR hP g1 X1 m2 r2 p2 d2 dp2))
    refine X_callV (As := [iV (xs (n + 1)).toInt, iV (xs (n + 2)).toInt]) (rest := []) (r := 103) (a' := 4) (b' := 24) dL_law_1587 t9_rule ml_L_188 (am_ow hS.2.1.1) rfl rfl (Nat.le_of_ble_eq_true rfl) rfl (by omega) (by omega) (by omega) ?_
    exact r_rule (hd := by omega) (hM := hS.2.1) (hv := hR1.1) (hp := hR1.2.1) (h1 := fun b I2 m c => T0 1 0 _ _ _ (Or.inr (Or.inl ⟨rfl, rfl, b, rfl, rfl, rfl⟩)) I2 m.mu c (m.row hR1.1) (m.pa hR1.2.1) hP.1 hP.2.1) (h2 := fun h h2 b I2 m c => T0 2 0 _ _ _ (Or.inr (Or.inr ⟨rfl, rfl, ⟨h, h2, b⟩, rfl, rfl, rfl⟩)) I2 m.mu c (m.row hR1.1) (m.pa hR1.2.1) hP.1 hP.2.1) (h0 := fun r e h y1 y2 I2 m c k1 k2 => T0 0 _ _ _ _ (Or.inl ⟨rfl, r, e, h, ⟨y1, y2⟩, rfl, rfl, rfl, rfl⟩) I2 m c k1 k2 (hP.1.pl (by omega) (by omega) (by omega) (by omega)) hDp)
  exact w_rule hnc (by omega) (am_ow hS.1.o) fun Q1 hK => q_rule (hd := by omega) (hC := hS.1) (hX := hC.1) (h1 := fun b => hK _ _ (H.i1 hC.1 b (Or.inl ⟨rfl, rfl⟩))) (h2 := fun h h2 b => hK _ _ (H.i2 hC.1 ⟨h, h2, b⟩ (Or.inr ⟨rfl, rfl⟩))) (h0 := fun r e h y1 y2 I3 g9 X3 => hK _ _ (H.i hS.w hS.2.2.1 g9 X3 ⟨r, e, h, ⟨y1, y2⟩, rfl, rfl, rfl, rfl⟩))
