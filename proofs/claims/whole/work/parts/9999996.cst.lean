/-! THE LAW'S CASES: texts, by program -/
theorem cs_election {G : am_G} {dp a b n len : Nat} {m : am_M} {Q : am_Q} {o5 o6 o7 : Option am_V} {xs : Nat → Int32} (hsc : va_X G.2.2.1 len xs G.2.1 G.2.1.heap) (hz : SZ G) (hnc : NC G) (hdp : 40 ≤ dp) (ha : 8 ≤ a) (hb : 48 ≤ b) (hl : n + 6 ≤ len) (hl2 : len ≤ 3072) (hJ : zJ m len) (kk : zK G dp a b len n Q) : X G dp a b ML_law 261 (LL n o5 o6 o7) [] m Q := by
  obtain ⟨I, P, Z⟩ := m
  obtain ⟨w, s, R, na, Pa, tp, nt, l, f, g, Ri, hS, hC, hR, hP⟩ := hJ
  have hRV : RV R := hC.1.1.1
  refine X_aload_n dL_law_261 rfl rfl ?_
  refine L_ld (k := 1) dL_law_262 dL_law_263 dL_law_265 dL_law_266 dL_law_267 (by decide) hl hl2 hsc ?_
  refine X_aload_n dL_law_268 rfl rfl ?_
  refine X_callSH (As := [rV (some 1), iV (xs (n + 1)).toInt, rV (some 122)]) (rest := []) (a' := 4) (b' := 24) dL_law_269 th_election ml_L_107 rfl rfl (Nat.le_of_ble_eq_true rfl) rfl (by omega) (by omega) (by omega) ?_
  have H : zTH I P Z (am_go (fun r m' => X G dp (a - 4) (b - 24) ML_law (269 + 3) (LL n o5 o6 o7) (r.toList ++ []) m' Q) (fun k m' => Q (.inr k) m')) Pa tp (E_ele tp (xs (n + 1)).toInt w s R na nt f) := by
    intro k v w1 s1 R1 n1 t1 f1 ho I1 P1 hp hC1 g1 h11 X1 T1 h12 g2
    have hR1 := hR.cf (I' := I1) fun x h1 h2 => g1 x (by omega) h2 (by omega)
    have hM1 : Md (I1, P1, Z) := hS.2.1.cp hp
    have e0 : ∀ j, I1 0 j = I 0 j := fun j => by rw [g1 0 (by omega) (by omega) (by omega)]
    refine X_istore dL_law_272 (Nat.le_of_ble_eq_true rfl) ?_
    refine X_aload_n dL_law_274 rfl rfl ?_
    refine L_ld (k := 1) dL_law_275 dL_law_276 dL_law_278 dL_law_279 dL_law_280 (by decide) hl hl2 hsc ?_
    have T0 : ∀ k' v' w' s' R' n' nt' f', (E_ele tp (xs (n + 1)).toInt w s R na nt f) k' v' w' s' R' n' nt' f' → ∀ I2 : Nat → Nat → Int, (∀ x, x < 103 ∨ x = 107 ∨ x = 120 ∨ x = 122 → I2 x = I1 x) → I2 103 5 = I1 103 5 → I2 103 22 = I1 103 22 → RowV I2 R' → PaV I2 n' Pa → TpM I2 tp nt' → I2 103 32 = f' → I2 103 7 = k' → zP R' n' Pa tp l g Ri → am_go (fun r m' => X G dp (a - 4 - 4) (b - 24 - 24) ML_law (281 + 3) (LL n (some (iV k)) o6 o7) (r.toList ++ []) m' Q) (fun k m' => Q (.inr k) m') (.inl (some (iV v'))) (I2, P1, Z) := by
      intro k' v' w' s' R' n' nt' f' ho' I2 f2 h5 h22 r2 p2 t2 h32 c2 hP2
      obtain ⟨rfl, rfl, rfl, rfl, rfl, rfl, rfl, rfl⟩ := n_ele _ _ _ _ _ _ _ _ _ _ _ _ _ _ _ _ ho ho'
      exact L_taili (by omega) hM1 hS.2.2.1 c2 (fun e => by rw [f2 122 (by omega)]; exact g2 e) dL_law_284 dL_law_286 dL_law_287 dL_law_290 dL_law_292 dL_law_297 dL_law_299 dL_law_302 dL_law_303 dL_law_304 dL_law_305 dL_law_307 dL_law_308 dL_law_309 dL_law_314 ⟨rfl, rfl, rfl, rfl, rfl, rfl, rfl, rfl, rfl, rfl, rfl, rfl, rfl, rfl, by decide⟩ (kk _ _ _ _ _ _ (by omega) (by omega) (zJ.t hS hC hR hP hp hC1 g1 h11 X1 T1 h12 (fun x h => f2 x (by omega)) h5 h22 r2 p2 t2 h32 hP2))
    refine X_callV (As := [iV (xs (n + 1)).toInt]) (rest := []) (r := 103) (a' := 4) (b' := 24) dL_law_281 t9_election ml_L_112 (am_ow hM1.1) rfl rfl (Nat.le_of_ble_eq_true rfl) rfl (by omega) (by omega) (by omega) ?_
    exact r_election hz (by omega) hM1 hR1.1 hR1.2.1 hP.2.2.1 hR1.2.2.1 (h1 := fun b I2 m c => T0 1 0 _ _ _ _ _ _ (Or.inl ⟨rfl, rfl, b, rfl, rfl, rfl, rfl, rfl, rfl⟩) I2 (fun x h => m.1 x (by omega) (by omega)) (m.2 _ (by omega) (by omega) (by omega)) (m.2 _ (by omega) (by omega) (by omega)) (m.row hR1.1) (m.pa hR1.2.1) (hR1.2.2.1.to (m.2 _ (by omega) (by omega) (by omega)) (m.1 _ (by omega) (by omega))) ((m.2 _ (by omega) (by omega) (by omega)).trans hR1.2.2.2.2.1) c hP)
      (hF := fun x e h b I2 m c r p h24 h32 => T0 0 _ _ _ _ _ _ _ (Or.inr (Or.inl ⟨rfl, x, e, h, b, rfl, rfl, rfl, rfl, rfl, rfl, rfl⟩)) I2 (fun x h => m.1 x (by omega) (by omega) (by omega)) (m.2 _ (by omega)) (m.2 _ (by omega)) r p ⟨h24, Nat.zero_le _, fun j hj => absurd hj (Nat.not_lt_zero j)⟩ h32 c hP)
      (h0 := fun x e h b I2 m c r p h24 h32 => T0 0 _ _ _ _ _ _ _ (Or.inr (Or.inr ⟨rfl, x, e, h, b, rfl, rfl, rfl, rfl, rfl, rfl, rfl⟩)) I2 (fun x h => m.1 x (by omega) (by omega) (by omega)) (m.2 _ (by omega)) (m.2 _ (by omega)) r p ⟨h24, Nat.zero_le _, fun j hj => absurd hj (Nat.not_lt_zero j)⟩ h32 c ⟨⟨Or.inl (tTell_ok (tp := tp) (n := x)).2.2, fun j hj => absurd hj (by rw [(tTell_ok (tp := tp) (n := x)).2.2]; omega)⟩, fun j hj => absurd hj (Nat.not_lt_zero j), hP.2.2⟩)
  exact w_election hnc (by omega) (am_ow hS.1.o) fun Q1 hK => q_election hz (by omega) hS.1 hC.1 hP.2.2.1 hC.2.1 (h1 := fun b => hK _ _ (H.i1 hS.1 hC.1 hC.2.1 hC.2.2.2.1 (Or.inl ⟨rfl, rfl, b, rfl, rfl, rfl, rfl, rfl, rfl⟩) ⟨rfl, rfl⟩)) (hF := fun x e h b I3 P3 C3 p3 f3 X3 t3 u3 => hK _ _ (H.i hS.2.2.1 C3 p3 f3 X3 t3 u3 (Or.inr (Or.inl ⟨rfl, x, e, h, b, rfl, rfl, rfl, rfl, rfl, rfl, rfl⟩)))) (h0 := fun x e h b I3 P3 C3 p3 f3 X3 t3 u3 => hK _ _ (H.i hS.2.2.1 C3 p3 f3 X3 t3 u3 (Or.inr (Or.inr ⟨rfl, x, e, h, b, rfl, rfl, rfl, rfl, rfl, rfl, rfl⟩))))
theorem cs_ask {G : am_G} {dp a b n len : Nat} {m : am_M} {Q : am_Q} {o5 o6 o7 : Option am_V} {xs : Nat → Int32} (hsc : va_X G.2.2.1 len xs G.2.1 G.2.1.heap) (hz : SZ G) (hnc : NC G) (hdp : 40 ≤ dp) (ha : 8 ≤ a) (hb : 48 ≤ b) (hl : n + 6 ≤ len) (hl2 : len ≤ 3072) (hJ : zJ m len) (kk : zK G dp a b len n Q) : X G dp a b ML_law 2012 (LL n o5 o6 o7) [] m Q := by
  obtain ⟨I, P, Z⟩ := m
  obtain ⟨w, s, R, na, Pa, tp, nt, l, f, g, Ri, hS, hC, hR, hP⟩ := hJ
  have hRV : RV R := hC.1.1.1
  refine X_aload_n dL_law_2012 rfl rfl ?_
  refine L_ld (k := 1) dL_law_2013 dL_law_2014 dL_law_2016 dL_law_2017 dL_law_2018 (by decide) hl hl2 hsc ?_
  refine X_aload_n dL_law_2019 rfl rfl ?_
  refine X_callSH (As := [rV (some 1), iV (xs (n + 1)).toInt, rV (some 122)]) (rest := []) (a' := 4) (b' := 24) dL_law_2020 th_ask ml_L_209 rfl rfl (Nat.le_of_ble_eq_true rfl) rfl (by omega) (by omega) (by omega) ?_
  have H : zTH I P Z (am_go (fun r m' => X G dp (a - 4) (b - 24) ML_law (2020 + 3) (LL n o5 o6 o7) (r.toList ++ []) m' Q) (fun k m' => Q (.inr k) m')) Pa tp (E_ask tp (xs (n + 1)).toInt w s R na nt f) := by
    intro k v w1 s1 R1 n1 t1 f1 ho I1 P1 hp hC1 g1 h11 X1 T1 h12 g2
    have hR1 := hR.cf (I' := I1) fun x h1 h2 => g1 x (by omega) h2 (by omega)
    have hM1 : Md (I1, P1, Z) := hS.2.1.cp hp
    have e0 : ∀ j, I1 0 j = I 0 j := fun j => by rw [g1 0 (by omega) (by omega) (by omega)]
    refine X_istore dL_law_2023 (Nat.le_of_ble_eq_true rfl) ?_
    refine X_aload_n dL_law_2025 rfl rfl ?_
    refine L_ld (k := 1) dL_law_2026 dL_law_2027 dL_law_2029 dL_law_2030 dL_law_2031 (by decide) hl hl2 hsc ?_
    have T0 : ∀ k' v' w' s' R' n' nt' f', (E_ask tp (xs (n + 1)).toInt w s R na nt f) k' v' w' s' R' n' nt' f' → ∀ I2 : Nat → Nat → Int, (∀ x, x < 103 ∨ x = 107 ∨ x = 120 ∨ x = 122 → I2 x = I1 x) → I2 103 5 = I1 103 5 → I2 103 22 = I1 103 22 → RowV I2 R' → PaV I2 n' Pa → TpM I2 tp nt' → I2 103 32 = f' → I2 103 7 = k' → zP R' n' Pa tp l g Ri → am_go (fun r m' => X G dp (a - 4 - 4) (b - 24 - 24) ML_law (2032 + 3) (LL n (some (iV k)) o6 o7) (r.toList ++ []) m' Q) (fun k m' => Q (.inr k) m') (.inl (some (iV v'))) (I2, P1, Z) := by
      intro k' v' w' s' R' n' nt' f' ho' I2 f2 h5 h22 r2 p2 t2 h32 c2 hP2
      obtain ⟨rfl, rfl, rfl, rfl, rfl, rfl, rfl, rfl⟩ := n_ask _ _ _ _ _ _ _ _ _ _ _ _ _ _ _ _ ho ho'
      exact L_taili (by omega) hM1 hS.2.2.1 c2 (fun e => by rw [f2 122 (by omega)]; exact g2 e) dL_law_2035 dL_law_2037 dL_law_2038 dL_law_2041 dL_law_2043 dL_law_2048 dL_law_2050 dL_law_2053 dL_law_2054 dL_law_2055 dL_law_2056 dL_law_2058 dL_law_2059 dL_law_2060 dL_law_2065 ⟨rfl, rfl, rfl, rfl, rfl, rfl, rfl, rfl, rfl, rfl, rfl, rfl, rfl, rfl, by decide⟩ (kk _ _ _ _ _ _ (by omega) (by omega) (zJ.t hS hC hR hP hp hC1 g1 h11 X1 T1 h12 (fun x h => f2 x (by omega)) h5 h22 r2 p2 t2 h32 hP2))
    refine X_callV (As := [iV (xs (n + 1)).toInt]) (rest := []) (r := 103) (a' := 4) (b' := 24) dL_law_2032 t9_ask ml_L_211 (am_ow hM1.1) rfl rfl (Nat.le_of_ble_eq_true rfl) rfl (by omega) (by omega) (by omega) ?_
    exact r_ask hz (by omega) hM1 hR1.1 hRV hP.1 hP.2.2.1 hR1.2.2.1 (h1 := fun b I2 m c => T0 1 0 _ _ _ _ _ _ (Or.inl ⟨rfl, rfl, b, rfl, rfl, rfl, rfl, rfl, rfl⟩) I2 (fun x h => m.1 x (by omega) (by omega)) (m.2 _ (by omega) (by omega) (by omega)) (m.2 _ (by omega) (by omega) (by omega)) (m.row hR1.1) (m.pa hR1.2.1) (hR1.2.2.1.to (m.2 _ (by omega) (by omega) (by omega)) (m.1 _ (by omega) (by omega))) ((m.2 _ (by omega) (by omega) (by omega)).trans hR1.2.2.2.2.1) c hP)
      (hF := fun x e h h200 b I2 m c h24 h32 => T0 0 _ _ _ _ _ _ _ (Or.inr (Or.inl ⟨rfl, x, e, h, h200, b, rfl, rfl, rfl, rfl, rfl, rfl, rfl⟩)) I2 (fun x h => m.1 x (by omega) (by omega)) (m.2 _ (by omega)) (m.2 _ (by omega)) (fun j hj => by rw [m.1 104 (by omega) (by omega)]; exact hR1.1 j hj) (hR1.2.1.to (m.2 _ (by omega)) (m.1 _ (by omega) (by omega))) ⟨h24, Nat.zero_le _, fun j hj => absurd hj (Nat.not_lt_zero j)⟩ h32 c hP)
      (h0 := fun x e h h200 b I2 m c h24 h32 => T0 0 _ _ _ _ _ _ _ (Or.inr (Or.inr ⟨rfl, x, e, h, h200, b, rfl, rfl, rfl, rfl, rfl, rfl, rfl⟩)) I2 (fun x h => m.1 x (by omega) (by omega)) (m.2 _ (by omega)) (m.2 _ (by omega)) (fun j hj => by rw [m.1 104 (by omega) (by omega)]; exact hR1.1 j hj) (hR1.2.1.to (m.2 _ (by omega)) (m.1 _ (by omega) (by omega))) ⟨h24, Nat.zero_le _, fun j hj => absurd hj (Nat.not_lt_zero j)⟩ h32 c hP)
  exact w_ask hnc (by omega) (am_ow hS.1.o) fun Q1 hK => q_ask hz (by omega) hS.1 hC.1 hP.2.2.1 hC.2.1 (h1 := fun b => hK _ _ (H.i1 hS.1 hC.1 hC.2.1 hC.2.2.2.1 (Or.inl ⟨rfl, rfl, b, rfl, rfl, rfl, rfl, rfl, rfl⟩) ⟨rfl, rfl⟩)) (hF := fun x e h h200 b I3 P3 C3 p3 f3 X3 t3 u3 => hK _ _ (H.i hS.2.2.1 C3 p3 f3 X3 t3 u3 (Or.inr (Or.inl ⟨rfl, x, e, h, h200, b, rfl, rfl, rfl, rfl, rfl, rfl, rfl⟩)))) (h0 := fun x e h h200 b I3 P3 C3 p3 f3 X3 t3 u3 => hK _ _ (H.i hS.2.2.1 C3 p3 f3 X3 t3 u3 (Or.inr (Or.inr ⟨rfl, x, e, h, h200, b, rfl, rfl, rfl, rfl, rfl, rfl, rfl⟩))))
