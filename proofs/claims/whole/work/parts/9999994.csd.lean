/-! THE LAW'S CASES: the others -/
theorem cs_feed {G : am_G} {dp a b n len : Nat} {m : am_M} {Q : am_Q} {o5 o6 o7 : Option am_V} {xs : Nat → Int32} (hsc : va_X G.2.2.1 len xs G.2.1 G.2.1.heap) (hz : SZ G) (hnc : NC G) (hdp : 40 ≤ dp) (ha : 8 ≤ a) (hb : 48 ≤ b) (hl : n + 6 ≤ len) (hl2 : len ≤ 3072) (hJ : zJ m len) (kk : zK G dp a b len n Q) : X G dp a b ML_law 188 (LL n o5 o6 o7) [] m Q := by
  obtain ⟨I, Z⟩ := m
  obtain ⟨w, s, R, na, Pa, tp, nt, l, f, g, Ri, hS, hC, hR, hP⟩ := hJ
  have hRV : RV R := hC.1.1.1
  have hw := hS.w
  refine X_aload_n dL_law_188 rfl rfl ?_
  refine L_ld (k := 1) dL_law_189 dL_law_190 dL_law_192 dL_law_193 dL_law_194 (by decide) hl hl2 hsc ?_
  refine L_ld (k := 2) dL_law_195 dL_law_196 dL_law_198 dL_law_199 dL_law_200 (by decide) hl hl2 hsc ?_
  refine L_ld (k := 3) dL_law_201 dL_law_202 dL_law_204 dL_law_205 dL_law_206 (by decide) hl hl2 hsc ?_
  refine L_ld (k := 4) dL_law_207 dL_law_208 dL_law_210 dL_law_211 dL_law_212 (by decide) hl hl2 hsc ?_
  refine L_ld (k := 5) dL_law_213 dL_law_214 dL_law_216 dL_law_217 dL_law_218 (by decide) hl hl2 hsc ?_
  refine X_callV (As := [iV (xs (n + 1)).toInt, iV (xs (n + 2)).toInt, iV (xs (n + 3)).toInt, iV (xs (n + 4)).toInt, iV (xs (n + 5)).toInt]) (rest := []) (r := 1) (a' := 4) (b' := 24) dL_law_219 t8_feed ml_L_102 (am_ow hS.1.o) rfl rfl (Nat.le_of_ble_eq_true rfl) rfl (by omega) (by omega) (by omega) ?_
  by_cases hq : nt + 20 ≤ 600
  · refine q_feed (by omega) hS.1 hC.2.1 (fun c => absurd hq c) (fun _ I1 f1 t1 => ?_)
    have hR1 := hR.cf (I' := I1) fun x h1 h2 => f1.1 x (by omega) (by omega)
    have hC1 : zC I1 w R na Pa (fed tp nt (xs (n + 1)).toInt (xs (n + 2)).toInt (xs (n + 3)).toInt (xs (n + 4)).toInt (xs (n + 5)).toInt) (nt + 20) l f g Ri := hC.of (f1.1 _ (by omega) (by omega)) (f1.1 _ (by omega) (by omega)) (fun x h1 h2 => f1.1 x (by omega) (by omega)) (f1.2 _ (by omega)) (hC.1.same (fun x h1 h2 => f1.1 x (by omega) (by omega)) (fun x h1 h2 => f1.1 x (by omega) (by omega)) (fun x h1 h2 => f1.1 x (by omega) (by omega))) t1 ((f1.2 _ (by omega)).trans hC.2.2.2.1)
    have e0 : ∀ j, I1 0 j = I 0 j := fun j => by rw [f1.1 0 (by omega) (by omega)]
    refine X_aload_n dL_law_222 rfl rfl ?_
    refine L_ld (k := 1) dL_law_223 dL_law_224 dL_law_226 dL_law_227 dL_law_228 (by decide) hl hl2 hsc ?_
    refine L_ld (k := 2) dL_law_229 dL_law_230 dL_law_232 dL_law_233 dL_law_234 (by decide) hl hl2 hsc ?_
    refine L_ld (k := 3) dL_law_235 dL_law_236 dL_law_238 dL_law_239 dL_law_240 (by decide) hl hl2 hsc ?_
    refine L_ld (k := 4) dL_law_241 dL_law_242 dL_law_244 dL_law_245 dL_law_246 (by decide) hl hl2 hsc ?_
    refine L_ld (k := 5) dL_law_247 dL_law_248 dL_law_250 dL_law_251 dL_law_252 (by decide) hl hl2 hsc ?_
    refine X_callV (As := [iV (xs (n + 1)).toInt, iV (xs (n + 2)).toInt, iV (xs (n + 3)).toInt, iV (xs (n + 4)).toInt, iV (xs (n + 5)).toInt]) (rest := [iV ((nt + 20 : Nat) : Int)]) (r := 103) (a' := 4) (b' := 24) dL_law_253 t9_feed ml_L_106 (am_ow hS.2.1.1) rfl rfl (Nat.le_of_ble_eq_true rfl) rfl (by omega) (by omega) (by omega) ?_
    refine r_feed hS.2.1 hR1.2.2.1 (fun c => absurd hq c) (fun _ I2 f2 h2 t2 => ?_)
    refine X_icmp_eq (tgt := 2092) dL_law_256 (by decide) (fun _ => ?_) (fun c => absurd rfl c)
    have hR2 : zR I2 R na Pa (fed tp nt (xs (n + 1)).toInt (xs (n + 2)).toInt (xs (n + 3)).toInt (xs (n + 4)).toInt (xs (n + 5)).toInt) (nt + 20) l f g Ri := hR1.of (f2 _ (by omega) (by omega)) (f2 _ (by omega) (by omega)) (h2 _ (by omega) (by omega)) (h2 _ (by omega) (by omega)) (fun j hj => by rw [f2 104 (by omega) (by omega)]; exact hR1.1 j hj) (hR1.2.1.to (h2 _ (by omega) (by omega)) (f2 _ (by omega) (by omega))) t2 ((h2 _ (by omega) (by omega)).trans hR1.2.2.2.2.1)
    exact kk _ _ _ _ _ _ (by omega) (by omega) ⟨w, s, R, na, Pa, _, _, l, f, g, Ri, hS, hC1.rf hw (fun x hx => f2 x (by omega) (by omega)), hR2, hP.1, hP.2.1, fed_B hP.2.2.1, hP.2.2.2⟩
  · refine q_feed (by omega) hS.1 hC.2.1 (fun _ => ?_) (fun c => absurd c hq)
    refine X_aload_n dL_law_222 rfl rfl ?_
    refine L_ld (k := 1) dL_law_223 dL_law_224 dL_law_226 dL_law_227 dL_law_228 (by decide) hl hl2 hsc ?_
    refine L_ld (k := 2) dL_law_229 dL_law_230 dL_law_232 dL_law_233 dL_law_234 (by decide) hl hl2 hsc ?_
    refine L_ld (k := 3) dL_law_235 dL_law_236 dL_law_238 dL_law_239 dL_law_240 (by decide) hl hl2 hsc ?_
    refine L_ld (k := 4) dL_law_241 dL_law_242 dL_law_244 dL_law_245 dL_law_246 (by decide) hl hl2 hsc ?_
    refine L_ld (k := 5) dL_law_247 dL_law_248 dL_law_250 dL_law_251 dL_law_252 (by decide) hl hl2 hsc ?_
    refine X_callV (As := [iV (xs (n + 1)).toInt, iV (xs (n + 2)).toInt, iV (xs (n + 3)).toInt, iV (xs (n + 4)).toInt, iV (xs (n + 5)).toInt]) (rest := [iV (-1)]) (r := 103) (a' := 4) (b' := 24) dL_law_253 t9_feed ml_L_106 (am_ow hS.2.1.1) rfl rfl (Nat.le_of_ble_eq_true rfl) rfl (by omega) (by omega) (by omega) ?_
    refine r_feed hS.2.1 hR.2.2.1 (fun _ I2 m2 => ?_) (fun c => absurd c hq)
    refine X_icmp_eq (tgt := 2092) dL_law_256 (by decide) (fun _ => ?_) (fun c => absurd rfl c)
    exact kk _ _ _ _ _ _ (by omega) (by omega) (zJ.q hS hC hR hP zQ.rf m2)
theorem cs_fault {G : am_G} {dp a b n len : Nat} {m : am_M} {Q : am_Q} {o5 o6 o7 : Option am_V} {xs : Nat → Int32} (hsc : va_X G.2.2.1 len xs G.2.1 G.2.1.heap) (hz : SZ G) (hnc : NC G) (hdp : 40 ≤ dp) (ha : 8 ≤ a) (hb : 48 ≤ b) (hl : n + 6 ≤ len) (hl2 : len ≤ 3072) (hJ : zJ m len) (kk : zK G dp a b len n Q) : X G dp a b ML_law 317 (LL n o5 o6 o7) [] m Q := by
  obtain ⟨I, Z⟩ := m
  obtain ⟨w, s, R, na, Pa, tp, nt, l, f, g, Ri, hS, hC, hR, hP⟩ := hJ
  have hRV : RV R := hC.1.1.1
  have hw := hS.w
  refine X_aload_n dL_law_317 rfl rfl ?_
  refine X_callV (As := []) (rest := []) (r := 1) (a' := 4) (b' := 24) dL_law_318 t8_fault ml_L_117 (am_ow hS.1.o) rfl rfl (Nat.le_of_ble_eq_true rfl) rfl (by omega) (by omega) (by omega) ?_
  refine q_fault hS.1 ?_
  refine X_aload_n dL_law_321 rfl rfl ?_
  refine X_callV (As := []) (rest := [iV (I 1 2)]) (r := 103) (a' := 4) (b' := 24) dL_law_322 t9_fault ml_L_120 (am_ow hS.2.1.1) rfl rfl (Nat.le_of_ble_eq_true rfl) rfl (by omega) (by omega) (by omega) ?_
  refine r_fault hS.2.1 ?_
  refine X_icmp_eq (tgt := 2092) dL_law_325 (by decide) (fun _ => ?_) (fun c => absurd (hC.2.2.2.1.trans hR.2.2.2.2.1.symm) c)
  exact kk _ _ _ _ _ _ (by omega) (by omega) (zJ.q hS hC hR hP zQ.rf MF.code)
theorem cs_say {G : am_G} {dp a b n len : Nat} {m : am_M} {Q : am_Q} {o5 o6 o7 : Option am_V} {xs : Nat → Int32} (hsc : va_X G.2.2.1 len xs G.2.1 G.2.1.heap) (hz : SZ G) (hnc : NC G) (hdp : 40 ≤ dp) (ha : 8 ≤ a) (hb : 48 ≤ b) (hl : n + 6 ≤ len) (hl2 : len ≤ 3072) (hJ : zJ m len) (kk : zK G dp a b len n Q) : X G dp a b ML_law 823 (LL n o5 o6 o7) [] m Q := by
  obtain ⟨I, Z⟩ := m
  obtain ⟨w, s, R, na, Pa, tp, nt, l, f, g, Ri, hS, hC, hR, hP⟩ := hJ
  have hRV : RV R := hC.1.1.1
  have hw := hS.w
  refine X_aload_n dL_law_823 rfl rfl ?_
  refine X_callV (As := []) (rest := []) (r := 1) (a' := 4) (b' := 24) dL_law_824 t8_say ml_L_146 (am_ow hS.1.o) rfl rfl (Nat.le_of_ble_eq_true rfl) rfl (by omega) (by omega) (by omega) ?_
  refine q_say (by omega) hS.1 hC.1.1 (fun I1 f1 s1 => ?_)
  have hR1 := hR.cf (I' := I1) fun x h1 h2 => f1 x (by omega) (by omega)
  have hC1 : zC I1 w R na Pa tp nt (tsay R) f g Ri := by
    have e1 : I1 1 = I 1 := f1 1 (by omega) (by omega)
    have e2 : I1 2 = I 2 := f1 2 (by omega) (by omega)
    refine ⟨hC.1.same (fun x h1 h2 => f1 x (by omega) (by omega)) (fun x h1 h2 => f1 x (by omega) (by omega)) (fun x h1 h2 => f1 x (by omega) (by omega)), ?_, s1, by rw [e1]; exact hC.2.2.2.1, by rw [e1]; exact hC.2.2.2.2.1, fun q => ⟨(hC.2.2.2.2.2 q).1, (hC.2.2.2.2.2 q).2.same (hC.2.2.2.2.2 q).1 (fun x h1 h2 => f1 x (by omega) (by omega))⟩⟩
    have h9 := hC.2.1
    unfold TpC at *
    rw [e1, e2]; exact h9
  refine X_aload_n dL_law_827 rfl rfl ?_
  refine X_callV (As := []) (rest := [iV ((tsay R).length : Int)]) (r := 103) (a' := 4) (b' := 24) dL_law_828 t9_say ml_L_149 (am_ow hS.2.1.1) rfl rfl (Nat.le_of_ble_eq_true rfl) rfl (by omega) (by omega) (by omega) ?_
  refine r_say (by omega) hS.2.1 hR1.1 hRV hP.1 (fun I2 f2 h2 _ s2 => ?_)
  refine X_icmp_eq (tgt := 2092) dL_law_831 (by decide) (fun _ => ?_) (fun c => absurd rfl c)
  have hR2 : zR I2 R na Pa tp nt (tsay R) f g Ri := ⟨fun j hj => by rw [f2 104 (by omega) (by omega)]; exact hR1.1 j hj, hR1.2.1.to (h2 _ (by omega) (by omega) (by omega) (by omega)) (f2 _ (by omega) (by omega)), hR1.2.2.1.to (h2 _ (by omega) (by omega) (by omega) (by omega)) (f2 _ (by omega) (by omega)), s2, (h2 _ (by omega) (by omega) (by omega) (by omega)).trans hR1.2.2.2.2.1, (h2 _ (by omega) (by omega) (by omega) (by omega)).trans hR1.2.2.2.2.2.1, fun q j hj => by rw [f2 107 (by omega) (by omega)]; exact hR1.2.2.2.2.2.2 q j hj⟩
  exact kk _ _ _ _ _ _ (by omega) (by omega) ⟨w, s, R, na, Pa, tp, nt, _, f, g, Ri, hS, hC1.rf hw (fun x hx => f2 x (by omega) (by omega)), hR2, hP.1, hP.2.1, hP.2.2.1, tsay_len hRV, hP.2.2.2.2⟩
theorem cs_said {G : am_G} {dp a b n len : Nat} {m : am_M} {Q : am_Q} {o5 o6 o7 : Option am_V} {xs : Nat → Int32} (hsc : va_X G.2.2.1 len xs G.2.1 G.2.1.heap) (hz : SZ G) (hnc : NC G) (hdp : 40 ≤ dp) (ha : 8 ≤ a) (hb : 48 ≤ b) (hl : n + 6 ≤ len) (hl2 : len ≤ 3072) (hJ : zJ m len) (kk : zK G dp a b len n Q) : X G dp a b ML_law 836 (LL n o5 o6 o7) [] m Q := by
  obtain ⟨I, Z⟩ := m
  obtain ⟨w, s, R, na, Pa, tp, nt, l, f, g, Ri, hS, hC, hR, hP⟩ := hJ
  have hRV : RV R := hC.1.1.1
  have hw := hS.w
  refine X_aload_n dL_law_836 rfl rfl ?_
  refine L_ld (k := 1) dL_law_837 dL_law_838 dL_law_840 dL_law_841 dL_law_842 (by decide) hl hl2 hsc ?_
  refine X_callV (As := [iV (xs (n + 1)).toInt]) (rest := []) (r := 1) (a' := 4) (b' := 24) dL_law_843 t8_said ml_L_150 (am_ow hS.1.o) rfl rfl (Nat.le_of_ble_eq_true rfl) rfl (by omega) (by omega) (by omega) ?_
  refine q_said hS.1 hC.2.2.1 hP.2.2.2.1 ?_
  refine X_aload_n dL_law_846 rfl rfl ?_
  refine L_ld (k := 1) dL_law_847 dL_law_848 dL_law_850 dL_law_851 dL_law_852 (by decide) hl hl2 hsc ?_
  refine X_callV (As := [iV (xs (n + 1)).toInt]) (rest := [iV (sdv l (xs (n + 1)).toInt)]) (r := 103) (a' := 4) (b' := 24) dL_law_853 t9_said ml_L_153 (am_ow hS.2.1.1) rfl rfl (Nat.le_of_ble_eq_true rfl) rfl (by omega) (by omega) (by omega) ?_
  refine r_said (by omega) hS.2.1 hR.2.2.2.1 hP.2.2.2.1 (fun I2 m2 _ => ?_)
  refine X_icmp_eq (tgt := 2092) dL_law_856 (by decide) (fun _ => ?_) (fun c => absurd rfl c)
  exact kk _ _ _ _ _ _ (by omega) (by omega) (zJ.q hS hC hR hP zQ.rf m2)
theorem cs_undo {G : am_G} {dp a b n len : Nat} {m : am_M} {Q : am_Q} {o5 o6 o7 : Option am_V} {xs : Nat → Int32} (hsc : va_X G.2.2.1 len xs G.2.1 G.2.1.heap) (hz : SZ G) (hnc : NC G) (hdp : 40 ≤ dp) (ha : 8 ≤ a) (hb : 48 ≤ b) (hl : n + 6 ≤ len) (hl2 : len ≤ 3072) (hJ : zJ m len) (kk : zK G dp a b len n Q) : X G dp a b ML_law 1623 (LL n o5 o6 o7) [] m Q := by
  obtain ⟨I, Z⟩ := m
  obtain ⟨w, s, R, na, Pa, tp, nt, l, f, g, Ri, hS, hC, hR, hP⟩ := hJ
  have hRV : RV R := hC.1.1.1
  have hw := hS.w
  refine X_aload_n dL_law_1623 rfl rfl ?_
  refine X_callV (As := []) (rest := []) (r := 1) (a' := 4) (b' := 24) dL_law_1624 t8_undo ml_L_189 (am_ow hS.1.o) rfl rfl (Nat.le_of_ble_eq_true rfl) rfl (by omega) (by omega) (by omega) ?_
  rcases na with _ | k
  · refine q_undo (by omega) hS.1 hC.1 (fun _ => ?_) (fun k e => absurd e (by omega))
    refine X_aload_n dL_law_1627 rfl rfl ?_
    refine X_callV (As := []) (rest := [iV (-1)]) (r := 103) (a' := 4) (b' := 24) dL_law_1628 t9_undo ml_L_192 (am_ow hS.2.1.1) rfl rfl (Nat.le_of_ble_eq_true rfl) rfl (by omega) (by omega) (by omega) ?_
    refine r_undo hS.2.1 hR.1 hR.2.1 (fun _ I2 m2 _ => ?_) (fun k e => absurd e (by omega))
    refine X_icmp_eq (tgt := 2092) dL_law_1631 (by decide) (fun _ => ?_) (fun c => absurd rfl c)
    exact kk _ _ _ _ _ _ (by omega) (by omega) (zJ.q hS hC hR hP zQ.rf m2)
  · refine q_undo (by omega) hS.1 hC.1 (fun e => absurd e (by omega)) (fun k1 e I1 g1 X1 => ?_)
    obtain rfl : k = k1 := by omega
    have hR1 := hR.cf (I' := I1) fun x h1 h2 => g1 x (by omega)
    refine X_aload_n dL_law_1627 rfl rfl ?_
    refine X_callV (As := []) (rest := [iV (k : Int)]) (r := 103) (a' := 4) (b' := 24) dL_law_1628 t9_undo ml_L_192 (am_ow hS.2.1.1) rfl rfl (Nat.le_of_ble_eq_true rfl) rfl (by omega) (by omega) (by omega) ?_
    refine r_undo hS.2.1 hR1.1 hR1.2.1 (fun e => absurd e (by omega)) (fun k1 e I2 m2 _ r2 p2 => ?_)
    obtain rfl : k = k1 := by omega
    refine X_icmp_eq (tgt := 2092) dL_law_1631 (by decide) (fun _ => ?_) (fun c => absurd rfl c)
    exact kk _ _ _ _ _ _ (by omega) (by omega) (zJ.u hS hC hR hP (fun x _ h => g1 x h) X1 m2 r2 p2 (hP.2.1 k (by omega)) (fun j hj => hP.2.1 j (by omega)))
theorem cs_image {G : am_G} {dp a b n len : Nat} {m : am_M} {Q : am_Q} {o5 o6 o7 : Option am_V} {xs : Nat → Int32} (hsc : va_X G.2.2.1 len xs G.2.1 G.2.1.heap) (hz : SZ G) (hnc : NC G) (hdp : 40 ≤ dp) (ha : 8 ≤ a) (hb : 48 ≤ b) (hl : n + 6 ≤ len) (hl2 : len ≤ 3072) (hJ : zJ m len) (kk : zK G dp a b len n Q) : X G dp a b ML_law 2068 (LL n o5 o6 o7) [] m Q := by
  obtain ⟨I, Z⟩ := m
  obtain ⟨w, s, R, na, Pa, tp, nt, l, f, g, Ri, hS, hC, hR, hP⟩ := hJ
  have hRV : RV R := hC.1.1.1
  have hw := hS.w
  refine X_aload_n dL_law_2068 rfl rfl ?_
  refine X_callV (As := []) (rest := []) (r := 1) (a' := 4) (b' := 24) dL_law_2069 t8_image ml_L_212 (am_ow hS.1.o) rfl rfl (Nat.le_of_ble_eq_true rfl) rfl (by omega) (by omega) (by omega) ?_
  refine q_image (by omega) hS.1 hC.1.1 (fun I1 f1 h1 h11 v1 => ?_)
  have hR1 := hR.cf (I' := I1) fun x h1 h2 => f1 x (by omega) (by omega)
  have hC1 : zC I1 w R na Pa tp nt l f 1 R := by
    have e1 : I1 1 1 = I 1 1 := h1 1 (by omega)
    have e2 : I1 2 = I 2 := f1 2 (by omega) (by omega)
    have e3 : I1 3 = I 3 := f1 3 (by omega) (by omega)
    have e4 : I1 (3 + 1) = I (3 + 1) := f1 4 (by omega) (by omega)
    have h8 := hC.2.1
    have h9 := hC.2.2.1
    refine ⟨hC.1.same (fun x h1 h2 => f1 x (by omega) (by omega)) (fun x h1 h2 => f1 x (by omega) (by omega)) (fun x h1 h2 => f1 x (by omega) (by omega)), ?_, ?_, (h1 2 (by omega)).trans hC.2.2.2.1, h11, fun _ => ⟨hRV, v1⟩⟩
    · unfold TpC at *
      rw [e1, e2]; exact h8
    · unfold SpV at *
      rw [e3, e4]; exact h9
  refine X_aload_n dL_law_2072 rfl rfl ?_
  refine X_callV (As := []) (rest := []) (r := 103) (a' := 4) (b' := 24) dL_law_2073 t9_image ml_L_215 (am_ow hS.2.1.1) rfl rfl (Nat.le_of_ble_eq_true rfl) rfl (by omega) (by omega) (by omega) ?_
  refine r_image (by omega) hS.2.1 hR1.1 (fun I2 f2 h2 h5 h107 => ?_)
  refine X_goto (tgt := 2092) dL_law_2076 (by decide) ?_
  have hR2 : zR I2 R na Pa tp nt l f 1 R := by
    have e1 : I2 103 22 = I1 103 22 := h2 _ (by omega) (by omega)
    have e2 : I2 120 = I1 120 := f2 _ (by omega) (by omega)
    have h9 := hR1.2.2.2.1
    refine ⟨fun j hj => by rw [f2 104 (by omega) (by omega)]; exact hR1.1 j hj, hR1.2.1.to (h2 _ (by omega) (by omega)) (f2 _ (by omega) (by omega)), hR1.2.2.1.to (h2 _ (by omega) (by omega)) (f2 _ (by omega) (by omega)), ?_, (h2 _ (by omega) (by omega)).trans hR1.2.2.2.2.1, h5, fun _ => h107⟩
    unfold SaV at *
    rw [e1, e2]; exact h9
  exact kk _ _ _ _ _ _ (by omega) (by omega) ⟨w, s, R, na, Pa, tp, nt, l, f, 1, R, hS, hC1.rf hw (fun x hx => f2 x (by omega) (by omega)), hR2, hP.1, hP.2.1, hP.2.2.1, hP.2.2.2.1, fun _ => hP.1⟩
theorem cs_back {G : am_G} {dp a b n len : Nat} {m : am_M} {Q : am_Q} {o5 o6 o7 : Option am_V} {xs : Nat → Int32} (hsc : va_X G.2.2.1 len xs G.2.1 G.2.1.heap) (hz : SZ G) (hnc : NC G) (hdp : 40 ≤ dp) (ha : 8 ≤ a) (hb : 48 ≤ b) (hl : n + 6 ≤ len) (hl2 : len ≤ 3072) (hJ : zJ m len) (kk : zK G dp a b len n Q) : X G dp a b ML_law 2079 (LL n o5 o6 o7) [] m Q := by
  obtain ⟨I, Z⟩ := m
  obtain ⟨w, s, R, na, Pa, tp, nt, l, f, g, Ri, hS, hC, hR, hP⟩ := hJ
  have hRV : RV R := hC.1.1.1
  have hw := hS.w
  refine X_aload_n dL_law_2079 rfl rfl ?_
  have hg1 : I 1 11 = g := hC.2.2.2.2.1
  refine X_callV (As := []) (rest := []) (r := 1) (a' := 4) (b' := 24) dL_law_2080 t8_back ml_L_216 (am_ow hS.1.o) rfl rfl (Nat.le_of_ble_eq_true rfl) rfl (by omega) (by omega) (by omega) ?_
  by_cases hg : g = 0
  · have hg2 : I 103 5 = 0 := hR.2.2.2.2.2.1.trans hg
    refine q_back (Ri := Ri) (by omega) hS.1 hC.1 (fun _ => ?_) (fun c => absurd (hg1.trans hg) c) (fun c => absurd (hg1.trans hg) c)
    refine X_aload_n dL_law_2083 rfl rfl ?_
    refine X_callV (As := []) (rest := [iV 0]) (r := 103) (a' := 4) (b' := 24) dL_law_2084 t9_back ml_L_220 (am_ow hS.2.1.1) rfl rfl (Nat.le_of_ble_eq_true rfl) rfl (by omega) (by omega) (by omega) ?_
    refine r_back (Ri := Ri) (by omega) hS.2.1 hR.2.1 (fun _ I2 m2 _ => ?_) (fun c => absurd hg2 c) (fun c => absurd hg2 c)
    refine X_icmp_eq (tgt := 2092) dL_law_2087 (by decide) (fun _ => ?_) (fun c => absurd rfl c)
    exact kk _ _ _ _ _ _ (by omega) (by omega) (zJ.q hS hC hR hP zQ.rf m2)
  · refine q_back (Ri := Ri) (by omega) hS.1 hC.1 (fun c => absurd (hg1.symm.trans c) hg) (fun _ => hC.2.2.2.2.2 hg) (fun _ I1 g1 X1 => ?_)
    have hR1 := hR.cf (I' := I1) fun x h1 h2 => g1 x (by omega)
    have hg2 : I1 103 5 = g := hR1.2.2.2.2.2.1
    refine X_aload_n dL_law_2083 rfl rfl ?_
    refine X_callV (As := []) (rest := [iV 1]) (r := 103) (a' := 4) (b' := 24) dL_law_2084 t9_back ml_L_220 (am_ow hS.2.1.1) rfl rfl (Nat.le_of_ble_eq_true rfl) rfl (by omega) (by omega) (by omega) ?_
    refine r_back (Ri := Ri) (by omega) hS.2.1 hR1.2.1 (fun c => absurd (hg2.symm.trans c) hg) (fun _ => hR1.2.2.2.2.2.2 hg) (fun _ I2 m2 _ r2 p2 => ?_)
    refine X_icmp_eq (tgt := 2092) dL_law_2087 (by decide) (fun _ => ?_) (fun c => absurd rfl c)
    exact kk _ _ _ _ _ _ (by omega) (by omega) (zJ.u hS hC hR hP (fun x _ h => g1 x h) X1 m2 r2 p2 (hP.2.2.2.2 hg) (fun j hj => absurd hj (by omega)))
