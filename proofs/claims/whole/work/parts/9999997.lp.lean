/-! THE LAW'S LOOP, by program -/
theorem law_sw {G : am_G} {dp a b n len : Nat} {m : am_M} {Q : am_Q} {o5 o6 o7 : Option am_V} (x : Int) {xs : Nat → Int32} (hsc : va_X G.2.2.1 len xs G.2.1 G.2.1.heap) (hz : SZ G) (hnc : NC G) (hdp : 40 ≤ dp) (ha : 8 ≤ a) (hb : 48 ≤ b) (hl : n + 6 ≤ len) (hl2 : len ≤ 3072) (hJ : zJ m len) (kk : zK G dp a b len n Q) : X G dp a b ML_law 40 (LL n o5 o6 o7) [iV x] m Q := by
  by_cases c0 : x = 0
  · refine X_tableIn (tgt := 188) dL_law_40 (by rw [c0]; decide) (by rw [c0]; decide) (by rw [c0]; rfl) (by decide) ?_
    exact cs_feed hsc hz hnc hdp ha hb hl hl2 hJ kk
  by_cases c1 : x = 1
  · refine X_tableIn (tgt := 261) dL_law_40 (by rw [c1]; decide) (by rw [c1]; decide) (by rw [c1]; rfl) (by decide) ?_
    exact cs_election hsc hz hnc hdp ha hb hl hl2 hJ kk
  by_cases c2 : x = 2
  · refine X_tableIn (tgt := 317) dL_law_40 (by rw [c2]; decide) (by rw [c2]; decide) (by rw [c2]; rfl) (by decide) ?_
    exact cs_fault hsc hz hnc hdp ha hb hl hl2 hJ kk
  by_cases c3 : x = 3
  · refine X_tableIn (tgt := 330) dL_law_40 (by rw [c3]; decide) (by rw [c3]; decide) (by rw [c3]; rfl) (by decide) ?_
    exact cs_count hsc hz hnc hdp ha hb hl hl2 hJ kk
  by_cases c4 : x = 4
  · refine X_tableIn (tgt := 386) dL_law_40 (by rw [c4]; decide) (by rw [c4]; decide) (by rw [c4]; rfl) (by decide) ?_
    exact cs_race hsc hz hnc hdp ha hb hl hl2 hJ kk
  by_cases c5 : x = 5
  · refine X_tableIn (tgt := 454) dL_law_40 (by rw [c5]; decide) (by rw [c5]; decide) (by rw [c5]; rfl) (by decide) ?_
    exact cs_risk hsc hz hnc hdp ha hb hl hl2 hJ kk
  by_cases c6 : x = 6
  · refine X_tableIn (tgt := 509) dL_law_40 (by rw [c6]; decide) (by rw [c6]; decide) (by rw [c6]; rfl) (by decide) ?_
    exact cs_riskOf hsc hz hnc hdp ha hb hl hl2 hJ kk
  by_cases c7 : x = 7
  · refine X_tableIn (tgt := 576) dL_law_40 (by rw [c7]; decide) (by rw [c7]; decide) (by rw [c7]; rfl) (by decide) ?_
    exact cs_worst hsc hz hnc hdp ha hb hl hl2 hJ kk
  by_cases c8 : x = 8
  · refine X_tableIn (tgt := 632) dL_law_40 (by rw [c8]; decide) (by rw [c8]; decide) (by rw [c8]; rfl) (by decide) ?_
    exact cs_chance hsc hz hnc hdp ha hb hl hl2 hJ kk
  by_cases c9 : x = 9
  · refine X_tableIn (tgt := 699) dL_law_40 (by rw [c9]; decide) (by rw [c9]; decide) (by rw [c9]; rfl) (by decide) ?_
    exact cs_enough hsc hz hnc hdp ha hb hl hl2 hJ kk
  by_cases c10 : x = 10
  · refine X_tableIn (tgt := 755) dL_law_40 (by rw [c10]; decide) (by rw [c10]; decide) (by rw [c10]; rfl) (by decide) ?_
    exact cs_flips hsc hz hnc hdp ha hb hl hl2 hJ kk
  by_cases c11 : x = 11
  · refine X_tableIn (tgt := 823) dL_law_40 (by rw [c11]; decide) (by rw [c11]; decide) (by rw [c11]; rfl) (by decide) ?_
    exact cs_say hsc hz hnc hdp ha hb hl hl2 hJ kk
  by_cases c12 : x = 12
  · refine X_tableIn (tgt := 836) dL_law_40 (by rw [c12]; decide) (by rw [c12]; decide) (by rw [c12]; rfl) (by decide) ?_
    exact cs_said hsc hz hnc hdp ha hb hl hl2 hJ kk
  by_cases c13 : x = 13
  · refine X_tableIn (tgt := 861) dL_law_40 (by rw [c13]; decide) (by rw [c13]; decide) (by rw [c13]; rfl) (by decide) ?_
    exact cs_votes hsc hz hnc hdp ha hb hl hl2 hJ kk
  by_cases c14 : x = 14
  · refine X_tableIn (tgt := 957) dL_law_40 (by rw [c14]; decide) (by rw [c14]; decide) (by rw [c14]; rfl) (by decide) ?_
    exact cs_ballot hsc hz hnc hdp ha hb hl hl2 hJ kk
  by_cases c15 : x = 15
  · refine X_tableIn (tgt := 1037) dL_law_40 (by rw [c15]; decide) (by rw [c15]; decide) (by rw [c15]; rfl) (by decide) ?_
    exact cs_drawn hsc hz hnc hdp ha hb hl hl2 hJ kk
  by_cases c16 : x = 16
  · refine X_tableIn (tgt := 1093) dL_law_40 (by rw [c16]; decide) (by rw [c16]; decide) (by rw [c16]; rfl) (by decide) ?_
    exact cs_times hsc hz hnc hdp ha hb hl hl2 hJ kk
  by_cases c17 : x = 17
  · refine X_tableIn (tgt := 1149) dL_law_40 (by rw [c17]; decide) (by rw [c17]; decide) (by rw [c17]; rfl) (by decide) ?_
    exact cs_mistakes hsc hz hnc hdp ha hb hl hl2 hJ kk
  by_cases c18 : x = 18
  · refine X_tableIn (tgt := 1217) dL_law_40 (by rw [c18]; decide) (by rw [c18]; decide) (by rw [c18]; rfl) (by decide) ?_
    exact cs_riskAt hsc hz hnc hdp ha hb hl hl2 hJ kk
  by_cases c19 : x = 19
  · refine X_tableIn (tgt := 1284) dL_law_40 (by rw [c19]; decide) (by rw [c19]; decide) (by rw [c19]; rfl) (by decide) ?_
    exact cs_draw hsc hz hnc hdp ha hb hl hl2 hJ kk
  by_cases c20 : x = 20
  · refine X_tableIn (tgt := 1340) dL_law_40 (by rw [c20]; decide) (by rw [c20]; decide) (by rw [c20]; rfl) (by decide) ?_
    exact cs_next hsc hz hnc hdp ha hb hl hl2 hJ kk
  by_cases c21 : x = 21
  · refine X_tableIn (tgt := 1407) dL_law_40 (by rw [c21]; decide) (by rw [c21]; decide) (by rw [c21]; rfl) (by decide) ?_
    exact cs_paper hsc hz hnc hdp ha hb hl hl2 hJ kk
  by_cases c22 : x = 22
  · refine X_tableIn (tgt := 1487) dL_law_40 (by rw [c22]; decide) (by rw [c22]; decide) (by rw [c22]; rfl) (by decide) ?_
    exact cs_way hsc hz hnc hdp ha hb hl hl2 hJ kk
  by_cases c23 : x = 23
  · refine X_tableIn (tgt := 1555) dL_law_40 (by rw [c23]; decide) (by rw [c23]; decide) (by rw [c23]; rfl) (by decide) ?_
    exact cs_rule hsc hz hnc hdp ha hb hl hl2 hJ kk
  by_cases c24 : x = 24
  · refine X_tableIn (tgt := 1623) dL_law_40 (by rw [c24]; decide) (by rw [c24]; decide) (by rw [c24]; rfl) (by decide) ?_
    exact cs_undo hsc hz hnc hdp ha hb hl hl2 hJ kk
  by_cases c25 : x = 25
  · refine X_tableIn (tgt := 1636) dL_law_40 (by rw [c25]; decide) (by rw [c25]; decide) (by rw [c25]; rfl) (by decide) ?_
    exact cs_need hsc hz hnc hdp ha hb hl hl2 hJ kk
  by_cases c26 : x = 26
  · refine X_tableIn (tgt := 1716) dL_law_40 (by rw [c26]; decide) (by rw [c26]; decide) (by rw [c26]; rfl) (by decide) ?_
    exact cs_bestFactor hsc hz hnc hdp ha hb hl hl2 hJ kk
  by_cases c27 : x = 27
  · refine X_tableIn (tgt := 1796) dL_law_40 (by rw [c27]; decide) (by rw [c27]; decide) (by rw [c27]; rfl) (by decide) ?_
    exact cs_more hsc hz hnc hdp ha hb hl hl2 hJ kk
  by_cases c28 : x = 28
  · refine X_tableIn (tgt := 1852) dL_law_40 (by rw [c28]; decide) (by rw [c28]; decide) (by rw [c28]; rfl) (by decide) ?_
    exact cs_tries hsc hz hnc hdp ha hb hl hl2 hJ kk
  by_cases c29 : x = 29
  · refine X_tableIn (tgt := 1944) dL_law_40 (by rw [c29]; decide) (by rw [c29]; decide) (by rw [c29]; rfl) (by decide) ?_
    exact cs_quickest hsc hz hnc hdp ha hb hl hl2 hJ kk
  by_cases c30 : x = 30
  · refine X_tableIn (tgt := 2012) dL_law_40 (by rw [c30]; decide) (by rw [c30]; decide) (by rw [c30]; rfl) (by decide) ?_
    exact cs_ask hsc hz hnc hdp ha hb hl hl2 hJ kk
  by_cases c31 : x = 31
  · refine X_tableIn (tgt := 2068) dL_law_40 (by rw [c31]; decide) (by rw [c31]; decide) (by rw [c31]; rfl) (by decide) ?_
    exact cs_image hsc hz hnc hdp ha hb hl hl2 hJ kk
  by_cases c32 : x = 32
  · refine X_tableIn (tgt := 2079) dL_law_40 (by rw [c32]; decide) (by rw [c32]; decide) (by rw [c32]; rfl) (by decide) ?_
    exact cs_back hsc hz hnc hdp ha hb hl hl2 hJ kk
  refine X_tableOut (tgt := 2092) dL_law_40 (by omega) (by decide) ?_
  exact kk _ _ _ _ _ _ (by omega) (by omega) hJ
theorem law_lp {G : am_G} {dp len : Nat} {Q : am_Q} {xs : Nat → Int32} (hsc : va_X G.2.2.1 len xs G.2.1 G.2.1.heap) (hz : SZ G) (hnc : NC G) (hdp : 40 ≤ dp) (hl2 : len ≤ 3072) (hQ : ∀ m, Q (.inl (some (iV 1))) m) : ∀ (t n a b : Nat) (m : am_M) (o5 o6 o7 : Option am_V), len ≤ n + 6 * t → 8 * t ≤ a → 48 * t ≤ b → zJ m len → X G dp a b ML_law 23 (LL n o5 o6 o7) [] m Q := by
  intro t
  induction t with
  | zero =>
    intro n a b m o5 o6 o7 h1 ha hb hJ
    refine X_iload dL_law_23 rfl ?_
    refine X_aload_n dL_law_25 rfl rfl ?_
    refine X_scl hsc hl2 dL_law_26 ?_
    refine Y_bipush dL_law_27 (by omega) ?_
    refine X_isub dL_law_29 ?_
    rw [show wr ((len : Int) - 6) = (len : Int) - 6 from wr_of (by omega) (by omega)]
    refine X_icmp_gt (tgt := 2098) dL_law_30 (by decide) (fun _ => ?_) (fun c => absurd (by omega) c)
    exact Y_iconst dL_law_2098 (by unfold i32; omega) (X_zret dL_law_2099 rfl (Or.inr rfl) (hQ _))
  | succ t ih =>
    intro n a b m o5 o6 o7 h1 ha hb hJ
    refine X_iload dL_law_23 rfl ?_
    refine X_aload_n dL_law_25 rfl rfl ?_
    refine X_scl hsc hl2 dL_law_26 ?_
    refine Y_bipush dL_law_27 (by omega) ?_
    refine X_isub dL_law_29 ?_
    rw [show wr ((len : Int) - 6) = (len : Int) - 6 from wr_of (by omega) (by omega)]
    refine X_icmp_gt (tgt := 2098) dL_law_30 (by decide) (fun _ => ?_) (fun c => ?_)
    · exact Y_iconst dL_law_2098 (by unfold i32; omega) (X_zret dL_law_2099 rfl (Or.inr rfl) (hQ _))
    · refine X_aload_n dL_law_33 rfl rfl ?_
      refine X_iload dL_law_34 rfl ?_
      refine X_scd hsc hl2 dL_law_36 (by omega) (by omega) ?_
      refine Y_bipush dL_law_37 (by omega) ?_
      refine X_iand dL_law_39 ?_
      refine law_sw _ hsc hz hnc hdp (by omega) (by omega) (by omega) hl2 hJ (fun m' a' b' p5 p6 p7 ha' hb' hJ' => ?_)
      refine X_iinc dL_law_2092 rfl ?_
      rw [show wr ((n : Int) + 6) = ((n + 6 : Nat) : Int) from by rw [wr_of (by omega) (by omega)]; omega]
      refine X_goto (tgt := 23) dL_law_2095 (by decide) ?_
      exact ih (n + 6) a' b' m' p5 p6 p7 (by omega) (by omega) (by omega) hJ'
