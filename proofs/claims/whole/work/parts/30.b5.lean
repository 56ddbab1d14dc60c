/-! TREES of bytecode, by program: X5_* -/
theorem s5_hear_0 {G : am_G} {dp a b : Nat} {m : am_M} {Q : am_Q} {i2 : Int} {r0 r1 : Nat} (hdp : 1 ≤ dp) (h1 : am_obw m r0 4) (h2 : am_ob m r1 5) (k1 : ∀ Q' : am_Q, (∀ (z : Int) (m' : am_M), X G dp a b M5_hear 11 [some (rV (some r0)), some (rV (some r1)), some (iV (i2))] [iV (z)] m' Q → Q' (.inl (some (iV (z)))) m') → T G (dp - 1) 0 0 M6_skipWord [rV (some r1), sV (31)] ((u2 m.1 r0 3 (0)), m.2.1, m.2.2) Q')  : X G dp a b M5_hear 0 [some (rV (some r0)), some (rV (some r1)), some (iV (i2))] [] m Q := by
  refine X_aload_n dX5_hear_0 rfl rfl ?_
  refine Y_iconst dX5_hear_1 (by unfold i32; omega) ?_
  refine X_putI dX5_hear_2 fw_5_21 rfl h1 ?_
  refine X_aload_n dX5_hear_5 rfl rfl ?_
  refine X_ldcS (j := 31) (tx := "many") dX5_hear_6 rfl ?_
  exact X_callV (As := [sV (31)]) (rest := []) (a' := 0) (b' := 0) dX5_hear_8 t6_skipWord ml_5_33 h2 rfl rfl (Nat.le_of_ble_eq_true rfl) rfl hdp (Nat.zero_le _) (Nat.zero_le _) (k1 _ (fun z m' h => h))

theorem s5_hear_11 {G : am_G} {dp a b : Nat} {m : am_M} {Q : am_Q} {i2 i90 : Int} {r0 r1 : Nat} (hdp : 1 ≤ dp) (h1 : am_ob m r1 5) (h2 : am_obw m r0 4) (k1 : (i90 = 0) → ∀ Q' : am_Q, (∀ (z : Int) (m' : am_M), X G dp a b M5_hear 28 [some (rV (some r0)), some (rV (some r1)), some (iV (i2))] [iV (z)] m' Q → Q' (.inl (some (iV (z)))) m') → T G (dp - 1) 0 0 M6_skipWord [rV (some r1), sV (32)] m Q') (k2 : ¬ (i90 = 0) → X G dp a b M5_hear 61 [some (rV (some r0)), some (rV (some r1)), some (iV (i2))] [] ((u2 m.1 r0 5 (0)), m.2.1, m.2.2) Q)  : X G dp a b M5_hear 11 [some (rV (some r0)), some (rV (some r1)), some (iV (i2))] [iV (i90)] m Q := by
  refine X_if_eq (tgt := 22) dX5_hear_11 (by decide) (fun c1 => ?_) (fun c1 => ?_)
  · refine X_aload_n dX5_hear_22 rfl rfl ?_
    refine X_ldcS (j := 32) (tx := "first") dX5_hear_23 rfl ?_
    exact X_callV (As := [sV (32)]) (rest := []) (a' := 0) (b' := 0) dX5_hear_25 t6_skipWord ml_5_33 h1 rfl rfl (Nat.le_of_ble_eq_true rfl) rfl hdp (Nat.zero_le _) (Nat.zero_le _) ((k1 c1) _ (fun z m' h => h))
  · refine X_aload_n dX5_hear_14 rfl rfl ?_
    refine Y_iconst dX5_hear_15 (by unfold i32; omega) ?_
    refine X_putI dX5_hear_16 fw_5_28 rfl h2 ?_
    refine X_goto (tgt := 61) dX5_hear_19 (by decide) ?_
    exact (k2 c1)

theorem s5_hear_28 {G : am_G} {dp a b : Nat} {m : am_M} {Q : am_Q} {i2 i90 : Int} {r0 r1 : Nat} (hdp : 1 ≤ dp) (h1 : am_ob m r1 5) (h2 : am_obw m r0 4) (k1 : (i90 = 0) → ∀ Q' : am_Q, (∀ (z : Int) (m' : am_M), X G dp a b M5_hear 45 [some (rV (some r0)), some (rV (some r1)), some (iV (i2))] [iV (z)] m' Q → Q' (.inl (some (iV (z)))) m') → T G (dp - 1) 0 0 M6_skipWord [rV (some r1), sV (33)] m Q') (k2 : ¬ (i90 = 0) → X G dp a b M5_hear 61 [some (rV (some r0)), some (rV (some r1)), some (iV (i2))] [] ((u2 m.1 r0 5 (1)), m.2.1, m.2.2) Q)  : X G dp a b M5_hear 28 [some (rV (some r0)), some (rV (some r1)), some (iV (i2))] [iV (i90)] m Q := by
  refine X_if_eq (tgt := 39) dX5_hear_28 (by decide) (fun c1 => ?_) (fun c1 => ?_)
  · refine X_aload_n dX5_hear_39 rfl rfl ?_
    refine X_ldcS (j := 33) (tx := "drawn") dX5_hear_40 rfl ?_
    exact X_callV (As := [sV (33)]) (rest := []) (a' := 0) (b' := 0) dX5_hear_42 t6_skipWord ml_5_33 h1 rfl rfl (Nat.le_of_ble_eq_true rfl) rfl hdp (Nat.zero_le _) (Nat.zero_le _) ((k1 c1) _ (fun z m' h => h))
  · refine X_aload_n dX5_hear_31 rfl rfl ?_
    refine Y_iconst dX5_hear_32 (by unfold i32; omega) ?_
    refine X_putI dX5_hear_33 fw_5_28 rfl h2 ?_
    refine X_goto (tgt := 61) dX5_hear_36 (by decide) ?_
    exact (k2 c1)

theorem s5_hear_45 {G : am_G} {dp a b : Nat} {m : am_M} {Q : am_Q} {i2 i90 : Int} {r0 r1 : Nat} (hdp : 1 ≤ dp) (h1 : am_ob m r1 5) (h2 : am_obw m r0 4) (k1 : (i90 = 0) → ∀ Q' : am_Q, (∀ (m' : am_M), X G dp a b M5_hear 61 [some (rV (some r0)), some (rV (some r1)), some (iV (i2))] [] m' Q → Q' (.inl none) m') → T G (dp - 1) 0 0 M6_fail [rV (some r1), iV (1)] m Q') (k2 : ¬ (i90 = 0) → X G dp a b M5_hear 61 [some (rV (some r0)), some (rV (some r1)), some (iV (i2))] [] ((u2 m.1 r0 5 (2)), m.2.1, m.2.2) Q)  : X G dp a b M5_hear 45 [some (rV (some r0)), some (rV (some r1)), some (iV (i2))] [iV (i90)] m Q := by
  refine X_if_eq (tgt := 56) dX5_hear_45 (by decide) (fun c1 => ?_) (fun c1 => ?_)
  · refine X_aload_n dX5_hear_56 rfl rfl ?_
    refine Y_iconst dX5_hear_57 (by unfold i32; omega) ?_
    exact X_callV (As := [iV (1)]) (rest := []) (a' := 0) (b' := 0) dX5_hear_58 t6_fail ml_5_43 h1 rfl rfl (Nat.le_of_ble_eq_true rfl) rfl hdp (Nat.zero_le _) (Nat.zero_le _) ((k1 c1) _ (fun m' h => h))
  · refine X_aload_n dX5_hear_48 rfl rfl ?_
    refine Y_iconst dX5_hear_49 (by unfold i32; omega) ?_
    refine X_putI dX5_hear_50 fw_5_28 rfl h2 ?_
    refine X_goto (tgt := 61) dX5_hear_53 (by decide) ?_
    exact (k2 c1)

theorem s5_hear_61 {G : am_G} {dp a b : Nat} {m : am_M} {Q : am_Q} {i2 : Int} {r0 r1 : Nat} (hdp : 1 ≤ dp) (h1 : am_ob m r0 4) (k1 : ∀ Q' : am_Q, (∀ (m' : am_M), X G dp a b M5_hear 68 [some (rV (some r0)), some (rV (some r1)), some (iV (i2))] [] m' Q → Q' (.inl none) m') → T G (dp - 1) 0 0 M5_readTest [rV (some r0), rV (some r1), iV (i2), iV (0)] m Q')  : X G dp a b M5_hear 61 [some (rV (some r0)), some (rV (some r1)), some (iV (i2))] [] m Q := by
  refine X_aload_n dX5_hear_61 rfl rfl ?_
  refine X_aload_n dX5_hear_62 rfl rfl ?_
  refine X_iload_n dX5_hear_63 rfl rfl ?_
  refine Y_iconst dX5_hear_64 (by unfold i32; omega) ?_
  exact X_callV (As := [rV (some r1), iV (i2), iV (0)]) (rest := []) (a' := 0) (b' := 0) dX5_hear_65 t5_readTest ml_5_47 h1 rfl rfl (Nat.le_of_ble_eq_true rfl) rfl hdp (Nat.zero_le _) (Nat.zero_le _) (k1 _ (fun m' h => h))

theorem s5_hear_68 {G : am_G} {dp a b : Nat} {m : am_M} {Q : am_Q} {i2 : Int} {r0 r1 : Nat} (hdp : 1 ≤ dp) (h1 : am_ob m r1 5) (k1 : ∀ Q' : am_Q, (∀ (z : Int) (m' : am_M), X G dp a b M5_hear 72 [some (rV (some r0)), some (rV (some r1)), some (iV (i2))] [iV (z)] m' Q → Q' (.inl (some (iV (z)))) m') → T G (dp - 1) 0 0 M6_isEnd [rV (some r1)] m Q')  : X G dp a b M5_hear 68 [some (rV (some r0)), some (rV (some r1)), some (iV (i2))] [] m Q := by
  refine X_aload_n dX5_hear_68 rfl rfl ?_
  exact X_callV (As := []) (rest := []) (a' := 0) (b' := 0) dX5_hear_69 t6_isEnd ml_5_51 h1 rfl rfl (Nat.le_of_ble_eq_true rfl) rfl hdp (Nat.zero_le _) (Nat.zero_le _) (k1 _ (fun z m' h => h))

theorem s5_hear_72 {G : am_G} {dp a b : Nat} {m : am_M} {Q : am_Q} {i2 i90 : Int} {r0 r1 : Nat} (hdp : 1 ≤ dp) (h1 : am_ob m r1 5) (k1 : ¬ (i90 = 0) → X G dp a b M5_hear 80 [some (rV (some r0)), some (rV (some r1)), some (iV (i2))] [] m Q) (k2 : (i90 = 0) → ∀ Q' : am_Q, (∀ (m' : am_M), X G dp a b M5_hear 80 [some (rV (some r0)), some (rV (some r1)), some (iV (i2))] [] m' Q → Q' (.inl none) m') → T G (dp - 1) 0 0 M6_fail [rV (some r1), iV (1)] m Q')  : X G dp a b M5_hear 72 [some (rV (some r0)), some (rV (some r1)), some (iV (i2))] [iV (i90)] m Q := by
  refine X_if_ne (tgt := 80) dX5_hear_72 (by decide) (fun c1 => ?_) (fun c1 => ?_)
  · exact (k1 c1)
  · refine X_aload_n dX5_hear_75 rfl rfl ?_
    refine Y_iconst dX5_hear_76 (by unfold i32; omega) ?_
    exact X_callV (As := [iV (1)]) (rest := []) (a' := 0) (b' := 0) dX5_hear_77 t6_fail ml_5_43 h1 rfl rfl (Nat.le_of_ble_eq_true rfl) rfl hdp (Nat.zero_le _) (Nat.zero_le _) ((k2 c1) _ (fun m' h => h))

theorem s5_hear_80 {G : am_G} {dp a b : Nat} {m : am_M} {Q : am_Q} {i2 : Int} {r0 r1 : Nat}  (k1 : Q (.inl none) m)  : X G dp a b M5_hear 80 [some (rV (some r0)), some (rV (some r1)), some (iV (i2))] [] m Q := by
  exact X_vret dX5_hear_80 rfl k1

theorem s5_readTest_0 {G : am_G} {dp a b : Nat} {m : am_M} {Q : am_Q} {i2 i3 : Int} {r0 r1 : Nat} {o4 : Option am_V} (hdp : 1 ≤ dp) (h1 : am_ob m r0 4) (k1 : ∀ Q' : am_Q, (∀ (m' : am_M), X G dp a b M5_readTest 7 [some (rV (some r0)), some (rV (some r1)), some (iV (i2)), some (iV (i3)), o4] [] m' Q → Q' (.inl none) m') → T G (dp - 1) 0 0 M5_readBoth [rV (some r0), rV (some r1), iV (i2), iV (i3)] m Q')  : X G dp a b M5_readTest 0 [some (rV (some r0)), some (rV (some r1)), some (iV (i2)), some (iV (i3)), o4] [] m Q := by
  refine X_aload_n dX5_readTest_0 rfl rfl ?_
  refine X_aload_n dX5_readTest_1 rfl rfl ?_
  refine X_iload_n dX5_readTest_2 rfl rfl ?_
  refine X_iload_n dX5_readTest_3 rfl rfl ?_
  exact X_callV (As := [rV (some r1), iV (i2), iV (i3)]) (rest := []) (a' := 0) (b' := 0) dX5_readTest_4 t5_readBoth ml_5_55 h1 rfl rfl (Nat.le_of_ble_eq_true rfl) rfl hdp (Nat.zero_le _) (Nat.zero_le _) (k1 _ (fun m' h => h))

theorem s5_readTest_7 {G : am_G} {dp a b : Nat} {m : am_M} {Q : am_Q} {i2 i3 : Int} {r0 r1 : Nat} {o4 : Option am_V}  (k1 : X G dp a b M5_readTest 10 [some (rV (some r0)), some (rV (some r1)), some (iV (i2)), some (iV (i3)), some (iV (0))] [] m Q)  : X G dp a b M5_readTest 7 [some (rV (some r0)), some (rV (some r1)), some (iV (i2)), some (iV (i3)), o4] [] m Q := by
  refine Y_iconst dX5_readTest_7 (by unfold i32; omega) ?_
  refine X_istore dX5_readTest_8 (Nat.le_of_ble_eq_true rfl) ?_
  exact k1

theorem s5_readTest_10 {G : am_G} {dp a b : Nat} {m : am_M} {Q : am_Q} {i2 i3 i4 : Int} {r0 r1 : Nat} (hdp : 1 ≤ dp) (h1 : am_ob m r1 5) (k1 : (200 ≤ i4) → Q (.inl none) m) (k2 : ¬ (200 ≤ i4) → ∀ Q' : am_Q, (∀ (z : Int) (m' : am_M), X G dp a b M5_readTest 24 [some (rV (some r0)), some (rV (some r1)), some (iV (i2)), some (iV (i3)), some (iV (i4))] [iV (z)] m' Q → Q' (.inl (some (iV (z)))) m') → T G (dp - 1) 0 0 M6_skipWord [rV (some r1), sV (43)] m Q')  : X G dp a b M5_readTest 10 [some (rV (some r0)), some (rV (some r1)), some (iV (i2)), some (iV (i3)), some (iV (i4))] [] m Q := by
  refine X_iload dX5_readTest_10 rfl ?_
  refine Y_sipush dX5_readTest_12 (by omega) ?_
  refine X_icmp_ge (tgt := 47) dX5_readTest_15 (by decide) (fun c1 => ?_) (fun c1 => ?_)
  · exact X_vret dX5_readTest_47 rfl (k1 c1)
  · refine X_aload_n dX5_readTest_18 rfl rfl ?_
    refine X_ldcS (j := 43) (tx := "or") dX5_readTest_19 rfl ?_
    exact X_callV (As := [sV (43)]) (rest := []) (a' := 0) (b' := 0) dX5_readTest_21 t6_skipWord ml_5_33 h1 rfl rfl (Nat.le_of_ble_eq_true rfl) rfl hdp (Nat.zero_le _) (Nat.zero_le _) ((k2 c1) _ (fun z m' h => h))

theorem s5_readTest_24 {G : am_G} {dp a b : Nat} {m : am_M} {Q : am_Q} {i2 i3 i4 i90 : Int} {r0 r1 : Nat} (hdp : 1 ≤ dp) (h1 : am_ob m r0 4) (k1 : (i90 = 0) → Q (.inl none) m) (k2 : ¬ (i90 = 0) → ∀ Q' : am_Q, (∀ (m' : am_M), X G dp a b M5_readTest 34 [some (rV (some r0)), some (rV (some r1)), some (iV (i2)), some (iV (i3)), some (iV (i4))] [] m' Q → Q' (.inl none) m') → T G (dp - 1) 0 0 M5_readBoth [rV (some r0), rV (some r1), iV (i2), iV (i3)] m Q')  : X G dp a b M5_readTest 24 [some (rV (some r0)), some (rV (some r1)), some (iV (i2)), some (iV (i3)), some (iV (i4))] [iV (i90)] m Q := by
  refine X_if_eq (tgt := 47) dX5_readTest_24 (by decide) (fun c1 => ?_) (fun c1 => ?_)
  · exact X_vret dX5_readTest_47 rfl (k1 c1)
  · refine X_aload_n dX5_readTest_27 rfl rfl ?_
    refine X_aload_n dX5_readTest_28 rfl rfl ?_
    refine X_iload_n dX5_readTest_29 rfl rfl ?_
    refine X_iload_n dX5_readTest_30 rfl rfl ?_
    exact X_callV (As := [rV (some r1), iV (i2), iV (i3)]) (rest := []) (a' := 0) (b' := 0) dX5_readTest_31 t5_readBoth ml_5_55 h1 rfl rfl (Nat.le_of_ble_eq_true rfl) rfl hdp (Nat.zero_le _) (Nat.zero_le _) ((k2 c1) _ (fun m' h => h))

theorem s5_readTest_34 {G : am_G} {dp a b : Nat} {m : am_M} {Q : am_Q} {i2 i3 i4 : Int} {r0 r1 : Nat} (hdp : 1 ≤ dp) (h1 : am_ob m r0 4) (k1 : ∀ Q' : am_Q, (∀ (m' : am_M), X G dp a b M5_readTest 41 [some (rV (some r0)), some (rV (some r1)), some (iV (i2)), some (iV (i3)), some (iV (i4))] [] m' Q → Q' (.inl none) m') → T G (dp - 1) 0 0 M5_add [rV (some r0), iV (11), iV (0)] m Q')  : X G dp a b M5_readTest 34 [some (rV (some r0)), some (rV (some r1)), some (iV (i2)), some (iV (i3)), some (iV (i4))] [] m Q := by
  refine X_aload_n dX5_readTest_34 rfl rfl ?_
  refine Y_bipush dX5_readTest_35 (by omega) ?_
  refine Y_iconst dX5_readTest_37 (by unfold i32; omega) ?_
  exact X_callV (As := [iV (11), iV (0)]) (rest := []) (a' := 0) (b' := 0) dX5_readTest_38 t5_add ml_5_60 h1 rfl rfl (Nat.le_of_ble_eq_true rfl) rfl hdp (Nat.zero_le _) (Nat.zero_le _) (k1 _ (fun m' h => h))

theorem s5_readTest_41 {G : am_G} {dp a b : Nat} {m : am_M} {Q : am_Q} {i2 i3 i4 : Int} {r0 r1 : Nat}  (k1 : X G dp a b M5_readTest 10 [some (rV (some r0)), some (rV (some r1)), some (iV (i2)), some (iV (i3)), some (iV (wr (i4 + 1)))] [] m Q)  : X G dp a b M5_readTest 41 [some (rV (some r0)), some (rV (some r1)), some (iV (i2)), some (iV (i3)), some (iV (i4))] [] m Q := by
  refine X_iinc dX5_readTest_41 rfl ?_
  refine X_goto (tgt := 10) dX5_readTest_44 (by decide) ?_
  exact k1

theorem s5_readBoth_0 {G : am_G} {dp a b : Nat} {m : am_M} {Q : am_Q} {i2 i3 : Int} {r0 r1 : Nat} {o4 : Option am_V} (hdp : 1 ≤ dp) (h1 : am_ob m r0 4) (k1 : ∀ Q' : am_Q, (∀ (m' : am_M), X G dp a b M5_readBoth 7 [some (rV (some r0)), some (rV (some r1)), some (iV (i2)), some (iV (i3)), o4] [] m' Q → Q' (.inl none) m') → T G (dp - 1) 0 0 M5_readFact [rV (some r0), rV (some r1), iV (i2), iV (i3)] m Q')  : X G dp a b M5_readBoth 0 [some (rV (some r0)), some (rV (some r1)), some (iV (i2)), some (iV (i3)), o4] [] m Q := by
  refine X_aload_n dX5_readBoth_0 rfl rfl ?_
  refine X_aload_n dX5_readBoth_1 rfl rfl ?_
  refine X_iload_n dX5_readBoth_2 rfl rfl ?_
  refine X_iload_n dX5_readBoth_3 rfl rfl ?_
  exact X_callV (As := [rV (some r1), iV (i2), iV (i3)]) (rest := []) (a' := 0) (b' := 0) dX5_readBoth_4 t5_readFact ml_5_64 h1 rfl rfl (Nat.le_of_ble_eq_true rfl) rfl hdp (Nat.zero_le _) (Nat.zero_le _) (k1 _ (fun m' h => h))

theorem s5_readBoth_7 {G : am_G} {dp a b : Nat} {m : am_M} {Q : am_Q} {i2 i3 : Int} {r0 r1 : Nat} {o4 : Option am_V}  (k1 : X G dp a b M5_readBoth 10 [some (rV (some r0)), some (rV (some r1)), some (iV (i2)), some (iV (i3)), some (iV (0))] [] m Q)  : X G dp a b M5_readBoth 7 [some (rV (some r0)), some (rV (some r1)), some (iV (i2)), some (iV (i3)), o4] [] m Q := by
  refine Y_iconst dX5_readBoth_7 (by unfold i32; omega) ?_
  refine X_istore dX5_readBoth_8 (Nat.le_of_ble_eq_true rfl) ?_
  exact k1

theorem s5_readBoth_10 {G : am_G} {dp a b : Nat} {m : am_M} {Q : am_Q} {i2 i3 i4 : Int} {r0 r1 : Nat} (hdp : 1 ≤ dp) (h1 : am_ob m r1 5) (k1 : (200 ≤ i4) → Q (.inl none) m) (k2 : ¬ (200 ≤ i4) → ∀ Q' : am_Q, (∀ (z : Int) (m' : am_M), X G dp a b M5_readBoth 24 [some (rV (some r0)), some (rV (some r1)), some (iV (i2)), some (iV (i3)), some (iV (i4))] [iV (z)] m' Q → Q' (.inl (some (iV (z)))) m') → T G (dp - 1) 0 0 M6_skipWord [rV (some r1), sV (42)] m Q')  : X G dp a b M5_readBoth 10 [some (rV (some r0)), some (rV (some r1)), some (iV (i2)), some (iV (i3)), some (iV (i4))] [] m Q := by
  refine X_iload dX5_readBoth_10 rfl ?_
  refine Y_sipush dX5_readBoth_12 (by omega) ?_
  refine X_icmp_ge (tgt := 47) dX5_readBoth_15 (by decide) (fun c1 => ?_) (fun c1 => ?_)
  · exact X_vret dX5_readBoth_47 rfl (k1 c1)
  · refine X_aload_n dX5_readBoth_18 rfl rfl ?_
    refine X_ldcS (j := 42) (tx := "and") dX5_readBoth_19 rfl ?_
    exact X_callV (As := [sV (42)]) (rest := []) (a' := 0) (b' := 0) dX5_readBoth_21 t6_skipWord ml_5_33 h1 rfl rfl (Nat.le_of_ble_eq_true rfl) rfl hdp (Nat.zero_le _) (Nat.zero_le _) ((k2 c1) _ (fun z m' h => h))

theorem s5_readBoth_24 {G : am_G} {dp a b : Nat} {m : am_M} {Q : am_Q} {i2 i3 i4 i90 : Int} {r0 r1 : Nat} (hdp : 1 ≤ dp) (h1 : am_ob m r0 4) (k1 : (i90 = 0) → Q (.inl none) m) (k2 : ¬ (i90 = 0) → ∀ Q' : am_Q, (∀ (m' : am_M), X G dp a b M5_readBoth 34 [some (rV (some r0)), some (rV (some r1)), some (iV (i2)), some (iV (i3)), some (iV (i4))] [] m' Q → Q' (.inl none) m') → T G (dp - 1) 0 0 M5_readFact [rV (some r0), rV (some r1), iV (i2), iV (i3)] m Q')  : X G dp a b M5_readBoth 24 [some (rV (some r0)), some (rV (some r1)), some (iV (i2)), some (iV (i3)), some (iV (i4))] [iV (i90)] m Q := by
  refine X_if_eq (tgt := 47) dX5_readBoth_24 (by decide) (fun c1 => ?_) (fun c1 => ?_)
  · exact X_vret dX5_readBoth_47 rfl (k1 c1)
  · refine X_aload_n dX5_readBoth_27 rfl rfl ?_
    refine X_aload_n dX5_readBoth_28 rfl rfl ?_
    refine X_iload_n dX5_readBoth_29 rfl rfl ?_
    refine X_iload_n dX5_readBoth_30 rfl rfl ?_
    exact X_callV (As := [rV (some r1), iV (i2), iV (i3)]) (rest := []) (a' := 0) (b' := 0) dX5_readBoth_31 t5_readFact ml_5_64 h1 rfl rfl (Nat.le_of_ble_eq_true rfl) rfl hdp (Nat.zero_le _) (Nat.zero_le _) ((k2 c1) _ (fun m' h => h))

theorem s5_readBoth_34 {G : am_G} {dp a b : Nat} {m : am_M} {Q : am_Q} {i2 i3 i4 : Int} {r0 r1 : Nat} (hdp : 1 ≤ dp) (h1 : am_ob m r0 4) (k1 : ∀ Q' : am_Q, (∀ (m' : am_M), X G dp a b M5_readBoth 41 [some (rV (some r0)), some (rV (some r1)), some (iV (i2)), some (iV (i3)), some (iV (i4))] [] m' Q → Q' (.inl none) m') → T G (dp - 1) 0 0 M5_add [rV (some r0), iV (10), iV (0)] m Q')  : X G dp a b M5_readBoth 34 [some (rV (some r0)), some (rV (some r1)), some (iV (i2)), some (iV (i3)), some (iV (i4))] [] m Q := by
  refine X_aload_n dX5_readBoth_34 rfl rfl ?_
  refine Y_bipush dX5_readBoth_35 (by omega) ?_
  refine Y_iconst dX5_readBoth_37 (by unfold i32; omega) ?_
  exact X_callV (As := [iV (10), iV (0)]) (rest := []) (a' := 0) (b' := 0) dX5_readBoth_38 t5_add ml_5_60 h1 rfl rfl (Nat.le_of_ble_eq_true rfl) rfl hdp (Nat.zero_le _) (Nat.zero_le _) (k1 _ (fun m' h => h))

theorem s5_readBoth_41 {G : am_G} {dp a b : Nat} {m : am_M} {Q : am_Q} {i2 i3 i4 : Int} {r0 r1 : Nat}  (k1 : X G dp a b M5_readBoth 10 [some (rV (some r0)), some (rV (some r1)), some (iV (i2)), some (iV (i3)), some (iV (wr (i4 + 1)))] [] m Q)  : X G dp a b M5_readBoth 41 [some (rV (some r0)), some (rV (some r1)), some (iV (i2)), some (iV (i3)), some (iV (i4))] [] m Q := by
  refine X_iinc dX5_readBoth_41 rfl ?_
  refine X_goto (tgt := 10) dX5_readBoth_44 (by decide) ?_
  exact k1

theorem s5_readFact_0 {G : am_G} {dp a b : Nat} {m : am_M} {Q : am_Q} {i2 i3 : Int} {r0 r1 : Nat} {o4 : Option am_V} (hdp : 1 ≤ dp) (h1 : am_ob m r1 5) (k1 : ∀ Q' : am_Q, (∀ (z : Int) (m' : am_M), X G dp a b M5_readFact 6 [some (rV (some r0)), some (rV (some r1)), some (iV (i2)), some (iV (i3)), o4] [iV (z)] m' Q → Q' (.inl (some (iV (z)))) m') → T G (dp - 1) 0 0 M6_isWord [rV (some r1), sV (34)] m Q')  : X G dp a b M5_readFact 0 [some (rV (some r0)), some (rV (some r1)), some (iV (i2)), some (iV (i3)), o4] [] m Q := by
  refine X_aload_n dX5_readFact_0 rfl rfl ?_
  refine X_ldcS (j := 34) (tx := "not") dX5_readFact_1 rfl ?_
  exact X_callV (As := [sV (34)]) (rest := []) (a' := 0) (b' := 0) dX5_readFact_3 t6_isWord ml_5_71 h1 rfl rfl (Nat.le_of_ble_eq_true rfl) rfl hdp (Nat.zero_le _) (Nat.zero_le _) (k1 _ (fun z m' h => h))

theorem s5_readFact_6 {G : am_G} {dp a b : Nat} {m : am_M} {Q : am_Q} {i2 i3 i90 : Int} {r0 r1 : Nat} {o4 : Option am_V} (hdp : 1 ≤ dp) (h1 : am_ob m r1 5) (k1 : ¬ (i90 = 0) → (i3 < 6) → ∀ Q' : am_Q, (∀ (m' : am_M), X G dp a b M5_readFact 45 [some (rV (some r0)), some (rV (some r1)), some (iV (i2)), some (iV (i3)), some (iV (i90))] [] m' Q → Q' (.inl none) m') → T G (dp - 1) 0 0 M6_step [rV (some r1)] m Q') (k2 : ¬ (i90 = 0) → ¬ (i3 < 6) → ∀ Q' : am_Q, (∀ (m' : am_M), X G dp a b M5_readFact 40 [some (rV (some r0)), some (rV (some r1)), some (iV (i2)), some (iV (i3)), some (iV (i90))] [] m' Q → Q' (.inl none) m') → T G (dp - 1) 0 0 M6_fail [rV (some r1), iV (3)] m Q') (k3 : (i90 = 0) → ∀ Q' : am_Q, (∀ (z : Int) (m' : am_M), X G dp a b M5_readFact 19 [some (rV (some r0)), some (rV (some r1)), some (iV (i2)), some (iV (i3)), some (iV (i90))] [iV (z)] m' Q → Q' (.inl (some (iV (z)))) m') → T G (dp - 1) 0 0 M6_isSign [rV (some r1), iV (123)] m Q')  : X G dp a b M5_readFact 6 [some (rV (some r0)), some (rV (some r1)), some (iV (i2)), some (iV (i3)), o4] [iV (i90)] m Q := by
  refine X_istore dX5_readFact_6 (Nat.le_of_ble_eq_true rfl) ?_
  refine X_iload dX5_readFact_8 rfl ?_
  refine X_if_ne (tgt := 29) dX5_readFact_10 (by decide) (fun c1 => ?_) (fun c1 => ?_)
  · refine X_iload_n dX5_readFact_29 rfl rfl ?_
    refine Y_bipush dX5_readFact_30 (by omega) ?_
    refine X_icmp_lt (tgt := 41) dX5_readFact_32 (by decide) (fun c2 => ?_) (fun c2 => ?_)
    · refine X_aload_n dX5_readFact_41 rfl rfl ?_
      exact X_callV (As := []) (rest := []) (a' := 0) (b' := 0) dX5_readFact_42 t6_step ml_5_82 h1 rfl rfl (Nat.le_of_ble_eq_true rfl) rfl hdp (Nat.zero_le _) (Nat.zero_le _) ((k1 c1 c2) _ (fun m' h => h))
    · refine X_aload_n dX5_readFact_35 rfl rfl ?_
      refine Y_iconst dX5_readFact_36 (by unfold i32; omega) ?_
      exact X_callV (As := [iV (3)]) (rest := []) (a' := 0) (b' := 0) dX5_readFact_37 t6_fail ml_5_43 h1 rfl rfl (Nat.le_of_ble_eq_true rfl) rfl hdp (Nat.zero_le _) (Nat.zero_le _) ((k2 c1 c2) _ (fun m' h => h))
  · refine X_aload_n dX5_readFact_13 rfl rfl ?_
    refine Y_bipush dX5_readFact_14 (by omega) ?_
    exact X_callV (As := [iV (123)]) (rest := []) (a' := 0) (b' := 0) dX5_readFact_16 t6_isSign ml_5_74 h1 rfl rfl (Nat.le_of_ble_eq_true rfl) rfl hdp (Nat.zero_le _) (Nat.zero_le _) ((k3 c1) _ (fun z m' h => h))

theorem s5_readFact_19 {G : am_G} {dp a b : Nat} {m : am_M} {Q : am_Q} {i2 i3 i4 i90 : Int} {r0 r1 : Nat} (hdp : 1 ≤ dp) (h1 : am_ob m r1 5) (h2 : am_ob m r0 4) (k1 : ¬ (i90 = 0) → (i3 < 6) → ∀ Q' : am_Q, (∀ (m' : am_M), X G dp a b M5_readFact 45 [some (rV (some r0)), some (rV (some r1)), some (iV (i2)), some (iV (i3)), some (iV (i4))] [] m' Q → Q' (.inl none) m') → T G (dp - 1) 0 0 M6_step [rV (some r1)] m Q') (k2 : ¬ (i90 = 0) → ¬ (i3 < 6) → ∀ Q' : am_Q, (∀ (m' : am_M), X G dp a b M5_readFact 40 [some (rV (some r0)), some (rV (some r1)), some (iV (i2)), some (iV (i3)), some (iV (i4))] [] m' Q → Q' (.inl none) m') → T G (dp - 1) 0 0 M6_fail [rV (some r1), iV (3)] m Q') (k3 : (i90 = 0) → ∀ Q' : am_Q, (∀ (m' : am_M), X G dp a b M5_readFact 28 [some (rV (some r0)), some (rV (some r1)), some (iV (i2)), some (iV (i3)), some (iV (i4))] [] m' Q → Q' (.inl none) m') → T G (dp - 1) 0 0 M5_readComparison [rV (some r0), rV (some r1), iV (i2)] m Q')  : X G dp a b M5_readFact 19 [some (rV (some r0)), some (rV (some r1)), some (iV (i2)), some (iV (i3)), some (iV (i4))] [iV (i90)] m Q := by
  refine X_if_ne (tgt := 29) dX5_readFact_19 (by decide) (fun c1 => ?_) (fun c1 => ?_)
  · refine X_iload_n dX5_readFact_29 rfl rfl ?_
    refine Y_bipush dX5_readFact_30 (by omega) ?_
    refine X_icmp_lt (tgt := 41) dX5_readFact_32 (by decide) (fun c2 => ?_) (fun c2 => ?_)
    · refine X_aload_n dX5_readFact_41 rfl rfl ?_
      exact X_callV (As := []) (rest := []) (a' := 0) (b' := 0) dX5_readFact_42 t6_step ml_5_82 h1 rfl rfl (Nat.le_of_ble_eq_true rfl) rfl hdp (Nat.zero_le _) (Nat.zero_le _) ((k1 c1 c2) _ (fun m' h => h))
    · refine X_aload_n dX5_readFact_35 rfl rfl ?_
      refine Y_iconst dX5_readFact_36 (by unfold i32; omega) ?_
      exact X_callV (As := [iV (3)]) (rest := []) (a' := 0) (b' := 0) dX5_readFact_37 t6_fail ml_5_43 h1 rfl rfl (Nat.le_of_ble_eq_true rfl) rfl hdp (Nat.zero_le _) (Nat.zero_le _) ((k2 c1 c2) _ (fun m' h => h))
  · refine X_aload_n dX5_readFact_22 rfl rfl ?_
    refine X_aload_n dX5_readFact_23 rfl rfl ?_
    refine X_iload_n dX5_readFact_24 rfl rfl ?_
    exact X_callV (As := [rV (some r1), iV (i2)]) (rest := []) (a' := 0) (b' := 0) dX5_readFact_25 t5_readComparison ml_5_78 h2 rfl rfl (Nat.le_of_ble_eq_true rfl) rfl hdp (Nat.zero_le _) (Nat.zero_le _) ((k3 c1) _ (fun m' h => h))

theorem s5_readFact_28 {G : am_G} {dp a b : Nat} {m : am_M} {Q : am_Q} {i2 i3 i4 : Int} {r0 r1 : Nat}  (k1 : Q (.inl none) m)  : X G dp a b M5_readFact 28 [some (rV (some r0)), some (rV (some r1)), some (iV (i2)), some (iV (i3)), some (iV (i4))] [] m Q := by
  exact X_vret dX5_readFact_28 rfl k1

theorem s5_readFact_40 {G : am_G} {dp a b : Nat} {m : am_M} {Q : am_Q} {i2 i3 i4 : Int} {r0 r1 : Nat}  (k1 : Q (.inl none) m)  : X G dp a b M5_readFact 40 [some (rV (some r0)), some (rV (some r1)), some (iV (i2)), some (iV (i3)), some (iV (i4))] [] m Q := by
  exact X_vret dX5_readFact_40 rfl k1

theorem s5_readFact_45 {G : am_G} {dp a b : Nat} {m : am_M} {Q : am_Q} {i2 i3 i4 : Int} {r0 r1 : Nat} (hdp : 1 ≤ dp) (h1 : am_ob m r0 4) (k1 : (i4 = 0) → ∀ Q' : am_Q, (∀ (m' : am_M), X G dp a b M5_readFact 78 [some (rV (some r0)), some (rV (some r1)), some (iV (i2)), some (iV (i3)), some (iV (i4))] [] m' Q → Q' (.inl none) m') → T G (dp - 1) 0 0 M5_readTest [rV (some r0), rV (some r1), iV (i2), iV (wr (i3 + 1))] m Q') (k2 : ¬ (i4 = 0) → ∀ Q' : am_Q, (∀ (m' : am_M), X G dp a b M5_readFact 59 [some (rV (some r0)), some (rV (some r1)), some (iV (i2)), some (iV (i3)), some (iV (i4))] [] m' Q → Q' (.inl none) m') → T G (dp - 1) 0 0 M5_readFact [rV (some r0), rV (some r1), iV (i2), iV (wr (i3 + 1))] m Q')  : X G dp a b M5_readFact 45 [some (rV (some r0)), some (rV (some r1)), some (iV (i2)), some (iV (i3)), some (iV (i4))] [] m Q := by
  refine X_iload dX5_readFact_45 rfl ?_
  refine X_if_eq (tgt := 69) dX5_readFact_47 (by decide) (fun c1 => ?_) (fun c1 => ?_)
  · refine X_aload_n dX5_readFact_69 rfl rfl ?_
    refine X_aload_n dX5_readFact_70 rfl rfl ?_
    refine X_iload_n dX5_readFact_71 rfl rfl ?_
    refine X_iload_n dX5_readFact_72 rfl rfl ?_
    refine Y_iconst dX5_readFact_73 (by unfold i32; omega) ?_
    refine X_iadd dX5_readFact_74  ?_
    exact X_callV (As := [rV (some r1), iV (i2), iV (wr (i3 + 1))]) (rest := []) (a' := 0) (b' := 0) dX5_readFact_75 t5_readTest ml_5_47 h1 rfl rfl (Nat.le_of_ble_eq_true rfl) rfl hdp (Nat.zero_le _) (Nat.zero_le _) ((k1 c1) _ (fun m' h => h))
  · refine X_aload_n dX5_readFact_50 rfl rfl ?_
    refine X_aload_n dX5_readFact_51 rfl rfl ?_
    refine X_iload_n dX5_readFact_52 rfl rfl ?_
    refine X_iload_n dX5_readFact_53 rfl rfl ?_
    refine Y_iconst dX5_readFact_54 (by unfold i32; omega) ?_
    refine X_iadd dX5_readFact_55  ?_
    exact X_callV (As := [rV (some r1), iV (i2), iV (wr (i3 + 1))]) (rest := []) (a' := 0) (b' := 0) dX5_readFact_56 t5_readFact ml_5_64 h1 rfl rfl (Nat.le_of_ble_eq_true rfl) rfl hdp (Nat.zero_le _) (Nat.zero_le _) ((k2 c1) _ (fun m' h => h))

theorem s5_readFact_59 {G : am_G} {dp a b : Nat} {m : am_M} {Q : am_Q} {i2 i3 i4 : Int} {r0 r1 : Nat} (hdp : 1 ≤ dp) (h1 : am_ob m r0 4) (k1 : ∀ Q' : am_Q, (∀ (m' : am_M), X G dp a b M5_readFact 66 [some (rV (some r0)), some (rV (some r1)), some (iV (i2)), some (iV (i3)), some (iV (i4))] [] m' Q → Q' (.inl none) m') → T G (dp - 1) 0 0 M5_add [rV (some r0), iV (9), iV (0)] m Q')  : X G dp a b M5_readFact 59 [some (rV (some r0)), some (rV (some r1)), some (iV (i2)), some (iV (i3)), some (iV (i4))] [] m Q := by
  refine X_aload_n dX5_readFact_59 rfl rfl ?_
  refine Y_bipush dX5_readFact_60 (by omega) ?_
  refine Y_iconst dX5_readFact_62 (by unfold i32; omega) ?_
  exact X_callV (As := [iV (9), iV (0)]) (rest := []) (a' := 0) (b' := 0) dX5_readFact_63 t5_add ml_5_60 h1 rfl rfl (Nat.le_of_ble_eq_true rfl) rfl hdp (Nat.zero_le _) (Nat.zero_le _) (k1 _ (fun m' h => h))

theorem s5_readFact_66 {G : am_G} {dp a b : Nat} {m : am_M} {Q : am_Q} {i2 i3 i4 : Int} {r0 r1 : Nat}  (k1 : X G dp a b M5_readFact 84 [some (rV (some r0)), some (rV (some r1)), some (iV (i2)), some (iV (i3)), some (iV (i4))] [] m Q)  : X G dp a b M5_readFact 66 [some (rV (some r0)), some (rV (some r1)), some (iV (i2)), some (iV (i3)), some (iV (i4))] [] m Q := by
  refine X_goto (tgt := 84) dX5_readFact_66 (by decide) ?_
  exact k1

theorem s5_readFact_78 {G : am_G} {dp a b : Nat} {m : am_M} {Q : am_Q} {i2 i3 i4 : Int} {r0 r1 : Nat} (hdp : 1 ≤ dp) (h1 : am_ob m r1 5) (k1 : ∀ Q' : am_Q, (∀ (m' : am_M), X G dp a b M5_readFact 84 [some (rV (some r0)), some (rV (some r1)), some (iV (i2)), some (iV (i3)), some (iV (i4))] [] m' Q → Q' (.inl none) m') → T G (dp - 1) 0 0 M6_needSign [rV (some r1), iV (125)] m Q')  : X G dp a b M5_readFact 78 [some (rV (some r0)), some (rV (some r1)), some (iV (i2)), some (iV (i3)), some (iV (i4))] [] m Q := by
  refine X_aload_n dX5_readFact_78 rfl rfl ?_
  refine Y_bipush dX5_readFact_79 (by omega) ?_
  exact X_callV (As := [iV (125)]) (rest := []) (a' := 0) (b' := 0) dX5_readFact_81 t6_needSign ml_5_85 h1 rfl rfl (Nat.le_of_ble_eq_true rfl) rfl hdp (Nat.zero_le _) (Nat.zero_le _) (k1 _ (fun m' h => h))

theorem s5_readFact_84 {G : am_G} {dp a b : Nat} {m : am_M} {Q : am_Q} {i2 i3 i4 : Int} {r0 r1 : Nat}  (k1 : Q (.inl none) m)  : X G dp a b M5_readFact 84 [some (rV (some r0)), some (rV (some r1)), some (iV (i2)), some (iV (i3)), some (iV (i4))] [] m Q := by
  exact X_vret dX5_readFact_84 rfl k1

theorem s5_readComparison_0 {G : am_G} {dp a b : Nat} {m : am_M} {Q : am_Q} {i2 : Int} {r0 r1 : Nat} {o3 : Option am_V} (hdp : 1 ≤ dp) (h1 : am_ob m r0 4) (k1 : ∀ Q' : am_Q, (∀ (m' : am_M), X G dp a b M5_readComparison 6 [some (rV (some r0)), some (rV (some r1)), some (iV (i2)), o3] [] m' Q → Q' (.inl none) m') → T G (dp - 1) 0 0 M5_readValue [rV (some r0), rV (some r1), iV (i2)] m Q')  : X G dp a b M5_readComparison 0 [some (rV (some r0)), some (rV (some r1)), some (iV (i2)), o3] [] m Q := by
  refine X_aload_n dX5_readComparison_0 rfl rfl ?_
  refine X_aload_n dX5_readComparison_1 rfl rfl ?_
  refine X_iload_n dX5_readComparison_2 rfl rfl ?_
  exact X_callV (As := [rV (some r1), iV (i2)]) (rest := []) (a' := 0) (b' := 0) dX5_readComparison_3 t5_readValue ml_5_89 h1 rfl rfl (Nat.le_of_ble_eq_true rfl) rfl hdp (Nat.zero_le _) (Nat.zero_le _) (k1 _ (fun m' h => h))

theorem s5_readComparison_6 {G : am_G} {dp a b : Nat} {m : am_M} {Q : am_Q} {i2 : Int} {r0 r1 : Nat} {o3 : Option am_V} (hdp : 1 ≤ dp) (h1 : am_ob m r1 5) (k1 : ∀ Q' : am_Q, (∀ (z : Int) (m' : am_M), X G dp a b M5_readComparison 15 [some (rV (some r0)), some (rV (some r1)), some (iV (i2)), some (iV (7))] [iV (z)] m' Q → Q' (.inl (some (iV (z)))) m') → T G (dp - 1) 0 0 M6_skipSign [rV (some r1), iV (60)] m Q')  : X G dp a b M5_readComparison 6 [some (rV (some r0)), some (rV (some r1)), some (iV (i2)), o3] [] m Q := by
  refine Y_bipush dX5_readComparison_6 (by omega) ?_
  refine X_istore_n dX5_readComparison_8 rfl (Nat.le_of_ble_eq_true rfl) ?_
  refine X_aload_n dX5_readComparison_9 rfl rfl ?_
  refine Y_bipush dX5_readComparison_10 (by omega) ?_
  exact X_callV (As := [iV (60)]) (rest := []) (a' := 0) (b' := 0) dX5_readComparison_12 t6_skipSign ml_5_92 h1 rfl rfl (Nat.le_of_ble_eq_true rfl) rfl hdp (Nat.zero_le _) (Nat.zero_le _) (k1 _ (fun z m' h => h))

theorem s5_readComparison_15 {G : am_G} {dp a b : Nat} {m : am_M} {Q : am_Q} {i2 i3 i90 : Int} {r0 r1 : Nat} (hdp : 1 ≤ dp) (h1 : am_ob m r1 5) (k1 : (i90 = 0) → ∀ Q' : am_Q, (∀ (z : Int) (m' : am_M), X G dp a b M5_readComparison 30 [some (rV (some r0)), some (rV (some r1)), some (iV (i2)), some (iV (i3))] [iV (z)] m' Q → Q' (.inl (some (iV (z)))) m') → T G (dp - 1) 0 0 M6_skipSign [rV (some r1), iV (62)] m Q') (k2 : ¬ (i90 = 0) → X G dp a b M5_readComparison 45 [some (rV (some r0)), some (rV (some r1)), some (iV (i2)), some (iV (6))] [] m Q)  : X G dp a b M5_readComparison 15 [some (rV (some r0)), some (rV (some r1)), some (iV (i2)), some (iV (i3))] [iV (i90)] m Q := by
  refine X_if_eq (tgt := 24) dX5_readComparison_15 (by decide) (fun c1 => ?_) (fun c1 => ?_)
  · refine X_aload_n dX5_readComparison_24 rfl rfl ?_
    refine Y_bipush dX5_readComparison_25 (by omega) ?_
    exact X_callV (As := [iV (62)]) (rest := []) (a' := 0) (b' := 0) dX5_readComparison_27 t6_skipSign ml_5_92 h1 rfl rfl (Nat.le_of_ble_eq_true rfl) rfl hdp (Nat.zero_le _) (Nat.zero_le _) ((k1 c1) _ (fun z m' h => h))
  · refine Y_bipush dX5_readComparison_18 (by omega) ?_
    refine X_istore_n dX5_readComparison_20 rfl (Nat.le_of_ble_eq_true rfl) ?_
    refine X_goto (tgt := 45) dX5_readComparison_21 (by decide) ?_
    exact (k2 c1)

theorem s5_readComparison_30 {G : am_G} {dp a b : Nat} {m : am_M} {Q : am_Q} {i2 i3 i90 : Int} {r0 r1 : Nat} (hdp : 1 ≤ dp) (h1 : am_ob m r1 5) (k1 : (i90 = 0) → ∀ Q' : am_Q, (∀ (m' : am_M), X G dp a b M5_readComparison 45 [some (rV (some r0)), some (rV (some r1)), some (iV (i2)), some (iV (i3))] [] m' Q → Q' (.inl none) m') → T G (dp - 1) 0 0 M6_needSign [rV (some r1), iV (61)] m Q') (k2 : ¬ (i90 = 0) → X G dp a b M5_readComparison 45 [some (rV (some r0)), some (rV (some r1)), some (iV (i2)), some (iV (8))] [] m Q)  : X G dp a b M5_readComparison 30 [some (rV (some r0)), some (rV (some r1)), some (iV (i2)), some (iV (i3))] [iV (i90)] m Q := by
  refine X_if_eq (tgt := 39) dX5_readComparison_30 (by decide) (fun c1 => ?_) (fun c1 => ?_)
  · refine X_aload_n dX5_readComparison_39 rfl rfl ?_
    refine Y_bipush dX5_readComparison_40 (by omega) ?_
    exact X_callV (As := [iV (61)]) (rest := []) (a' := 0) (b' := 0) dX5_readComparison_42 t6_needSign ml_5_85 h1 rfl rfl (Nat.le_of_ble_eq_true rfl) rfl hdp (Nat.zero_le _) (Nat.zero_le _) ((k1 c1) _ (fun m' h => h))
  · refine Y_bipush dX5_readComparison_33 (by omega) ?_
    refine X_istore_n dX5_readComparison_35 rfl (Nat.le_of_ble_eq_true rfl) ?_
    refine X_goto (tgt := 45) dX5_readComparison_36 (by decide) ?_
    exact (k2 c1)

theorem s5_readComparison_45 {G : am_G} {dp a b : Nat} {m : am_M} {Q : am_Q} {i2 i3 : Int} {r0 r1 : Nat} (hdp : 1 ≤ dp) (h1 : am_ob m r0 4) (k1 : ∀ Q' : am_Q, (∀ (m' : am_M), X G dp a b M5_readComparison 51 [some (rV (some r0)), some (rV (some r1)), some (iV (i2)), some (iV (i3))] [] m' Q → Q' (.inl none) m') → T G (dp - 1) 0 0 M5_readValue [rV (some r0), rV (some r1), iV (i2)] m Q')  : X G dp a b M5_readComparison 45 [some (rV (some r0)), some (rV (some r1)), some (iV (i2)), some (iV (i3))] [] m Q := by
  refine X_aload_n dX5_readComparison_45 rfl rfl ?_
  refine X_aload_n dX5_readComparison_46 rfl rfl ?_
  refine X_iload_n dX5_readComparison_47 rfl rfl ?_
  exact X_callV (As := [rV (some r1), iV (i2)]) (rest := []) (a' := 0) (b' := 0) dX5_readComparison_48 t5_readValue ml_5_89 h1 rfl rfl (Nat.le_of_ble_eq_true rfl) rfl hdp (Nat.zero_le _) (Nat.zero_le _) (k1 _ (fun m' h => h))

theorem s5_readComparison_51 {G : am_G} {dp a b : Nat} {m : am_M} {Q : am_Q} {i2 i3 : Int} {r0 r1 : Nat} (hdp : 1 ≤ dp) (h1 : am_ob m r0 4) (k1 : ∀ Q' : am_Q, (∀ (m' : am_M), X G dp a b M5_readComparison 57 [some (rV (some r0)), some (rV (some r1)), some (iV (i2)), some (iV (i3))] [] m' Q → Q' (.inl none) m') → T G (dp - 1) 0 0 M5_add [rV (some r0), iV (i3), iV (0)] m Q')  : X G dp a b M5_readComparison 51 [some (rV (some r0)), some (rV (some r1)), some (iV (i2)), some (iV (i3))] [] m Q := by
  refine X_aload_n dX5_readComparison_51 rfl rfl ?_
  refine X_iload_n dX5_readComparison_52 rfl rfl ?_
  refine Y_iconst dX5_readComparison_53 (by unfold i32; omega) ?_
  exact X_callV (As := [iV (i3), iV (0)]) (rest := []) (a' := 0) (b' := 0) dX5_readComparison_54 t5_add ml_5_60 h1 rfl rfl (Nat.le_of_ble_eq_true rfl) rfl hdp (Nat.zero_le _) (Nat.zero_le _) (k1 _ (fun m' h => h))

theorem s5_readComparison_57 {G : am_G} {dp a b : Nat} {m : am_M} {Q : am_Q} {i2 i3 : Int} {r0 r1 : Nat}  (k1 : Q (.inl none) m)  : X G dp a b M5_readComparison 57 [some (rV (some r0)), some (rV (some r1)), some (iV (i2)), some (iV (i3))] [] m Q := by
  exact X_vret dX5_readComparison_57 rfl k1

theorem s5_readValue_0 {G : am_G} {dp a b : Nat} {m : am_M} {Q : am_Q} {i2 : Int} {r0 r1 : Nat} (hdp : 1 ≤ dp) (h1 : am_ob m r1 5) (k1 : ∀ Q' : am_Q, (∀ (z : Int) (m' : am_M), X G dp a b M5_readValue 6 [some (rV (some r0)), some (rV (some r1)), some (iV (i2))] [iV (z)] m' Q → Q' (.inl (some (iV (z)))) m') → T G (dp - 1) 0 0 M6_skipWord [rV (some r1), sV (35)] m Q')  : X G dp a b M5_readValue 0 [some (rV (some r0)), some (rV (some r1)), some (iV (i2))] [] m Q := by
  refine X_aload_n dX5_readValue_0 rfl rfl ?_
  refine X_ldcS (j := 35) (tx := "blank") dX5_readValue_1 rfl ?_
  exact X_callV (As := [sV (35)]) (rest := []) (a' := 0) (b' := 0) dX5_readValue_3 t6_skipWord ml_5_33 h1 rfl rfl (Nat.le_of_ble_eq_true rfl) rfl hdp (Nat.zero_le _) (Nat.zero_le _) (k1 _ (fun z m' h => h))

theorem s5_readValue_6 {G : am_G} {dp a b : Nat} {m : am_M} {Q : am_Q} {i2 i90 : Int} {r0 r1 : Nat} (hdp : 1 ≤ dp) (h1 : am_ob m r1 5) (h2 : am_ob m r0 4) (k1 : (i90 = 0) → ∀ Q' : am_Q, (∀ (z : Int) (m' : am_M), X G dp a b M5_readValue 24 [some (rV (some r0)), some (rV (some r1)), some (iV (i2))] [iV (z)] m' Q → Q' (.inl (some (iV (z)))) m') → T G (dp - 1) 0 0 M6_skipWord [rV (some r1), sV (36)] m Q') (k2 : ¬ (i90 = 0) → ∀ Q' : am_Q, (∀ (m' : am_M), X G dp a b M5_readValue 15 [some (rV (some r0)), some (rV (some r1)), some (iV (i2))] [] m' Q → Q' (.inl none) m') → T G (dp - 1) 0 0 M5_add [rV (some r0), iV (0), iV ((-1))] m Q')  : X G dp a b M5_readValue 6 [some (rV (some r0)), some (rV (some r1)), some (iV (i2))] [iV (i90)] m Q := by
  refine X_if_eq (tgt := 18) dX5_readValue_6 (by decide) (fun c1 => ?_) (fun c1 => ?_)
  · refine X_aload_n dX5_readValue_18 rfl rfl ?_
    refine X_ldcS (j := 36) (tx := "off") dX5_readValue_19 rfl ?_
    exact X_callV (As := [sV (36)]) (rest := []) (a' := 0) (b' := 0) dX5_readValue_21 t6_skipWord ml_5_33 h1 rfl rfl (Nat.le_of_ble_eq_true rfl) rfl hdp (Nat.zero_le _) (Nat.zero_le _) ((k1 c1) _ (fun z m' h => h))
  · refine X_aload_n dX5_readValue_9 rfl rfl ?_
    refine Y_iconst dX5_readValue_10 (by unfold i32; omega) ?_
    refine Y_iconst dX5_readValue_11 (by unfold i32; omega) ?_
    exact X_callV (As := [iV (0), iV ((-1))]) (rest := []) (a' := 0) (b' := 0) dX5_readValue_12 t5_add ml_5_60 h2 rfl rfl (Nat.le_of_ble_eq_true rfl) rfl hdp (Nat.zero_le _) (Nat.zero_le _) ((k2 c1) _ (fun m' h => h))

theorem s5_readValue_15 {G : am_G} {dp a b : Nat} {m : am_M} {Q : am_Q} {i2 : Int} {r0 r1 : Nat}  (k1 : X G dp a b M5_readValue 169 [some (rV (some r0)), some (rV (some r1)), some (iV (i2))] [] m Q)  : X G dp a b M5_readValue 15 [some (rV (some r0)), some (rV (some r1)), some (iV (i2))] [] m Q := by
  refine X_goto (tgt := 169) dX5_readValue_15 (by decide) ?_
  exact k1

theorem s5_readValue_24 {G : am_G} {dp a b : Nat} {m : am_M} {Q : am_Q} {i2 i90 : Int} {r0 r1 : Nat} (hdp : 1 ≤ dp) (h1 : am_ob m r1 5) (h2 : am_ob m r0 4) (k1 : (i90 = 0) → ∀ Q' : am_Q, (∀ (z : Int) (m' : am_M), X G dp a b M5_readValue 43 [some (rV (some r0)), some (rV (some r1)), some (iV (i2))] [iV (z)] m' Q → Q' (.inl (some (iV (z)))) m') → T G (dp - 1) 0 0 M6_skipWord [rV (some r1), sV (37)] m Q') (k2 : ¬ (i90 = 0) → ∀ Q' : am_Q, (∀ (m' : am_M), X G dp a b M5_readValue 34 [some (rV (some r0)), some (rV (some r1)), some (iV (i2))] [] m' Q → Q' (.inl none) m') → T G (dp - 1) 0 0 M5_add [rV (some r0), iV (0), iV ((-2))] m Q')  : X G dp a b M5_readValue 24 [some (rV (some r0)), some (rV (some r1)), some (iV (i2))] [iV (i90)] m Q := by
  refine X_if_eq (tgt := 37) dX5_readValue_24 (by decide) (fun c1 => ?_) (fun c1 => ?_)
  · refine X_aload_n dX5_readValue_37 rfl rfl ?_
    refine X_ldcS (j := 37) (tx := "number") dX5_readValue_38 rfl ?_
    exact X_callV (As := [sV (37)]) (rest := []) (a' := 0) (b' := 0) dX5_readValue_40 t6_skipWord ml_5_33 h1 rfl rfl (Nat.le_of_ble_eq_true rfl) rfl hdp (Nat.zero_le _) (Nat.zero_le _) ((k1 c1) _ (fun z m' h => h))
  · refine X_aload_n dX5_readValue_27 rfl rfl ?_
    refine Y_iconst dX5_readValue_28 (by unfold i32; omega) ?_
    refine Y_bipush dX5_readValue_29 (by omega) ?_
    exact X_callV (As := [iV (0), iV ((-2))]) (rest := []) (a' := 0) (b' := 0) dX5_readValue_31 t5_add ml_5_60 h2 rfl rfl (Nat.le_of_ble_eq_true rfl) rfl hdp (Nat.zero_le _) (Nat.zero_le _) ((k2 c1) _ (fun m' h => h))

theorem s5_readValue_34 {G : am_G} {dp a b : Nat} {m : am_M} {Q : am_Q} {i2 : Int} {r0 r1 : Nat}  (k1 : X G dp a b M5_readValue 169 [some (rV (some r0)), some (rV (some r1)), some (iV (i2))] [] m Q)  : X G dp a b M5_readValue 34 [some (rV (some r0)), some (rV (some r1)), some (iV (i2))] [] m Q := by
  refine X_goto (tgt := 169) dX5_readValue_34 (by decide) ?_
  exact k1

theorem s5_readValue_43 {G : am_G} {dp a b : Nat} {m : am_M} {Q : am_Q} {i2 i90 : Int} {r0 r1 : Nat} (hdp : 1 ≤ dp) (h1 : am_ob m r1 5) (h2 : am_ob m r0 4) (k1 : (i90 = 0) → ∀ Q' : am_Q, (∀ (z : Int) (m' : am_M), X G dp a b M5_readValue 61 [some (rV (some r0)), some (rV (some r1)), some (iV (i2))] [iV (z)] m' Q → Q' (.inl (some (iV (z)))) m') → T G (dp - 1) 0 0 M6_skipWord [rV (some r1), sV (38)] m Q') (k2 : ¬ (i90 = 0) → ∀ Q' : am_Q, (∀ (m' : am_M), X G dp a b M5_readValue 52 [some (rV (some r0)), some (rV (some r1)), some (iV (i2))] [] m' Q → Q' (.inl none) m') → T G (dp - 1) 0 0 M5_add [rV (some r0), iV (1), iV (0)] m Q')  : X G dp a b M5_readValue 43 [some (rV (some r0)), some (rV (some r1)), some (iV (i2))] [iV (i90)] m Q := by
  refine X_if_eq (tgt := 55) dX5_readValue_43 (by decide) (fun c1 => ?_) (fun c1 => ?_)
  · refine X_aload_n dX5_readValue_55 rfl rfl ?_
    refine X_ldcS (j := 38) (tx := "times") dX5_readValue_56 rfl ?_
    exact X_callV (As := [sV (38)]) (rest := []) (a' := 0) (b' := 0) dX5_readValue_58 t6_skipWord ml_5_33 h1 rfl rfl (Nat.le_of_ble_eq_true rfl) rfl hdp (Nat.zero_le _) (Nat.zero_le _) ((k1 c1) _ (fun z m' h => h))
  · refine X_aload_n dX5_readValue_46 rfl rfl ?_
    refine Y_iconst dX5_readValue_47 (by unfold i32; omega) ?_
    refine Y_iconst dX5_readValue_48 (by unfold i32; omega) ?_
    exact X_callV (As := [iV (1), iV (0)]) (rest := []) (a' := 0) (b' := 0) dX5_readValue_49 t5_add ml_5_60 h2 rfl rfl (Nat.le_of_ble_eq_true rfl) rfl hdp (Nat.zero_le _) (Nat.zero_le _) ((k2 c1) _ (fun m' h => h))

theorem s5_readValue_52 {G : am_G} {dp a b : Nat} {m : am_M} {Q : am_Q} {i2 : Int} {r0 r1 : Nat}  (k1 : X G dp a b M5_readValue 169 [some (rV (some r0)), some (rV (some r1)), some (iV (i2))] [] m Q)  : X G dp a b M5_readValue 52 [some (rV (some r0)), some (rV (some r1)), some (iV (i2))] [] m Q := by
  refine X_goto (tgt := 169) dX5_readValue_52 (by decide) ?_
  exact k1

theorem s5_readValue_61 {G : am_G} {dp a b : Nat} {m : am_M} {Q : am_Q} {i2 i90 : Int} {r0 r1 : Nat} (hdp : 1 ≤ dp) (h1 : am_ob m r1 5) (h2 : am_ob m r0 4) (k1 : (i90 = 0) → ∀ Q' : am_Q, (∀ (z : Int) (m' : am_M), X G dp a b M5_readValue 79 [some (rV (some r0)), some (rV (some r1)), some (iV (i2))] [iV (z)] m' Q → Q' (.inl (some (iV (z)))) m') → T G (dp - 1) 0 0 M6_skipWord [rV (some r1), sV (39)] m Q') (k2 : ¬ (i90 = 0) → ∀ Q' : am_Q, (∀ (m' : am_M), X G dp a b M5_readValue 70 [some (rV (some r0)), some (rV (some r1)), some (iV (i2))] [] m' Q → Q' (.inl none) m') → T G (dp - 1) 0 0 M5_add [rV (some r0), iV (2), iV (0)] m Q')  : X G dp a b M5_readValue 61 [some (rV (some r0)), some (rV (some r1)), some (iV (i2))] [iV (i90)] m Q := by
  refine X_if_eq (tgt := 73) dX5_readValue_61 (by decide) (fun c1 => ?_) (fun c1 => ?_)
  · refine X_aload_n dX5_readValue_73 rfl rfl ?_
    refine X_ldcS (j := 39) (tx := "record") dX5_readValue_74 rfl ?_
    exact X_callV (As := [sV (39)]) (rest := []) (a' := 0) (b' := 0) dX5_readValue_76 t6_skipWord ml_5_33 h1 rfl rfl (Nat.le_of_ble_eq_true rfl) rfl hdp (Nat.zero_le _) (Nat.zero_le _) ((k1 c1) _ (fun z m' h => h))
  · refine X_aload_n dX5_readValue_64 rfl rfl ?_
    refine Y_iconst dX5_readValue_65 (by unfold i32; omega) ?_
    refine Y_iconst dX5_readValue_66 (by unfold i32; omega) ?_
    exact X_callV (As := [iV (2), iV (0)]) (rest := []) (a' := 0) (b' := 0) dX5_readValue_67 t5_add ml_5_60 h2 rfl rfl (Nat.le_of_ble_eq_true rfl) rfl hdp (Nat.zero_le _) (Nat.zero_le _) ((k2 c1) _ (fun m' h => h))

theorem s5_readValue_70 {G : am_G} {dp a b : Nat} {m : am_M} {Q : am_Q} {i2 : Int} {r0 r1 : Nat}  (k1 : X G dp a b M5_readValue 169 [some (rV (some r0)), some (rV (some r1)), some (iV (i2))] [] m Q)  : X G dp a b M5_readValue 70 [some (rV (some r0)), some (rV (some r1)), some (iV (i2))] [] m Q := by
  refine X_goto (tgt := 169) dX5_readValue_70 (by decide) ?_
  exact k1

theorem s5_readValue_79 {G : am_G} {dp a b : Nat} {m : am_M} {Q : am_Q} {i2 i90 : Int} {r0 r1 : Nat} (hdp : 1 ≤ dp) (h1 : am_ob m r1 5) (k1 : (i90 = 0) → ∀ Q' : am_Q, (∀ (z : Int) (m' : am_M), X G dp a b M5_readValue 106 [some (rV (some r0)), some (rV (some r1)), some (iV (i2))] [iV (z)] m' Q → Q' (.inl (some (iV (z)))) m') → T G (dp - 1) 0 0 M6_skipWord [rV (some r1), sV (40)] m Q') (k2 : ¬ (i90 = 0) → ∀ Q' : am_Q, (∀ (z : Int) (m' : am_M), X G dp a b M5_readValue 94 [some (rV (some r0)), some (rV (some r1)), some (iV (i2))] [iV (z), iV (3), rV (some r0)] m' Q → Q' (.inl (some (iV (z)))) m') → T G (dp - 1) 0 0 M6_needNumber [rV (some r1), iV (0), iV (wr (i2 - 1)), iV (100000000)] m Q')  : X G dp a b M5_readValue 79 [some (rV (some r0)), some (rV (some r1)), some (iV (i2))] [iV (i90)] m Q := by
  refine X_if_eq (tgt := 100) dX5_readValue_79 (by decide) (fun c1 => ?_) (fun c1 => ?_)
  · refine X_aload_n dX5_readValue_100 rfl rfl ?_
    refine X_ldcS (j := 40) (tx := "paper") dX5_readValue_101 rfl ?_
    exact X_callV (As := [sV (40)]) (rest := []) (a' := 0) (b' := 0) dX5_readValue_103 t6_skipWord ml_5_33 h1 rfl rfl (Nat.le_of_ble_eq_true rfl) rfl hdp (Nat.zero_le _) (Nat.zero_le _) ((k1 c1) _ (fun z m' h => h))
  · refine X_aload_n dX5_readValue_82 rfl rfl ?_
    refine Y_iconst dX5_readValue_83 (by unfold i32; omega) ?_
    refine X_aload_n dX5_readValue_84 rfl rfl ?_
    refine Y_iconst dX5_readValue_85 (by unfold i32; omega) ?_
    refine X_iload_n dX5_readValue_86 rfl rfl ?_
    refine Y_iconst dX5_readValue_87 (by unfold i32; omega) ?_
    refine X_isub dX5_readValue_88  ?_
    refine X_ldcI dX5_readValue_89 kc_5_105 (by unfold i32; omega) ?_
    exact X_callV (As := [iV (0), iV (wr (i2 - 1)), iV (100000000)]) (rest := [iV (3), rV (some r0)]) (a' := 0) (b' := 0) dX5_readValue_91 t6_needNumber ml_5_106 h1 rfl rfl (Nat.le_of_ble_eq_true rfl) rfl hdp (Nat.zero_le _) (Nat.zero_le _) ((k2 c1) _ (fun z m' h => h))

theorem s5_readValue_94 {G : am_G} {dp a b : Nat} {m : am_M} {Q : am_Q} {i2 i90 i91 : Int} {r0 r1 r92 : Nat} (hdp : 1 ≤ dp) (h1 : am_ob m r92 4) (k1 : ∀ Q' : am_Q, (∀ (m' : am_M), X G dp a b M5_readValue 97 [some (rV (some r0)), some (rV (some r1)), some (iV (i2))] [] m' Q → Q' (.inl none) m') → T G (dp - 1) 0 0 M5_add [rV (some r92), iV (i91), iV (i90)] m Q')  : X G dp a b M5_readValue 94 [some (rV (some r0)), some (rV (some r1)), some (iV (i2))] [iV (i90), iV (i91), rV (some r92)] m Q := by
  exact X_callV (As := [iV (i91), iV (i90)]) (rest := []) (a' := 0) (b' := 0) dX5_readValue_94 t5_add ml_5_60 h1 rfl rfl (Nat.le_of_ble_eq_true rfl) rfl hdp (Nat.zero_le _) (Nat.zero_le _) (k1 _ (fun m' h => h))

theorem s5_readValue_97 {G : am_G} {dp a b : Nat} {m : am_M} {Q : am_Q} {i2 : Int} {r0 r1 : Nat}  (k1 : X G dp a b M5_readValue 169 [some (rV (some r0)), some (rV (some r1)), some (iV (i2))] [] m Q)  : X G dp a b M5_readValue 97 [some (rV (some r0)), some (rV (some r1)), some (iV (i2))] [] m Q := by
  refine X_goto (tgt := 169) dX5_readValue_97 (by decide) ?_
  exact k1

theorem s5_readValue_106 {G : am_G} {dp a b : Nat} {m : am_M} {Q : am_Q} {i2 i90 : Int} {r0 r1 : Nat} (hdp : 1 ≤ dp) (h1 : am_ob m r1 5) (k1 : (i90 = 0) → ∀ Q' : am_Q, (∀ (z : Int) (m' : am_M), X G dp a b M5_readValue 133 [some (rV (some r0)), some (rV (some r1)), some (iV (i2))] [iV (z)] m' Q → Q' (.inl (some (iV (z)))) m') → T G (dp - 1) 0 0 M6_skipWord [rV (some r1), sV (41)] m Q') (k2 : ¬ (i90 = 0) → ∀ Q' : am_Q, (∀ (z : Int) (m' : am_M), X G dp a b M5_readValue 121 [some (rV (some r0)), some (rV (some r1)), some (iV (i2))] [iV (z), iV (4), rV (some r0)] m' Q → Q' (.inl (some (iV (z)))) m') → T G (dp - 1) 0 0 M6_needNumber [rV (some r1), iV (0), iV (wr (i2 - 1)), iV (100000000)] m Q')  : X G dp a b M5_readValue 106 [some (rV (some r0)), some (rV (some r1)), some (iV (i2))] [iV (i90)] m Q := by
  refine X_if_eq (tgt := 127) dX5_readValue_106 (by decide) (fun c1 => ?_) (fun c1 => ?_)
  · refine X_aload_n dX5_readValue_127 rfl rfl ?_
    refine X_ldcS (j := 41) (tx := "mistake") dX5_readValue_128 rfl ?_
    exact X_callV (As := [sV (41)]) (rest := []) (a' := 0) (b' := 0) dX5_readValue_130 t6_skipWord ml_5_33 h1 rfl rfl (Nat.le_of_ble_eq_true rfl) rfl hdp (Nat.zero_le _) (Nat.zero_le _) ((k1 c1) _ (fun z m' h => h))
  · refine X_aload_n dX5_readValue_109 rfl rfl ?_
    refine Y_iconst dX5_readValue_110 (by unfold i32; omega) ?_
    refine X_aload_n dX5_readValue_111 rfl rfl ?_
    refine Y_iconst dX5_readValue_112 (by unfold i32; omega) ?_
    refine X_iload_n dX5_readValue_113 rfl rfl ?_
    refine Y_iconst dX5_readValue_114 (by unfold i32; omega) ?_
    refine X_isub dX5_readValue_115  ?_
    refine X_ldcI dX5_readValue_116 kc_5_105 (by unfold i32; omega) ?_
    exact X_callV (As := [iV (0), iV (wr (i2 - 1)), iV (100000000)]) (rest := [iV (4), rV (some r0)]) (a' := 0) (b' := 0) dX5_readValue_118 t6_needNumber ml_5_106 h1 rfl rfl (Nat.le_of_ble_eq_true rfl) rfl hdp (Nat.zero_le _) (Nat.zero_le _) ((k2 c1) _ (fun z m' h => h))

theorem s5_readValue_121 {G : am_G} {dp a b : Nat} {m : am_M} {Q : am_Q} {i2 i90 i91 : Int} {r0 r1 r92 : Nat} (hdp : 1 ≤ dp) (h1 : am_ob m r92 4) (k1 : ∀ Q' : am_Q, (∀ (m' : am_M), X G dp a b M5_readValue 124 [some (rV (some r0)), some (rV (some r1)), some (iV (i2))] [] m' Q → Q' (.inl none) m') → T G (dp - 1) 0 0 M5_add [rV (some r92), iV (i91), iV (i90)] m Q')  : X G dp a b M5_readValue 121 [some (rV (some r0)), some (rV (some r1)), some (iV (i2))] [iV (i90), iV (i91), rV (some r92)] m Q := by
  exact X_callV (As := [iV (i91), iV (i90)]) (rest := []) (a' := 0) (b' := 0) dX5_readValue_121 t5_add ml_5_60 h1 rfl rfl (Nat.le_of_ble_eq_true rfl) rfl hdp (Nat.zero_le _) (Nat.zero_le _) (k1 _ (fun m' h => h))

theorem s5_readValue_124 {G : am_G} {dp a b : Nat} {m : am_M} {Q : am_Q} {i2 : Int} {r0 r1 : Nat}  (k1 : X G dp a b M5_readValue 169 [some (rV (some r0)), some (rV (some r1)), some (iV (i2))] [] m Q)  : X G dp a b M5_readValue 124 [some (rV (some r0)), some (rV (some r1)), some (iV (i2))] [] m Q := by
  refine X_goto (tgt := 169) dX5_readValue_124 (by decide) ?_
  exact k1

theorem s5_readValue_133 {G : am_G} {dp a b : Nat} {m : am_M} {Q : am_Q} {i2 i90 : Int} {r0 r1 : Nat} (hdp : 1 ≤ dp) (h1 : am_ob m r1 5) (k1 : (i90 = 0) → ∀ Q' : am_Q, (∀ (z : Int) (m' : am_M), X G dp a b M5_readValue 166 [some (rV (some r0)), some (rV (some r1)), some (iV (i2))] [iV (z), iV (0), rV (some r0)] m' Q → Q' (.inl (some (iV (z)))) m') → T G (dp - 1) 0 0 M6_needNumber [rV (some r1), iV (0), iV (9999), iV (100000000)] m Q') (k2 : ¬ (i90 = 0) → ∀ Q' : am_Q, (∀ (z : Int) (m' : am_M), X G dp a b M5_readValue 148 [some (rV (some r0)), some (rV (some r1)), some (iV (i2))] [iV (z), iV (5), rV (some r0)] m' Q → Q' (.inl (some (iV (z)))) m') → T G (dp - 1) 0 0 M6_needNumber [rV (some r1), iV (0), iV (wr (i2 - 1)), iV (100000000)] m Q')  : X G dp a b M5_readValue 133 [some (rV (some r0)), some (rV (some r1)), some (iV (i2))] [iV (i90)] m Q := by
  refine X_if_eq (tgt := 154) dX5_readValue_133 (by decide) (fun c1 => ?_) (fun c1 => ?_)
  · refine X_aload_n dX5_readValue_154 rfl rfl ?_
    refine Y_iconst dX5_readValue_155 (by unfold i32; omega) ?_
    refine X_aload_n dX5_readValue_156 rfl rfl ?_
    refine Y_iconst dX5_readValue_157 (by unfold i32; omega) ?_
    refine Y_sipush dX5_readValue_158 (by omega) ?_
    refine X_ldcI dX5_readValue_161 kc_5_105 (by unfold i32; omega) ?_
    exact X_callV (As := [iV (0), iV (9999), iV (100000000)]) (rest := [iV (0), rV (some r0)]) (a' := 0) (b' := 0) dX5_readValue_163 t6_needNumber ml_5_106 h1 rfl rfl (Nat.le_of_ble_eq_true rfl) rfl hdp (Nat.zero_le _) (Nat.zero_le _) ((k1 c1) _ (fun z m' h => h))
  · refine X_aload_n dX5_readValue_136 rfl rfl ?_
    refine Y_iconst dX5_readValue_137 (by unfold i32; omega) ?_
    refine X_aload_n dX5_readValue_138 rfl rfl ?_
    refine Y_iconst dX5_readValue_139 (by unfold i32; omega) ?_
    refine X_iload_n dX5_readValue_140 rfl rfl ?_
    refine Y_iconst dX5_readValue_141 (by unfold i32; omega) ?_
    refine X_isub dX5_readValue_142  ?_
    refine X_ldcI dX5_readValue_143 kc_5_105 (by unfold i32; omega) ?_
    exact X_callV (As := [iV (0), iV (wr (i2 - 1)), iV (100000000)]) (rest := [iV (5), rV (some r0)]) (a' := 0) (b' := 0) dX5_readValue_145 t6_needNumber ml_5_106 h1 rfl rfl (Nat.le_of_ble_eq_true rfl) rfl hdp (Nat.zero_le _) (Nat.zero_le _) ((k2 c1) _ (fun z m' h => h))

theorem s5_readValue_148 {G : am_G} {dp a b : Nat} {m : am_M} {Q : am_Q} {i2 i90 i91 : Int} {r0 r1 r92 : Nat} (hdp : 1 ≤ dp) (h1 : am_ob m r92 4) (k1 : ∀ Q' : am_Q, (∀ (m' : am_M), X G dp a b M5_readValue 151 [some (rV (some r0)), some (rV (some r1)), some (iV (i2))] [] m' Q → Q' (.inl none) m') → T G (dp - 1) 0 0 M5_add [rV (some r92), iV (i91), iV (i90)] m Q')  : X G dp a b M5_readValue 148 [some (rV (some r0)), some (rV (some r1)), some (iV (i2))] [iV (i90), iV (i91), rV (some r92)] m Q := by
  exact X_callV (As := [iV (i91), iV (i90)]) (rest := []) (a' := 0) (b' := 0) dX5_readValue_148 t5_add ml_5_60 h1 rfl rfl (Nat.le_of_ble_eq_true rfl) rfl hdp (Nat.zero_le _) (Nat.zero_le _) (k1 _ (fun m' h => h))

theorem s5_readValue_151 {G : am_G} {dp a b : Nat} {m : am_M} {Q : am_Q} {i2 : Int} {r0 r1 : Nat}  (k1 : X G dp a b M5_readValue 169 [some (rV (some r0)), some (rV (some r1)), some (iV (i2))] [] m Q)  : X G dp a b M5_readValue 151 [some (rV (some r0)), some (rV (some r1)), some (iV (i2))] [] m Q := by
  refine X_goto (tgt := 169) dX5_readValue_151 (by decide) ?_
  exact k1

theorem s5_readValue_166 {G : am_G} {dp a b : Nat} {m : am_M} {Q : am_Q} {i2 i90 i91 : Int} {r0 r1 r92 : Nat} (hdp : 1 ≤ dp) (h1 : am_ob m r92 4) (k1 : ∀ Q' : am_Q, (∀ (m' : am_M), X G dp a b M5_readValue 169 [some (rV (some r0)), some (rV (some r1)), some (iV (i2))] [] m' Q → Q' (.inl none) m') → T G (dp - 1) 0 0 M5_add [rV (some r92), iV (i91), iV (i90)] m Q')  : X G dp a b M5_readValue 166 [some (rV (some r0)), some (rV (some r1)), some (iV (i2))] [iV (i90), iV (i91), rV (some r92)] m Q := by
  exact X_callV (As := [iV (i91), iV (i90)]) (rest := []) (a' := 0) (b' := 0) dX5_readValue_166 t5_add ml_5_60 h1 rfl rfl (Nat.le_of_ble_eq_true rfl) rfl hdp (Nat.zero_le _) (Nat.zero_le _) (k1 _ (fun m' h => h))

theorem s5_readValue_169 {G : am_G} {dp a b : Nat} {m : am_M} {Q : am_Q} {i2 : Int} {r0 r1 : Nat}  (k1 : Q (.inl none) m)  : X G dp a b M5_readValue 169 [some (rV (some r0)), some (rV (some r1)), some (iV (i2))] [] m Q := by
  exact X_vret dX5_readValue_169 rfl k1

theorem s5_add_0 {G : am_G} {dp a b : Nat} {m : am_M} {Q : am_Q} {i1 i2 : Int} {r0 p1 p2 : Nat} {n_p1 n_p2 : Nat} (h2 : m.2.1 r0 0 = some p1) (h3 : am_arw m p1 100 n_p1) (h6 : m.2.1 r0 1 = some p2) (h7 : am_arw m p2 100 n_p2) (h10 : am_obw m r0 4) (k1 : (200 ≤ (m.1 r0 3)) → Q (.inl none) m) (k2 : ¬ (200 ≤ (m.1 r0 3)) → Q (.inl none) ((u2 (u2 (u2 m.1 p1 (m.1 r0 3).toNat (i1)) p2 ((u2 m.1 p1 (m.1 r0 3).toNat (i1)) r0 3).toNat (i2)) r0 3 (wr (((u2 (u2 m.1 p1 (m.1 r0 3).toNat (i1)) p2 ((u2 m.1 p1 (m.1 r0 3).toNat (i1)) r0 3).toNat (i2)) r0 3) + 1))), m.2.1, m.2.2)) (h4 : ¬ (200 ≤ (m.1 r0 3)) → 0 ≤ m.1 r0 3 := by intros; first | omega | (dsimp only at *; omega)) (h5 : ¬ (200 ≤ (m.1 r0 3)) → m.1 r0 3 < (n_p1 : Int) := by intros; first | omega | (dsimp only at *; omega)) (h8 : ¬ (200 ≤ (m.1 r0 3)) → 0 ≤ (u2 m.1 p1 (m.1 r0 3).toNat (i1)) r0 3 := by intros; first | omega | (dsimp only at *; omega)) (h9 : ¬ (200 ≤ (m.1 r0 3)) → (u2 m.1 p1 (m.1 r0 3).toNat (i1)) r0 3 < (n_p2 : Int) := by intros; first | omega | (dsimp only at *; omega)) : X G dp a b M5_add 0 [some (rV (some r0)), some (iV (i1)), some (iV (i2))] [] m Q := by
  refine X_aload_n dX5_add_0 rfl rfl ?_
  refine X_getI dX5_add_1 fl_5_21 (by decide) (am_ow h10) ?_
  refine Y_sipush dX5_add_4 (by omega) ?_
  refine X_icmp_ge (tgt := 40) dX5_add_7 (by decide) (fun c1 => ?_) (fun c1 => ?_)
  · exact X_vret dX5_add_40 rfl (k1 c1)
  · refine X_aload_n dX5_add_10 rfl rfl ?_
    refine X_getP dX5_add_11 fl_5_9 rfl (am_ow h10) ?_
    refine am_ptr h2 ?_
    refine X_aload_n dX5_add_14 rfl rfl ?_
    refine X_getI dX5_add_15 fl_5_21 (by decide) (am_ow h10) ?_
    refine X_iload_n dX5_add_18 rfl rfl ?_
    refine X_iast dX5_add_19 h3 (h4 c1) (h5 c1) ?_
    refine X_aload_n dX5_add_20 rfl rfl ?_
    refine X_getP dX5_add_21 fl_5_15 rfl (am_ow h10) ?_
    refine am_ptr h6 ?_
    refine X_aload_n dX5_add_24 rfl rfl ?_
    refine X_getI dX5_add_25 fl_5_21 (by decide) (am_ow h10) ?_
    refine X_iload_n dX5_add_28 rfl rfl ?_
    refine X_iast dX5_add_29 h7 (h8 c1) (h9 c1) ?_
    refine X_aload_n dX5_add_30 rfl rfl ?_
    refine X_dup dX5_add_31 rfl ?_
    refine X_getI dX5_add_32 fl_5_21 (by decide) (am_ow h10) ?_
    refine Y_iconst dX5_add_35 (by unfold i32; omega) ?_
    refine X_iadd dX5_add_36  ?_
    refine X_putI dX5_add_37 fw_5_21 rfl h10 ?_
    exact X_vret dX5_add_40 rfl (k2 c1)

theorem s5_answer_0 {G : am_G} {dp a b : Nat} {m : am_M} {Q : am_Q} {r0 r1 r2 : Nat} {o3 o4 : Option am_V}  (k1 : X G dp a b M5_answer 5 [some (rV (some r0)), some (rV (some r1)), some (rV (some r2)), some (iV (0)), some (iV (0))] [] m Q)  : X G dp a b M5_answer 0 [some (rV (some r0)), some (rV (some r1)), some (rV (some r2)), o3, o4] [] m Q := by
  refine Y_iconst dX5_answer_0 (by unfold i32; omega) ?_
  refine X_istore_n dX5_answer_1 rfl (Nat.le_of_ble_eq_true rfl) ?_
  refine Y_iconst dX5_answer_2 (by unfold i32; omega) ?_
  refine X_istore dX5_answer_3 (Nat.le_of_ble_eq_true rfl) ?_
  exact k1

theorem s5_answer_5 {G : am_G} {dp a b : Nat} {m : am_M} {Q : am_Q} {i3 i4 : Int} {r0 r1 r2 : Nat} (hdp : 1 ≤ dp) (h1 : am_ob m r1 3) (h2 : am_ob m r0 4) (k1 : ((m.1 r1 3) ≤ i4) → ¬ ((m.1 r0 5) = 1) → Q (.inl (some (iV (i3)))) m) (k2 : ((m.1 r1 3) ≤ i4) → ((m.1 r0 5) = 1) → Q (.inl (some (iV ((-1))))) m) (k3 : ¬ ((m.1 r1 3) ≤ i4) → (200 ≤ i4) → ¬ ((m.1 r0 5) = 1) → Q (.inl (some (iV (i3)))) m) (k4 : ¬ ((m.1 r1 3) ≤ i4) → (200 ≤ i4) → ((m.1 r0 5) = 1) → Q (.inl (some (iV ((-1))))) m) (k5 : ¬ ((m.1 r1 3) ≤ i4) → ¬ (200 ≤ i4) → ∀ Q' : am_Q, (∀ (z : Int) (m' : am_M), X G dp a b M5_answer 30 [some (rV (some r0)), some (rV (some r1)), some (rV (some r2)), some (iV (i3)), some (iV (i4))] [iV (z)] m' Q → Q' (.inl (some (iV (z)))) m') → T G (dp - 1) 0 0 M5_holds [rV (some r0), rV (some r1), rV (some r2), iV (i4)] m Q')  : X G dp a b M5_answer 5 [some (rV (some r0)), some (rV (some r1)), some (rV (some r2)), some (iV (i3)), some (iV (i4))] [] m Q := by
  refine X_iload dX5_answer_5 rfl ?_
  refine X_aload_n dX5_answer_7 rfl rfl ?_
  refine X_getI dX5_answer_8 fl_5_114 (by decide) h1 ?_
  refine X_icmp_ge (tgt := 71) dX5_answer_11 (by decide) (fun c1 => ?_) (fun c1 => ?_)
  · refine X_aload_n dX5_answer_71 rfl rfl ?_
    refine X_getI dX5_answer_72 fl_5_28 (by decide) h2 ?_
    refine Y_iconst dX5_answer_75 (by unfold i32; omega) ?_
    refine X_icmp_ne (tgt := 83) dX5_answer_76 (by decide) (fun c2 => ?_) (fun c2 => ?_)
    · refine X_iload_n dX5_answer_83 rfl rfl ?_
      exact X_iret dX5_answer_84 rfl (k1 c1 c2)
    · refine Y_iconst dX5_answer_79 (by unfold i32; omega) ?_
      refine X_goto (tgt := 84) dX5_answer_80 (by decide) ?_
      exact X_iret dX5_answer_84 rfl (k2 c1 c2)
  · refine X_iload dX5_answer_14 rfl ?_
    refine Y_sipush dX5_answer_16 (by omega) ?_
    refine X_icmp_ge (tgt := 71) dX5_answer_19 (by decide) (fun c3 => ?_) (fun c3 => ?_)
    · refine X_aload_n dX5_answer_71 rfl rfl ?_
      refine X_getI dX5_answer_72 fl_5_28 (by decide) h2 ?_
      refine Y_iconst dX5_answer_75 (by unfold i32; omega) ?_
      refine X_icmp_ne (tgt := 83) dX5_answer_76 (by decide) (fun c4 => ?_) (fun c4 => ?_)
      · refine X_iload_n dX5_answer_83 rfl rfl ?_
        exact X_iret dX5_answer_84 rfl (k3 c1 c3 c4)
      · refine Y_iconst dX5_answer_79 (by unfold i32; omega) ?_
        refine X_goto (tgt := 84) dX5_answer_80 (by decide) ?_
        exact X_iret dX5_answer_84 rfl (k4 c1 c3 c4)
    · refine X_aload_n dX5_answer_22 rfl rfl ?_
      refine X_aload_n dX5_answer_23 rfl rfl ?_
      refine X_aload_n dX5_answer_24 rfl rfl ?_
      refine X_iload dX5_answer_25 rfl ?_
      exact X_callV (As := [rV (some r1), rV (some r2), iV (i4)]) (rest := []) (a' := 0) (b' := 0) dX5_answer_27 t5_holds ml_5_119 h2 rfl rfl (Nat.le_of_ble_eq_true rfl) rfl hdp (Nat.zero_le _) (Nat.zero_le _) ((k5 c1 c3) _ (fun z m' h => h))

theorem s5_answer_30 {G : am_G} {dp a b : Nat} {m : am_M} {Q : am_Q} {i3 i4 i90 : Int} {r0 r1 r2 p1 : Nat} {n_p1 : Nat} (h1 : am_ob m r0 4) (h2 : am_ob m r2 1) (h3 : m.2.1 r2 4 = some p1) (h4 : am_ar m p1 100 n_p1) (k1 : (i90 = 0) → X G dp a b M5_answer 5 [some (rV (some r0)), some (rV (some r1)), some (rV (some r2)), some (iV (i3)), some (iV (wr (i4 + 1)))] [] m Q) (k2 : ¬ (i90 = 0) → ¬ ((m.1 r0 5) = 1) → ¬ ((m.1 r0 5) = 0) → X G dp a b M5_answer 5 [some (rV (some r0)), some (rV (some r1)), some (rV (some r2)), some (iV (wr (i3 + (m.1 p1 (i4).toNat)))), some (iV (wr (i4 + 1)))] [] m Q) (k3 : ¬ (i90 = 0) → ¬ ((m.1 r0 5) = 1) → ((m.1 r0 5) = 0) → X G dp a b M5_answer 5 [some (rV (some r0)), some (rV (some r1)), some (rV (some r2)), some (iV (wr (i3 + 1))), some (iV (wr (i4 + 1)))] [] m Q) (k4 : ¬ (i90 = 0) → ((m.1 r0 5) = 1) → Q (.inl (some (iV (i4)))) m) (h5 : ¬ (i90 = 0) → ¬ ((m.1 r0 5) = 1) → ¬ ((m.1 r0 5) = 0) → 0 ≤ i4 := by intros; first | omega | (dsimp only at *; omega)) (h6 : ¬ (i90 = 0) → ¬ ((m.1 r0 5) = 1) → ¬ ((m.1 r0 5) = 0) → i4 < (n_p1 : Int) := by intros; first | omega | (dsimp only at *; omega)) : X G dp a b M5_answer 30 [some (rV (some r0)), some (rV (some r1)), some (rV (some r2)), some (iV (i3)), some (iV (i4))] [iV (i90)] m Q := by
  refine X_if_eq (tgt := 65) dX5_answer_30 (by decide) (fun c1 => ?_) (fun c1 => ?_)
  · refine X_iinc dX5_answer_65 rfl ?_
    refine X_goto (tgt := 5) dX5_answer_68 (by decide) ?_
    exact (k1 c1)
  · refine X_aload_n dX5_answer_33 rfl rfl ?_
    refine X_getI dX5_answer_34 fl_5_28 (by decide) h1 ?_
    refine Y_iconst dX5_answer_37 (by unfold i32; omega) ?_
    refine X_icmp_ne (tgt := 44) dX5_answer_38 (by decide) (fun c2 => ?_) (fun c2 => ?_)
    · refine X_iload_n dX5_answer_44 rfl rfl ?_
      refine X_aload_n dX5_answer_45 rfl rfl ?_
      refine X_getI dX5_answer_46 fl_5_28 (by decide) h1 ?_
      refine X_if_ne (tgt := 56) dX5_answer_49 (by decide) (fun c3 => ?_) (fun c3 => ?_)
      · refine X_aload_n dX5_answer_56 rfl rfl ?_
        refine X_getP dX5_answer_57 fl_5_123 rfl h2 ?_
        refine am_ptr h3 ?_
        refine X_iload dX5_answer_60 rfl ?_
        refine X_iald dX5_answer_62 h4 (h5 c1 c2 c3) (h6 c1 c2 c3) ?_
        refine X_iadd dX5_answer_63  ?_
        refine X_istore_n dX5_answer_64 rfl (Nat.le_of_ble_eq_true rfl) ?_
        refine X_iinc dX5_answer_65 rfl ?_
        refine X_goto (tgt := 5) dX5_answer_68 (by decide) ?_
        exact (k2 c1 c2 c3)
      · refine Y_iconst dX5_answer_52 (by unfold i32; omega) ?_
        refine X_goto (tgt := 63) dX5_answer_53 (by decide) ?_
        refine X_iadd dX5_answer_63  ?_
        refine X_istore_n dX5_answer_64 rfl (Nat.le_of_ble_eq_true rfl) ?_
        refine X_iinc dX5_answer_65 rfl ?_
        refine X_goto (tgt := 5) dX5_answer_68 (by decide) ?_
        exact (k3 c1 c2 c3)
    · refine X_iload dX5_answer_41 rfl ?_
      exact X_iret dX5_answer_43 rfl (k4 c1 c2)

theorem s5_holds_0 {G : am_G} {dp a b : Nat} {m : am_M} {Q : am_Q} {i3 : Int} {r0 r1 r2 : Nat} {o4 o5 o6 : Option am_V} (h1 : am_obw m r0 4) (k1 : X G dp a b M5_holds 8 [some (rV (some r0)), some (rV (some r1)), some (rV (some r2)), some (iV (i3)), some (iV (0)), o5, o6] [] ((u2 m.1 r0 4 (0)), m.2.1, m.2.2) Q)  : X G dp a b M5_holds 0 [some (rV (some r0)), some (rV (some r1)), some (rV (some r2)), some (iV (i3)), o4, o5, o6] [] m Q := by
  refine X_aload_n dX5_holds_0 rfl rfl ?_
  refine Y_iconst dX5_holds_1 (by unfold i32; omega) ?_
  refine X_putI dX5_holds_2 fw_5_25 rfl h1 ?_
  refine Y_iconst dX5_holds_5 (by unfold i32; omega) ?_
  refine X_istore dX5_holds_6 (Nat.le_of_ble_eq_true rfl) ?_
  exact k1

theorem s5_holds_8 {G : am_G} {dp a b : Nat} {m : am_M} {Q : am_Q} {i3 i4 : Int} {r0 r1 r2 p1 p2 p3 : Nat} {o5 o6 : Option am_V} {n_p1 n_p2 n_p3 : Nat} (hdp : 1 ≤ dp) (h1 : am_ob m r0 4) (h2 : m.2.1 r0 0 = some p1) (h3 : am_ar m p1 100 n_p1) (h6 : m.2.1 r0 1 = some p2) (h7 : am_ar m p2 100 n_p2) (h9 : m.2.1 r0 1 = some p3) (h10 : am_ar m p3 100 n_p3) (k1 : ((m.1 r0 3) ≤ i4) → ∀ Q' : am_Q, (∀ (z : Int) (m' : am_M), X G dp a b M5_holds 147 [some (rV (some r0)), some (rV (some r1)), some (rV (some r2)), some (iV (i3)), some (iV (i4)), o5, o6] [iV (z)] m' Q → Q' (.inl (some (iV (z)))) m') → T G (dp - 1) 0 0 M5_pop [rV (some r0)] m Q') (k2 : ¬ ((m.1 r0 3) ≤ i4) → (200 ≤ i4) → ∀ Q' : am_Q, (∀ (z : Int) (m' : am_M), X G dp a b M5_holds 147 [some (rV (some r0)), some (rV (some r1)), some (rV (some r2)), some (iV (i3)), some (iV (i4)), o5, o6] [iV (z)] m' Q → Q' (.inl (some (iV (z)))) m') → T G (dp - 1) 0 0 M5_pop [rV (some r0)] m Q') (k3 : ¬ ((m.1 r0 3) ≤ i4) → ¬ (200 ≤ i4) → (2 < (m.1 p1 (i4).toNat)) → (5 < (m.1 p1 (i4).toNat)) → ¬ ((m.1 p1 (i4).toNat) = 9) → ∀ Q' : am_Q, (∀ (z : Int) (m' : am_M), X G dp a b M5_holds 112 [some (rV (some r0)), some (rV (some r1)), some (rV (some r2)), some (iV (i3)), some (iV (i4)), some (iV (m.1 p1 (i4).toNat)), o6] [iV (z)] m' Q → Q' (.inl (some (iV (z)))) m') → T G (dp - 1) 0 0 M5_pop [rV (some r0)] m Q') (k4 : ¬ ((m.1 r0 3) ≤ i4) → ¬ (200 ≤ i4) → (2 < (m.1 p1 (i4).toNat)) → (5 < (m.1 p1 (i4).toNat)) → ((m.1 p1 (i4).toNat) = 9) → ∀ Q' : am_Q, (∀ (z : Int) (m' : am_M), X G dp a b M5_holds 101 [some (rV (some r0)), some (rV (some r1)), some (rV (some r2)), some (iV (i3)), some (iV (i4)), some (iV (m.1 p1 (i4).toNat)), o6] [iV (z), iV (1), rV (some r0)] m' Q → Q' (.inl (some (iV (z)))) m') → T G (dp - 1) 0 0 M5_pop [rV (some r0)] m Q') (k5 : ¬ ((m.1 r0 3) ≤ i4) → ¬ (200 ≤ i4) → (2 < (m.1 p1 (i4).toNat)) → ¬ (5 < (m.1 p1 (i4).toNat)) → ∀ Q' : am_Q, (∀ (z : Int) (m' : am_M), X G dp a b M5_holds 82 [some (rV (some r0)), some (rV (some r1)), some (rV (some r2)), some (iV (i3)), some (iV (i4)), some (iV (m.1 p1 (i4).toNat)), o6] [iV (z), rV (some r0)] m' Q → Q' (.inl (some (iV (z)))) m') → T G (dp - 1) 0 0 M5_raceValue [iV (m.1 p1 (i4).toNat), iV (m.1 p2 (i4).toNat), rV (some r1), iV (i3)] m Q') (k6 : ¬ ((m.1 r0 3) ≤ i4) → ¬ (200 ≤ i4) → ¬ (2 < (m.1 p1 (i4).toNat)) → ∀ Q' : am_Q, (∀ (z : Int) (m' : am_M), X G dp a b M5_holds 55 [some (rV (some r0)), some (rV (some r1)), some (rV (some r2)), some (iV (i3)), some (iV (i4)), some (iV (m.1 p1 (i4).toNat)), o6] [iV (z), rV (some r0)] m' Q → Q' (.inl (some (iV (z)))) m') → T G (dp - 1) 0 0 M5_ballotValue [iV (m.1 p1 (i4).toNat), iV (m.1 p3 (i4).toNat), rV (some r2), iV (i3)] m Q') (h4 : ¬ ((m.1 r0 3) ≤ i4) → ¬ (200 ≤ i4) → 0 ≤ i4 := by intros; first | omega | (dsimp only at *; omega)) (h5 : ¬ ((m.1 r0 3) ≤ i4) → ¬ (200 ≤ i4) → i4 < (n_p1 : Int) := by intros; first | omega | (dsimp only at *; omega)) (h8 : ¬ ((m.1 r0 3) ≤ i4) → ¬ (200 ≤ i4) → 2 < (m.1 p1 (i4).toNat) → ¬ (5 < (m.1 p1 (i4).toNat)) → i4 < (n_p2 : Int) := by intros; first | omega | (dsimp only at *; omega)) (h11 : ¬ ((m.1 r0 3) ≤ i4) → ¬ (200 ≤ i4) → ¬ (2 < (m.1 p1 (i4).toNat)) → i4 < (n_p3 : Int) := by intros; first | omega | (dsimp only at *; omega)) : X G dp a b M5_holds 8 [some (rV (some r0)), some (rV (some r1)), some (rV (some r2)), some (iV (i3)), some (iV (i4)), o5, o6] [] m Q := by
  refine X_iload dX5_holds_8 rfl ?_
  refine X_aload_n dX5_holds_10 rfl rfl ?_
  refine X_getI dX5_holds_11 fl_5_21 (by decide) h1 ?_
  refine X_icmp_ge (tgt := 143) dX5_holds_14 (by decide) (fun c1 => ?_) (fun c1 => ?_)
  · refine X_aload_n dX5_holds_143 rfl rfl ?_
    exact X_callV (As := []) (rest := []) (a' := 0) (b' := 0) dX5_holds_144 t5_pop ml_5_139 h1 rfl rfl (Nat.le_of_ble_eq_true rfl) rfl hdp (Nat.zero_le _) (Nat.zero_le _) ((k1 c1) _ (fun z m' h => h))
  · refine X_iload dX5_holds_17 rfl ?_
    refine Y_sipush dX5_holds_19 (by omega) ?_
    refine X_icmp_ge (tgt := 143) dX5_holds_22 (by decide) (fun c2 => ?_) (fun c2 => ?_)
    · refine X_aload_n dX5_holds_143 rfl rfl ?_
      exact X_callV (As := []) (rest := []) (a' := 0) (b' := 0) dX5_holds_144 t5_pop ml_5_139 h1 rfl rfl (Nat.le_of_ble_eq_true rfl) rfl hdp (Nat.zero_le _) (Nat.zero_le _) ((k2 c1 c2) _ (fun z m' h => h))
    · refine X_aload_n dX5_holds_25 rfl rfl ?_
      refine X_getP dX5_holds_26 fl_5_9 rfl h1 ?_
      refine am_ptr h2 ?_
      refine X_iload dX5_holds_29 rfl ?_
      refine X_iald dX5_holds_31 h3 (h4 c1 c2) (h5 c1 c2) ?_
      refine X_istore dX5_holds_32 (Nat.le_of_ble_eq_true rfl) ?_
      refine X_iload dX5_holds_34 rfl ?_
      refine Y_iconst dX5_holds_36 (by unfold i32; omega) ?_
      refine X_icmp_gt (tgt := 61) dX5_holds_37 (by decide) (fun c3 => ?_) (fun c3 => ?_)
      · refine X_iload dX5_holds_61 rfl ?_
        refine Y_iconst dX5_holds_63 (by unfold i32; omega) ?_
        refine X_icmp_gt (tgt := 88) dX5_holds_64 (by decide) (fun c4 => ?_) (fun c4 => ?_)
        · refine X_iload dX5_holds_88 rfl ?_
          refine Y_bipush dX5_holds_90 (by omega) ?_
          refine X_icmp_ne (tgt := 108) dX5_holds_92 (by decide) (fun c5 => ?_) (fun c5 => ?_)
          · refine X_aload_n dX5_holds_108 rfl rfl ?_
            exact X_callV (As := []) (rest := []) (a' := 0) (b' := 0) dX5_holds_109 t5_pop ml_5_139 h1 rfl rfl (Nat.le_of_ble_eq_true rfl) rfl hdp (Nat.zero_le _) (Nat.zero_le _) ((k3 c1 c2 c3 c4 c5) _ (fun z m' h => h))
          · refine X_aload_n dX5_holds_95 rfl rfl ?_
            refine Y_iconst dX5_holds_96 (by unfold i32; omega) ?_
            refine X_aload_n dX5_holds_97 rfl rfl ?_
            exact X_callV (As := []) (rest := [iV (1), rV (some r0)]) (a' := 0) (b' := 0) dX5_holds_98 t5_pop ml_5_139 h1 rfl rfl (Nat.le_of_ble_eq_true rfl) rfl hdp (Nat.zero_le _) (Nat.zero_le _) ((k4 c1 c2 c3 c4 c5) _ (fun z m' h => h))
        · refine X_aload_n dX5_holds_67 rfl rfl ?_
          refine X_iload dX5_holds_68 rfl ?_
          refine X_aload_n dX5_holds_70 rfl rfl ?_
          refine X_getP dX5_holds_71 fl_5_15 rfl h1 ?_
          refine am_ptr h6 ?_
          refine X_iload dX5_holds_74 rfl ?_
          refine X_iald dX5_holds_76 h7 (h4 c1 c2) (h8 c1 c2 c3 c4) ?_
          refine X_aload_n dX5_holds_77 rfl rfl ?_
          refine X_iload_n dX5_holds_78 rfl rfl ?_
          exact X_callS (As := [iV (m.1 p1 (i4).toNat), iV (m.1 p2 (i4).toNat), rV (some r1), iV (i3)]) (rest := [rV (some r0)]) (a' := 0) (b' := 0) dX5_holds_79 t5_raceValue ml_5_135 rfl rfl (Nat.le_of_ble_eq_true rfl) rfl hdp (Nat.zero_le _) (Nat.zero_le _) ((k5 c1 c2 c3 c4) _ (fun z m' h => h))
      · refine X_aload_n dX5_holds_40 rfl rfl ?_
        refine X_iload dX5_holds_41 rfl ?_
        refine X_aload_n dX5_holds_43 rfl rfl ?_
        refine X_getP dX5_holds_44 fl_5_15 rfl h1 ?_
        refine am_ptr h9 ?_
        refine X_iload dX5_holds_47 rfl ?_
        refine X_iald dX5_holds_49 h10 (h4 c1 c2) (h11 c1 c2 c3) ?_
        refine X_aload_n dX5_holds_50 rfl rfl ?_
        refine X_iload_n dX5_holds_51 rfl rfl ?_
        exact X_callS (As := [iV (m.1 p1 (i4).toNat), iV (m.1 p3 (i4).toNat), rV (some r2), iV (i3)]) (rest := [rV (some r0)]) (a' := 0) (b' := 0) dX5_holds_52 t5_ballotValue ml_5_128 rfl rfl (Nat.le_of_ble_eq_true rfl) rfl hdp (Nat.zero_le _) (Nat.zero_le _) ((k6 c1 c2 c3) _ (fun z m' h => h))

theorem s5_holds_55 {G : am_G} {dp a b : Nat} {m : am_M} {Q : am_Q} {i3 i4 i5 i90 : Int} {r0 r1 r2 r91 : Nat} {o6 : Option am_V} (hdp : 1 ≤ dp) (h1 : am_ob m r91 4) (k1 : ∀ Q' : am_Q, (∀ (m' : am_M), X G dp a b M5_holds 58 [some (rV (some r0)), some (rV (some r1)), some (rV (some r2)), some (iV (i3)), some (iV (i4)), some (iV (i5)), o6] [] m' Q → Q' (.inl none) m') → T G (dp - 1) 0 0 M5_push [rV (some r91), iV (i90)] m Q')  : X G dp a b M5_holds 55 [some (rV (some r0)), some (rV (some r1)), some (rV (some r2)), some (iV (i3)), some (iV (i4)), some (iV (i5)), o6] [iV (i90), rV (some r91)] m Q := by
  exact X_callV (As := [iV (i90)]) (rest := []) (a' := 0) (b' := 0) dX5_holds_55 t5_push ml_5_132 h1 rfl rfl (Nat.le_of_ble_eq_true rfl) rfl hdp (Nat.zero_le _) (Nat.zero_le _) (k1 _ (fun m' h => h))

theorem s5_holds_58 {G : am_G} {dp a b : Nat} {m : am_M} {Q : am_Q} {i3 i4 i5 : Int} {r0 r1 r2 : Nat} {o6 : Option am_V}  (k1 : X G dp a b M5_holds 137 [some (rV (some r0)), some (rV (some r1)), some (rV (some r2)), some (iV (i3)), some (iV (i4)), some (iV (i5)), o6] [] m Q)  : X G dp a b M5_holds 58 [some (rV (some r0)), some (rV (some r1)), some (rV (some r2)), some (iV (i3)), some (iV (i4)), some (iV (i5)), o6] [] m Q := by
  refine X_goto (tgt := 137) dX5_holds_58 (by decide) ?_
  exact k1

theorem s5_holds_82 {G : am_G} {dp a b : Nat} {m : am_M} {Q : am_Q} {i3 i4 i5 i90 : Int} {r0 r1 r2 r91 : Nat} {o6 : Option am_V} (hdp : 1 ≤ dp) (h1 : am_ob m r91 4) (k1 : ∀ Q' : am_Q, (∀ (m' : am_M), X G dp a b M5_holds 85 [some (rV (some r0)), some (rV (some r1)), some (rV (some r2)), some (iV (i3)), some (iV (i4)), some (iV (i5)), o6] [] m' Q → Q' (.inl none) m') → T G (dp - 1) 0 0 M5_push [rV (some r91), iV (i90)] m Q')  : X G dp a b M5_holds 82 [some (rV (some r0)), some (rV (some r1)), some (rV (some r2)), some (iV (i3)), some (iV (i4)), some (iV (i5)), o6] [iV (i90), rV (some r91)] m Q := by
  exact X_callV (As := [iV (i90)]) (rest := []) (a' := 0) (b' := 0) dX5_holds_82 t5_push ml_5_132 h1 rfl rfl (Nat.le_of_ble_eq_true rfl) rfl hdp (Nat.zero_le _) (Nat.zero_le _) (k1 _ (fun m' h => h))

theorem s5_holds_85 {G : am_G} {dp a b : Nat} {m : am_M} {Q : am_Q} {i3 i4 i5 : Int} {r0 r1 r2 : Nat} {o6 : Option am_V}  (k1 : X G dp a b M5_holds 137 [some (rV (some r0)), some (rV (some r1)), some (rV (some r2)), some (iV (i3)), some (iV (i4)), some (iV (i5)), o6] [] m Q)  : X G dp a b M5_holds 85 [some (rV (some r0)), some (rV (some r1)), some (rV (some r2)), some (iV (i3)), some (iV (i4)), some (iV (i5)), o6] [] m Q := by
  refine X_goto (tgt := 137) dX5_holds_85 (by decide) ?_
  exact k1

theorem s5_holds_101 {G : am_G} {dp a b : Nat} {m : am_M} {Q : am_Q} {i3 i4 i5 i90 i91 : Int} {r0 r1 r2 r92 : Nat} {o6 : Option am_V} (hdp : 1 ≤ dp) (h1 : am_ob m r92 4) (k1 : ∀ Q' : am_Q, (∀ (m' : am_M), X G dp a b M5_holds 105 [some (rV (some r0)), some (rV (some r1)), some (rV (some r2)), some (iV (i3)), some (iV (i4)), some (iV (i5)), o6] [] m' Q → Q' (.inl none) m') → T G (dp - 1) 0 0 M5_push [rV (some r92), iV (wr (i91 - i90))] m Q')  : X G dp a b M5_holds 101 [some (rV (some r0)), some (rV (some r1)), some (rV (some r2)), some (iV (i3)), some (iV (i4)), some (iV (i5)), o6] [iV (i90), iV (i91), rV (some r92)] m Q := by
  refine X_isub dX5_holds_101  ?_
  exact X_callV (As := [iV (wr (i91 - i90))]) (rest := []) (a' := 0) (b' := 0) dX5_holds_102 t5_push ml_5_132 h1 rfl rfl (Nat.le_of_ble_eq_true rfl) rfl hdp (Nat.zero_le _) (Nat.zero_le _) (k1 _ (fun m' h => h))

theorem s5_holds_105 {G : am_G} {dp a b : Nat} {m : am_M} {Q : am_Q} {i3 i4 i5 : Int} {r0 r1 r2 : Nat} {o6 : Option am_V}  (k1 : X G dp a b M5_holds 137 [some (rV (some r0)), some (rV (some r1)), some (rV (some r2)), some (iV (i3)), some (iV (i4)), some (iV (i5)), o6] [] m Q)  : X G dp a b M5_holds 105 [some (rV (some r0)), some (rV (some r1)), some (rV (some r2)), some (iV (i3)), some (iV (i4)), some (iV (i5)), o6] [] m Q := by
  refine X_goto (tgt := 137) dX5_holds_105 (by decide) ?_
  exact k1

theorem s5_holds_112 {G : am_G} {dp a b : Nat} {m : am_M} {Q : am_Q} {i3 i4 i5 i90 : Int} {r0 r1 r2 : Nat} {o6 : Option am_V} (hdp : 1 ≤ dp) (h1 : am_ob m r0 4) (k1 : ∀ Q' : am_Q, (∀ (z : Int) (m' : am_M), X G dp a b M5_holds 121 [some (rV (some r0)), some (rV (some r1)), some (rV (some r2)), some (iV (i3)), some (iV (i4)), some (iV (i5)), some (iV (i90))] [iV (z), iV (i5), rV (some r0)] m' Q → Q' (.inl (some (iV (z)))) m') → T G (dp - 1) 0 0 M5_pop [rV (some r0)] m Q')  : X G dp a b M5_holds 112 [some (rV (some r0)), some (rV (some r1)), some (rV (some r2)), some (iV (i3)), some (iV (i4)), some (iV (i5)), o6] [iV (i90)] m Q := by
  refine X_istore dX5_holds_112 (Nat.le_of_ble_eq_true rfl) ?_
  refine X_aload_n dX5_holds_114 rfl rfl ?_
  refine X_iload dX5_holds_115 rfl ?_
  refine X_aload_n dX5_holds_117 rfl rfl ?_
  exact X_callV (As := []) (rest := [iV (i5), rV (some r0)]) (a' := 0) (b' := 0) dX5_holds_118 t5_pop ml_5_139 h1 rfl rfl (Nat.le_of_ble_eq_true rfl) rfl hdp (Nat.zero_le _) (Nat.zero_le _) (k1 _ (fun z m' h => h))

theorem s5_holds_121 {G : am_G} {dp a b : Nat} {m : am_M} {Q : am_Q} {i3 i4 i5 i6 i90 i91 : Int} {r0 r1 r2 r92 : Nat} (hdp : 1 ≤ dp)  (k1 : ∀ Q' : am_Q, (∀ (z : Int) (m' : am_M), X G dp a b M5_holds 126 [some (rV (some r0)), some (rV (some r1)), some (rV (some r2)), some (iV (i3)), some (iV (i4)), some (iV (i5)), some (iV (i6))] [iV (z), rV (some r92)] m' Q → Q' (.inl (some (iV (z)))) m') → T G (dp - 1) 0 0 M5_isSo [iV (i91), iV (i90), iV (i6)] m Q')  : X G dp a b M5_holds 121 [some (rV (some r0)), some (rV (some r1)), some (rV (some r2)), some (iV (i3)), some (iV (i4)), some (iV (i5)), some (iV (i6))] [iV (i90), iV (i91), rV (some r92)] m Q := by
  refine X_iload dX5_holds_121 rfl ?_
  exact X_callS (As := [iV (i91), iV (i90), iV (i6)]) (rest := [rV (some r92)]) (a' := 0) (b' := 0) dX5_holds_123 t5_isSo ml_5_143 rfl rfl (Nat.le_of_ble_eq_true rfl) rfl hdp (Nat.zero_le _) (Nat.zero_le _) (k1 _ (fun z m' h => h))

theorem s5_holds_126 {G : am_G} {dp a b : Nat} {m : am_M} {Q : am_Q} {i3 i4 i5 i6 i90 : Int} {r0 r1 r2 r91 : Nat} (hdp : 1 ≤ dp) (h1 : am_ob m r91 4) (k1 : (i90 = 0) → ∀ Q' : am_Q, (∀ (m' : am_M), X G dp a b M5_holds 137 [some (rV (some r0)), some (rV (some r1)), some (rV (some r2)), some (iV (i3)), some (iV (i4)), some (iV (i5)), some (iV (i6))] [] m' Q → Q' (.inl none) m') → T G (dp - 1) 0 0 M5_push [rV (some r91), iV (0)] m Q') (k2 : ¬ (i90 = 0) → ∀ Q' : am_Q, (∀ (m' : am_M), X G dp a b M5_holds 137 [some (rV (some r0)), some (rV (some r1)), some (rV (some r2)), some (iV (i3)), some (iV (i4)), some (iV (i5)), some (iV (i6))] [] m' Q → Q' (.inl none) m') → T G (dp - 1) 0 0 M5_push [rV (some r91), iV (1)] m Q')  : X G dp a b M5_holds 126 [some (rV (some r0)), some (rV (some r1)), some (rV (some r2)), some (iV (i3)), some (iV (i4)), some (iV (i5)), some (iV (i6))] [iV (i90), rV (some r91)] m Q := by
  refine X_if_eq (tgt := 133) dX5_holds_126 (by decide) (fun c1 => ?_) (fun c1 => ?_)
  · refine Y_iconst dX5_holds_133 (by unfold i32; omega) ?_
    exact X_callV (As := [iV (0)]) (rest := []) (a' := 0) (b' := 0) dX5_holds_134 t5_push ml_5_132 h1 rfl rfl (Nat.le_of_ble_eq_true rfl) rfl hdp (Nat.zero_le _) (Nat.zero_le _) ((k1 c1) _ (fun m' h => h))
  · refine Y_iconst dX5_holds_129 (by unfold i32; omega) ?_
    refine X_goto (tgt := 134) dX5_holds_130 (by decide) ?_
    exact X_callV (As := [iV (1)]) (rest := []) (a' := 0) (b' := 0) dX5_holds_134 t5_push ml_5_132 h1 rfl rfl (Nat.le_of_ble_eq_true rfl) rfl hdp (Nat.zero_le _) (Nat.zero_le _) ((k2 c1) _ (fun m' h => h))

theorem s5_holds_137 {G : am_G} {dp a b : Nat} {m : am_M} {Q : am_Q} {i3 i4 i5 : Int} {r0 r1 r2 : Nat} {o6 : Option am_V}  (k1 : X G dp a b M5_holds 8 [some (rV (some r0)), some (rV (some r1)), some (rV (some r2)), some (iV (i3)), some (iV (wr (i4 + 1))), some (iV (i5)), o6] [] m Q)  : X G dp a b M5_holds 137 [some (rV (some r0)), some (rV (some r1)), some (rV (some r2)), some (iV (i3)), some (iV (i4)), some (iV (i5)), o6] [] m Q := by
  refine X_iinc dX5_holds_137 rfl ?_
  refine X_goto (tgt := 8) dX5_holds_140 (by decide) ?_
  exact k1

theorem s5_holds_147 {G : am_G} {dp a b : Nat} {m : am_M} {Q : am_Q} {i3 i4 i90 : Int} {r0 r1 r2 : Nat} {o5 o6 : Option am_V}  (k1 : (i90 = 0) → Q (.inl (some (iV (0)))) m) (k2 : ¬ (i90 = 0) → Q (.inl (some (iV (1)))) m)  : X G dp a b M5_holds 147 [some (rV (some r0)), some (rV (some r1)), some (rV (some r2)), some (iV (i3)), some (iV (i4)), o5, o6] [iV (i90)] m Q := by
  refine X_if_eq (tgt := 154) dX5_holds_147 (by decide) (fun c1 => ?_) (fun c1 => ?_)
  · refine Y_iconst dX5_holds_154 (by unfold i32; omega) ?_
    exact X_zret dX5_holds_155 rfl (by decide) (k1 c1)
  · refine Y_iconst dX5_holds_150 (by unfold i32; omega) ?_
    refine X_goto (tgt := 155) dX5_holds_151 (by decide) ?_
    exact X_zret dX5_holds_155 rfl (by decide) (k2 c1)

theorem s5_ballotValue_0 {G : am_G} {dp a b : Nat} {m : am_M} {Q : am_Q} {i0 i1 i3 : Int} {r2 p1 : Nat} {n_p1 : Nat} (h1 : am_ob m r2 1) (h2 : m.2.1 r2 4 = some p1) (h3 : am_ar m p1 100 n_p1) (k1 : ¬ (i0 = 0) → ¬ (i0 = 1) → Q (.inl (some (iV (m.1 p1 (i3).toNat)))) m) (k2 : ¬ (i0 = 0) → (i0 = 1) → Q (.inl (some (iV (i3)))) m) (k3 : (i0 = 0) → Q (.inl (some (iV (i1)))) m) (h4 : ¬ (i0 = 0) → ¬ (i0 = 1) → 0 ≤ i3 := by intros; first | omega | (dsimp only at *; omega)) (h5 : ¬ (i0 = 0) → ¬ (i0 = 1) → i3 < (n_p1 : Int) := by intros; first | omega | (dsimp only at *; omega)) : X G dp a b M5_ballotValue 0 [some (iV (i0)), some (iV (i1)), some (rV (some r2)), some (iV (i3))] [] m Q := by
  refine X_iload_n dX5_ballotValue_0 rfl rfl ?_
  refine X_if_ne (tgt := 6) dX5_ballotValue_1 (by decide) (fun c1 => ?_) (fun c1 => ?_)
  · refine X_iload_n dX5_ballotValue_6 rfl rfl ?_
    refine Y_iconst dX5_ballotValue_7 (by unfold i32; omega) ?_
    refine X_icmp_ne (tgt := 15) dX5_ballotValue_8 (by decide) (fun c2 => ?_) (fun c2 => ?_)
    · refine X_aload_n dX5_ballotValue_15 rfl rfl ?_
      refine X_getP dX5_ballotValue_16 fl_5_123 rfl h1 ?_
      refine am_ptr h2 ?_
      refine X_iload_n dX5_ballotValue_19 rfl rfl ?_
      refine X_iald dX5_ballotValue_20 h3 (h4 c1 c2) (h5 c1 c2) ?_
      exact X_iret dX5_ballotValue_21 rfl (k1 c1 c2)
    · refine X_iload_n dX5_ballotValue_11 rfl rfl ?_
      refine X_goto (tgt := 21) dX5_ballotValue_12 (by decide) ?_
      exact X_iret dX5_ballotValue_21 rfl (k2 c1 c2)
  · refine X_iload_n dX5_ballotValue_4 rfl rfl ?_
    exact X_iret dX5_ballotValue_5 rfl (k3 c1)

theorem s5_raceValue_0 {G : am_G} {dp a b : Nat} {m : am_M} {Q : am_Q} {i0 i1 i3 : Int} {r2 p1 p2 p3 p4 p5 : Nat} {o4 : Option am_V} {t_p1 n_p1 n_p3 n_p4 n_p5 : Nat} (h1 : am_ob m r2 3) (h2 : m.2.1 r2 0 = some p1) (h3 : t_p1 = 103 ∨ t_p1 = 104) (h4 : am_ar m p1 t_p1 n_p1) (h7 : ¬ (i1 < 0) → i1 < 3 → m.2.1 p1 (i1).toNat = some p2) (h8 : ¬ (i1 < 0) → i1 < 3 → ¬ (i0 = 5) → ¬ (i0 = 3) → am_ob m p2 2) (h9 : ¬ (i1 < 0) → i1 < 3 → ¬ (i0 = 5) → ¬ (i0 = 3) → m.2.1 p2 1 = some p3) (h10 : ¬ (i1 < 0) → i1 < 3 → ¬ (i0 = 5) → ¬ (i0 = 3) → am_ar m p3 100 n_p3) (h13 : ¬ (i1 < 0) → i1 < 3 → ¬ (i0 = 5) → i0 = 3 → am_ob m p2 2) (h14 : ¬ (i1 < 0) → i1 < 3 → ¬ (i0 = 5) → i0 = 3 → m.2.1 p2 0 = some p4) (h15 : ¬ (i1 < 0) → i1 < 3 → ¬ (i0 = 5) → i0 = 3 → am_ar m p4 100 n_p4) (h18 : ¬ (i1 < 0) → i1 < 3 → i0 = 5 → am_ob m p2 2) (h19 : ¬ (i1 < 0) → i1 < 3 → i0 = 5 → m.2.1 p2 2 = some p5) (h20 : ¬ (i1 < 0) → i1 < 3 → i0 = 5 → am_ar m p5 100 n_p5) (k1 : (i1 < 0) → Q (.inl (some (iV (0)))) m) (k2 : ¬ (i1 < 0) → (i1 < 3) → ¬ (i0 = 5) → ¬ (i0 = 3) → Q (.inl (some (iV (m.1 p3 (i3).toNat)))) m) (k3 : ¬ (i1 < 0) → (i1 < 3) → ¬ (i0 = 5) → (i0 = 3) → Q (.inl (some (iV (m.1 p4 (i3).toNat)))) m) (k4 : ¬ (i1 < 0) → (i1 < 3) → (i0 = 5) → Q (.inl (some (iV (m.1 p5 (i3).toNat)))) m) (k5 : ¬ (i1 < 0) → ¬ (i1 < 3) → Q (.inl (some (iV (0)))) m) (h5 : ¬ (i1 < 0) → i1 < 3 → 0 ≤ i1 := by intros; first | omega | (dsimp only at *; omega)) (h6 : ¬ (i1 < 0) → i1 < 3 → i1 < (n_p1 : Int) := by intros; first | omega | (dsimp only at *; omega)) (h11 : ¬ (i1 < 0) → i1 < 3 → ¬ (i0 = 5) → ¬ (i0 = 3) → 0 ≤ i3 := by intros; first | omega | (dsimp only at *; omega)) (h12 : ¬ (i1 < 0) → i1 < 3 → ¬ (i0 = 5) → ¬ (i0 = 3) → i3 < (n_p3 : Int) := by intros; first | omega | (dsimp only at *; omega)) (h16 : ¬ (i1 < 0) → i1 < 3 → ¬ (i0 = 5) → i0 = 3 → 0 ≤ i3 := by intros; first | omega | (dsimp only at *; omega)) (h17 : ¬ (i1 < 0) → i1 < 3 → ¬ (i0 = 5) → i0 = 3 → i3 < (n_p4 : Int) := by intros; first | omega | (dsimp only at *; omega)) (h21 : ¬ (i1 < 0) → i1 < 3 → i0 = 5 → 0 ≤ i3 := by intros; first | omega | (dsimp only at *; omega)) (h22 : ¬ (i1 < 0) → i1 < 3 → i0 = 5 → i3 < (n_p5 : Int) := by intros; first | omega | (dsimp only at *; omega)) : X G dp a b M5_raceValue 0 [some (iV (i0)), some (iV (i1)), some (rV (some r2)), some (iV (i3)), o4] [] m Q := by
  refine X_iload_n dX5_raceValue_0 rfl rfl ?_
  refine X_if_lt (tgt := 9) dX5_raceValue_1 (by decide) (fun c1 => ?_) (fun c1 => ?_)
  · refine Y_iconst dX5_raceValue_9 (by unfold i32; omega) ?_
    exact X_iret dX5_raceValue_10 rfl (k1 c1)
  · refine X_iload_n dX5_raceValue_4 rfl rfl ?_
    refine Y_iconst dX5_raceValue_5 (by unfold i32; omega) ?_
    refine X_icmp_lt (tgt := 11) dX5_raceValue_6 (by decide) (fun c2 => ?_) (fun c2 => ?_)
    · refine X_aload_n dX5_raceValue_11 rfl rfl ?_
      refine X_getP dX5_raceValue_12 fl_5_147 rfl h1 ?_
      refine am_ptr h2 ?_
      refine X_iload_n dX5_raceValue_15 rfl rfl ?_
      refine X_aald dX5_raceValue_16 h3 h4 (h5 c1 c2) (h6 c1 c2) ?_
      refine am_ptr (h7 c1 c2) ?_
      refine X_astore dX5_raceValue_17 (Nat.le_of_ble_eq_true rfl) ?_
      refine X_iload_n dX5_raceValue_19 rfl rfl ?_
      refine Y_iconst dX5_raceValue_20 (by unfold i32; omega) ?_
      refine X_icmp_ne (tgt := 32) dX5_raceValue_21 (by decide) (fun c3 => ?_) (fun c3 => ?_)
      · refine X_iload_n dX5_raceValue_32 rfl rfl ?_
        refine Y_iconst dX5_raceValue_33 (by unfold i32; omega) ?_
        refine X_icmp_ne (tgt := 47) dX5_raceValue_34 (by decide) (fun c4 => ?_) (fun c4 => ?_)
        · refine X_aload dX5_raceValue_47 rfl ?_
          refine X_getP dX5_raceValue_49 fl_5_159 rfl (h8 c1 c2 c3 c4) ?_
          refine am_ptr (h9 c1 c2 c3 c4) ?_
          refine X_iload_n dX5_raceValue_52 rfl rfl ?_
          refine X_iald dX5_raceValue_53 (h10 c1 c2 c3 c4) (h11 c1 c2 c3 c4) (h12 c1 c2 c3 c4) ?_
          exact X_iret dX5_raceValue_54 rfl (k2 c1 c2 c3 c4)
        · refine X_aload dX5_raceValue_37 rfl ?_
          refine X_getP dX5_raceValue_39 fl_5_156 rfl (h13 c1 c2 c3 c4) ?_
          refine am_ptr (h14 c1 c2 c3 c4) ?_
          refine X_iload_n dX5_raceValue_42 rfl rfl ?_
          refine X_iald dX5_raceValue_43 (h15 c1 c2 c3 c4) (h16 c1 c2 c3 c4) (h17 c1 c2 c3 c4) ?_
          refine X_goto (tgt := 54) dX5_raceValue_44 (by decide) ?_
          exact X_iret dX5_raceValue_54 rfl (k3 c1 c2 c3 c4)
      · refine X_aload dX5_raceValue_24 rfl ?_
        refine X_getP dX5_raceValue_26 fl_5_151 rfl (h18 c1 c2 c3) ?_
        refine am_ptr (h19 c1 c2 c3) ?_
        refine X_iload_n dX5_raceValue_29 rfl rfl ?_
        refine X_iald dX5_raceValue_30 (h20 c1 c2 c3) (h21 c1 c2 c3) (h22 c1 c2 c3) ?_
        exact X_iret dX5_raceValue_31 rfl (k4 c1 c2 c3)
    · refine Y_iconst dX5_raceValue_9 (by unfold i32; omega) ?_
      exact X_iret dX5_raceValue_10 rfl (k5 c1 c2)

theorem s5_isSo_0 {G : am_G} {dp a b : Nat} {m : am_M} {Q : am_Q} {i0 i1 i2 : Int}  (k1 : (i0 = 6) → (i2 ≤ i1) → Q (.inl (some (iV (0)))) m) (k2 : (i0 = 6) → ¬ (i2 ≤ i1) → Q (.inl (some (iV (1)))) m) (k3 : (i0 = 7) → ¬ (i1 = i2) → Q (.inl (some (iV (0)))) m) (k4 : (i0 = 7) → (i1 = i2) → Q (.inl (some (iV (1)))) m) (k5 : (i0 = 8) → (i1 ≤ i2) → Q (.inl (some (iV (0)))) m) (k6 : (i0 = 8) → ¬ (i1 ≤ i2) → Q (.inl (some (iV (1)))) m) (k7 : (i0 = 9) → ¬ (i1 = 0) → Q (.inl (some (iV (1)))) m) (k8 : (i0 = 9) → (i1 = 0) → (i2 = 0) → Q (.inl (some (iV (0)))) m) (k9 : (i0 = 9) → (i1 = 0) → ¬ (i2 = 0) → Q (.inl (some (iV (1)))) m) (k10 : (i0 = 10) → (i1 = 0) → Q (.inl (some (iV (0)))) m) (k11 : (i0 = 10) → ¬ (i1 = 0) → (i2 = 0) → Q (.inl (some (iV (0)))) m) (k12 : (i0 = 10) → ¬ (i1 = 0) → ¬ (i2 = 0) → Q (.inl (some (iV (1)))) m) (k13 : ¬ (i0 = 6) → ¬ (i0 = 7) → ¬ (i0 = 8) → ¬ (i0 = 9) → ¬ (i0 = 10) → ¬ (i1 = 0) → Q (.inl (some (iV (1)))) m) (k14 : ¬ (i0 = 6) → ¬ (i0 = 7) → ¬ (i0 = 8) → ¬ (i0 = 9) → ¬ (i0 = 10) → (i1 = 0) → (i2 = 0) → Q (.inl (some (iV (0)))) m) (k15 : ¬ (i0 = 6) → ¬ (i0 = 7) → ¬ (i0 = 8) → ¬ (i0 = 9) → ¬ (i0 = 10) → (i1 = 0) → ¬ (i2 = 0) → Q (.inl (some (iV (1)))) m)  : X G dp a b M5_isSo 0 [some (iV (i0)), some (iV (i1)), some (iV (i2))] [] m Q := by
  refine X_iload_n dX5_isSo_0 rfl rfl ?_
  by_cases c1 : i0 = 6
  · refine X_tableIn (tgt := 36) dX5_isSo_1 (by rw [c1]; decide) (by rw [c1]; decide) (by rw [c1]; rfl) (by decide) ?_
    refine X_iload_n dX5_isSo_36 rfl rfl ?_
    refine X_iload_n dX5_isSo_37 rfl rfl ?_
    refine X_icmp_ge (tgt := 45) dX5_isSo_38 (by decide) (fun c2 => ?_) (fun c2 => ?_)
    · refine Y_iconst dX5_isSo_45 (by unfold i32; omega) ?_
      exact X_zret dX5_isSo_46 rfl (by decide) (k1 c1 c2)
    · refine Y_iconst dX5_isSo_41 (by unfold i32; omega) ?_
      refine X_goto (tgt := 46) dX5_isSo_42 (by decide) ?_
      exact X_zret dX5_isSo_46 rfl (by decide) (k2 c1 c2)
  by_cases c3 : i0 = 7
  · refine X_tableIn (tgt := 47) dX5_isSo_1 (by rw [c3]; decide) (by rw [c3]; decide) (by rw [c3]; rfl) (by decide) ?_
    refine X_iload_n dX5_isSo_47 rfl rfl ?_
    refine X_iload_n dX5_isSo_48 rfl rfl ?_
    refine X_icmp_ne (tgt := 56) dX5_isSo_49 (by decide) (fun c4 => ?_) (fun c4 => ?_)
    · refine Y_iconst dX5_isSo_56 (by unfold i32; omega) ?_
      exact X_zret dX5_isSo_57 rfl (by decide) (k3 c3 c4)
    · refine Y_iconst dX5_isSo_52 (by unfold i32; omega) ?_
      refine X_goto (tgt := 57) dX5_isSo_53 (by decide) ?_
      exact X_zret dX5_isSo_57 rfl (by decide) (k4 c3 c4)
  by_cases c5 : i0 = 8
  · refine X_tableIn (tgt := 58) dX5_isSo_1 (by rw [c5]; decide) (by rw [c5]; decide) (by rw [c5]; rfl) (by decide) ?_
    refine X_iload_n dX5_isSo_58 rfl rfl ?_
    refine X_iload_n dX5_isSo_59 rfl rfl ?_
    refine X_icmp_le (tgt := 67) dX5_isSo_60 (by decide) (fun c6 => ?_) (fun c6 => ?_)
    · refine Y_iconst dX5_isSo_67 (by unfold i32; omega) ?_
      exact X_zret dX5_isSo_68 rfl (by decide) (k5 c5 c6)
    · refine Y_iconst dX5_isSo_63 (by unfold i32; omega) ?_
      refine X_goto (tgt := 68) dX5_isSo_64 (by decide) ?_
      exact X_zret dX5_isSo_68 rfl (by decide) (k6 c5 c6)
  by_cases c7 : i0 = 9
  · refine X_tableIn (tgt := 83) dX5_isSo_1 (by rw [c7]; decide) (by rw [c7]; decide) (by rw [c7]; rfl) (by decide) ?_
    refine X_iload_n dX5_isSo_83 rfl rfl ?_
    refine X_if_ne (tgt := 91) dX5_isSo_84 (by decide) (fun c8 => ?_) (fun c8 => ?_)
    · refine Y_iconst dX5_isSo_91 (by unfold i32; omega) ?_
      refine X_goto (tgt := 96) dX5_isSo_92 (by decide) ?_
      exact X_zret dX5_isSo_96 rfl (by decide) (k7 c7 c8)
    · refine X_iload_n dX5_isSo_87 rfl rfl ?_
      refine X_if_eq (tgt := 95) dX5_isSo_88 (by decide) (fun c9 => ?_) (fun c9 => ?_)
      · refine Y_iconst dX5_isSo_95 (by unfold i32; omega) ?_
        exact X_zret dX5_isSo_96 rfl (by decide) (k8 c7 c8 c9)
      · refine Y_iconst dX5_isSo_91 (by unfold i32; omega) ?_
        refine X_goto (tgt := 96) dX5_isSo_92 (by decide) ?_
        exact X_zret dX5_isSo_96 rfl (by decide) (k9 c7 c8 c9)
  by_cases c10 : i0 = 10
  · refine X_tableIn (tgt := 69) dX5_isSo_1 (by rw [c10]; decide) (by rw [c10]; decide) (by rw [c10]; rfl) (by decide) ?_
    refine X_iload_n dX5_isSo_69 rfl rfl ?_
    refine X_if_eq (tgt := 81) dX5_isSo_70 (by decide) (fun c11 => ?_) (fun c11 => ?_)
    · refine Y_iconst dX5_isSo_81 (by unfold i32; omega) ?_
      exact X_zret dX5_isSo_82 rfl (by decide) (k10 c10 c11)
    · refine X_iload_n dX5_isSo_73 rfl rfl ?_
      refine X_if_eq (tgt := 81) dX5_isSo_74 (by decide) (fun c12 => ?_) (fun c12 => ?_)
      · refine Y_iconst dX5_isSo_81 (by unfold i32; omega) ?_
        exact X_zret dX5_isSo_82 rfl (by decide) (k11 c10 c11 c12)
      · refine Y_iconst dX5_isSo_77 (by unfold i32; omega) ?_
        refine X_goto (tgt := 82) dX5_isSo_78 (by decide) ?_
        exact X_zret dX5_isSo_82 rfl (by decide) (k12 c10 c11 c12)
  refine X_tableOut (tgt := 83) dX5_isSo_1 (by omega) (by decide) ?_
  refine X_iload_n dX5_isSo_83 rfl rfl ?_
  refine X_if_ne (tgt := 91) dX5_isSo_84 (by decide) (fun c14 => ?_) (fun c14 => ?_)
  · refine Y_iconst dX5_isSo_91 (by unfold i32; omega) ?_
    refine X_goto (tgt := 96) dX5_isSo_92 (by decide) ?_
    exact X_zret dX5_isSo_96 rfl (by decide) (k13 c1 c3 c5 c7 c10 c14)
  · refine X_iload_n dX5_isSo_87 rfl rfl ?_
    refine X_if_eq (tgt := 95) dX5_isSo_88 (by decide) (fun c15 => ?_) (fun c15 => ?_)
    · refine Y_iconst dX5_isSo_95 (by unfold i32; omega) ?_
      exact X_zret dX5_isSo_96 rfl (by decide) (k14 c1 c3 c5 c7 c10 c14 c15)
    · refine Y_iconst dX5_isSo_91 (by unfold i32; omega) ?_
      refine X_goto (tgt := 96) dX5_isSo_92 (by decide) ?_
      exact X_zret dX5_isSo_96 rfl (by decide) (k15 c1 c3 c5 c7 c10 c14 c15)

theorem s5_push_0 {G : am_G} {dp a b : Nat} {m : am_M} {Q : am_Q} {i1 : Int} {r0 p1 : Nat} {n_p1 : Nat} (h2 : m.2.1 r0 2 = some p1) (h5 : am_arw m p1 100 n_p1) (h8 : am_obw m r0 4) (k1 : ((n_p1 : Int) ≤ (m.1 r0 4)) → Q (.inl none) m) (k2 : ¬ ((n_p1 : Int) ≤ (m.1 r0 4)) → Q (.inl none) ((u2 (u2 m.1 p1 (m.1 r0 4).toNat (i1)) r0 4 (wr (((u2 m.1 p1 (m.1 r0 4).toNat (i1)) r0 4) + 1))), m.2.1, m.2.2)) (h6 : ¬ ((n_p1 : Int) ≤ (m.1 r0 4)) → 0 ≤ m.1 r0 4 := by intros; first | omega | (dsimp only at *; omega)) (h7 : ¬ ((n_p1 : Int) ≤ (m.1 r0 4)) → m.1 r0 4 < (n_p1 : Int) := by intros; first | omega | (dsimp only at *; omega)) : X G dp a b M5_push 0 [some (rV (some r0)), some (iV (i1))] [] m Q := by
  refine X_aload_n dX5_push_0 rfl rfl ?_
  refine X_getI dX5_push_1 fl_5_25 (by decide) (am_ow h8) ?_
  refine X_aload_n dX5_push_4 rfl rfl ?_
  refine X_getP dX5_push_5 fl_5_18 rfl (am_ow h8) ?_
  refine am_ptr h2 ?_
  refine X_alen dX5_push_8 (by decide) (am_rw h5) ?_
  refine X_icmp_ge (tgt := 32) dX5_push_9 (by decide) (fun c1 => ?_) (fun c1 => ?_)
  · exact X_vret dX5_push_32 rfl (k1 c1)
  · refine X_aload_n dX5_push_12 rfl rfl ?_
    refine X_getP dX5_push_13 fl_5_18 rfl (am_ow h8) ?_
    refine am_ptr h2 ?_
    refine X_aload_n dX5_push_16 rfl rfl ?_
    refine X_getI dX5_push_17 fl_5_25 (by decide) (am_ow h8) ?_
    refine X_iload_n dX5_push_20 rfl rfl ?_
    refine X_iast dX5_push_21 h5 (h6 c1) (h7 c1) ?_
    refine X_aload_n dX5_push_22 rfl rfl ?_
    refine X_dup dX5_push_23 rfl ?_
    refine X_getI dX5_push_24 fl_5_25 (by decide) (am_ow h8) ?_
    refine Y_iconst dX5_push_27 (by unfold i32; omega) ?_
    refine X_iadd dX5_push_28  ?_
    refine X_putI dX5_push_29 fw_5_25 rfl h8 ?_
    exact X_vret dX5_push_32 rfl (k2 c1)

theorem s5_pop_0 {G : am_G} {dp a b : Nat} {m : am_M} {Q : am_Q} {r0 p1 : Nat} {n_p1 : Nat} (h2 : am_obw m r0 4) (h3 : m.2.1 r0 2 = some p1) (h4 : am_ar m p1 100 n_p1) (k1 : (0 < (m.1 r0 4)) → Q (.inl (some (iV ((u2 m.1 r0 4 (wr ((m.1 r0 4) - 1))) p1 ((u2 m.1 r0 4 (wr ((m.1 r0 4) - 1))) r0 4).toNat)))) ((u2 m.1 r0 4 (wr ((m.1 r0 4) - 1))), m.2.1, m.2.2)) (k2 : ¬ (0 < (m.1 r0 4)) → Q (.inl (some (iV (0)))) m) (h5 : 0 < (m.1 r0 4) → 0 ≤ (u2 m.1 r0 4 (wr ((m.1 r0 4) - 1))) r0 4 := by intros; first | omega | (dsimp only at *; omega)) (h6 : 0 < (m.1 r0 4) → (u2 m.1 r0 4 (wr ((m.1 r0 4) - 1))) r0 4 < (n_p1 : Int) := by intros; first | omega | (dsimp only at *; omega)) : X G dp a b M5_pop 0 [some (rV (some r0))] [] m Q := by
  refine X_aload_n dX5_pop_0 rfl rfl ?_
  refine X_getI dX5_pop_1 fl_5_25 (by decide) (am_ow h2) ?_
  refine X_if_gt (tgt := 9) dX5_pop_4 (by decide) (fun c1 => ?_) (fun c1 => ?_)
  · refine X_aload_n dX5_pop_9 rfl rfl ?_
    refine X_dup dX5_pop_10 rfl ?_
    refine X_getI dX5_pop_11 fl_5_25 (by decide) (am_ow h2) ?_
    refine Y_iconst dX5_pop_14 (by unfold i32; omega) ?_
    refine X_isub dX5_pop_15  ?_
    refine X_putI dX5_pop_16 fw_5_25 rfl h2 ?_
    refine X_aload_n dX5_pop_19 rfl rfl ?_
    refine X_getP dX5_pop_20 fl_5_18 rfl (am_ow h2) ?_
    refine am_ptr h3 ?_
    refine X_aload_n dX5_pop_23 rfl rfl ?_
    refine X_getI dX5_pop_24 fl_5_25 (by decide) (am_ow h2) ?_
    refine X_iald dX5_pop_27 h4 (h5 c1) (h6 c1) ?_
    exact X_iret dX5_pop_28 rfl (k1 c1)
  · refine Y_iconst dX5_pop_7 (by unfold i32; omega) ?_
    exact X_iret dX5_pop_8 rfl (k2 c1)

