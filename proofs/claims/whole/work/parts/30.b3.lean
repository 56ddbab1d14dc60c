/-! BLOCKS, by program: X3_* -/
theorem b3_empty_0 {G : am_G} {dp a b : Nat} {m : am_M} {Q : am_Q} {r0 p1 p2 p3 : Nat} {n_p1 n_p2 n_p3 : Nat} (h1 : am_obw m r0 3) (h2 : am_ob m r0 3) (h3 : ((am_wI (am_wI (am_wI (am_wI m r0 2 (0)) r0 3 (0)) r0 4 (0)) r0 5 (0))).2.1 r0 1 = some p1) (h4 : am_arw m p1 100 n_p1) (h5 : 0 < (n_p1 : Int)) (h6 : ((am_wI (am_wI (am_wI (am_wI (am_wI m r0 2 (0)) r0 3 (0)) r0 4 (0)) r0 5 (0)) p1 ((0 : Int)).toNat (50))).2.1 r0 1 = some p2) (h7 : am_arw m p2 100 n_p2) (h8 : 1 < (n_p2 : Int)) (h9 : ((am_wI (am_wI (am_wI (am_wI (am_wI (am_wI m r0 2 (0)) r0 3 (0)) r0 4 (0)) r0 5 (0)) p1 ((0 : Int)).toNat (50)) p2 ((1 : Int)).toNat (110))).2.1 r0 1 = some p3) (h10 : am_arw m p3 100 n_p3) (h11 : 2 < (n_p3 : Int)) (k : Q (.inl none) (am_wI (am_wI (am_wI (am_wI (am_wI (am_wI (am_wI m r0 2 (0)) r0 3 (0)) r0 4 (0)) r0 5 (0)) p1 ((0 : Int)).toNat (50)) p2 ((1 : Int)).toNat (110)) p3 ((2 : Int)).toNat (100))) : X G dp a b M3_empty 0 [some (rV (some r0))] [] m Q := by
  refine X_aload_n dX3_empty_0 rfl rfl ?_
  refine Y_iconst dX3_empty_1 (by unfold i32; omega) ?_
  refine X_putI dX3_empty_2 fw_3_21 rfl h1 ?_
  refine X_aload_n dX3_empty_5 rfl rfl ?_
  refine Y_iconst dX3_empty_6 (by unfold i32; omega) ?_
  refine X_putI dX3_empty_7 fw_3_25 rfl h1 ?_
  refine X_aload_n dX3_empty_10 rfl rfl ?_
  refine Y_iconst dX3_empty_11 (by unfold i32; omega) ?_
  refine X_putI dX3_empty_12 fw_3_28 rfl h1 ?_
  refine X_aload_n dX3_empty_15 rfl rfl ?_
  refine Y_iconst dX3_empty_16 (by unfold i32; omega) ?_
  refine X_putI dX3_empty_17 fw_3_31 rfl h1 ?_
  refine X_aload_n dX3_empty_20 rfl rfl ?_
  refine X_getP dX3_empty_21 fl_3_17 rfl h2 ?_
  rw [h3]
  refine Y_iconst dX3_empty_24 (by unfold i32; omega) ?_
  refine Y_bipush dX3_empty_25 (by omega) ?_
  refine X_iast dX3_empty_27 h4 (by decide) h5 ?_
  refine X_aload_n dX3_empty_28 rfl rfl ?_
  refine X_getP dX3_empty_29 fl_3_17 rfl h2 ?_
  rw [h6]
  refine Y_iconst dX3_empty_32 (by unfold i32; omega) ?_
  refine Y_bipush dX3_empty_33 (by omega) ?_
  refine X_iast dX3_empty_35 h7 (by decide) h8 ?_
  refine X_aload_n dX3_empty_36 rfl rfl ?_
  refine X_getP dX3_empty_37 fl_3_17 rfl h2 ?_
  rw [h9]
  refine Y_iconst dX3_empty_40 (by unfold i32; omega) ?_
  refine Y_bipush dX3_empty_41 (by omega) ?_
  refine X_iast dX3_empty_43 h10 (by decide) h11 ?_
  exact X_vret dX3_empty_44 rfl k

theorem b3_reckonAll_0 {G : am_G} {dp a b : Nat} {m : am_M} {Q : am_Q} {r0 : Nat} {o1 : Option am_V}  (k : X G dp a b M3_reckonAll 2 [some (rV (some r0)), some (iV (0))] [] m Q) : X G dp a b M3_reckonAll 0 [some (rV (some r0)), o1] [] m Q := by
  refine Y_iconst dX3_reckonAll_0 (by unfold i32; omega) ?_
  refine X_istore_n dX3_reckonAll_1 rfl (Nat.le_of_ble_eq_true rfl) ?_
  exact k

theorem b3_reckonAll_2 {G : am_G} {dp a b : Nat} {m : am_M} {Q : am_Q} {i1 : Int} {r0 : Nat} (h1 : am_ob m r0 3) (kt : (m.1 r0 2) ≤ i1 → X G dp a b M3_reckonAll 34 [some (rV (some r0)), some (iV (i1))] [] m Q) (kf : ¬ ((m.1 r0 2) ≤ i1) → X G dp a b M3_reckonAll 10 [some (rV (some r0)), some (iV (i1))] [] m Q) : X G dp a b M3_reckonAll 2 [some (rV (some r0)), some (iV (i1))] [] m Q := by
  refine X_iload_n dX3_reckonAll_2 rfl rfl ?_
  refine X_aload_n dX3_reckonAll_3 rfl rfl ?_
  refine X_getI dX3_reckonAll_4 fl_3_21 (by decide) h1 ?_
  exact X_icmp_ge (tgt := 34) dX3_reckonAll_7 (by decide) kt kf

theorem b3_reckonAll_10 {G : am_G} {dp a b : Nat} {m : am_M} {Q : am_Q} {i1 : Int} {r0 : Nat}  (kt : 3 ≤ i1 → X G dp a b M3_reckonAll 34 [some (rV (some r0)), some (iV (i1))] [] m Q) (kf : ¬ (3 ≤ i1) → X G dp a b M3_reckonAll 15 [some (rV (some r0)), some (iV (i1))] [] m Q) : X G dp a b M3_reckonAll 10 [some (rV (some r0)), some (iV (i1))] [] m Q := by
  refine X_iload_n dX3_reckonAll_10 rfl rfl ?_
  refine Y_iconst dX3_reckonAll_11 (by unfold i32; omega) ?_
  exact X_icmp_ge (tgt := 34) dX3_reckonAll_12 (by decide) kt kf

theorem b3_reckonAll_15 {G : am_G} {dp a b : Nat} {m : am_M} {Q : am_Q} {i1 : Int} {r0 p1 p2 : Nat} {t_p1 n_p1 : Nat} (h1 : am_ob m r0 3) (h2 : m.2.1 r0 0 = some p1) (h3 : t_p1 = 103 ∨ t_p1 = 104) (h4 : am_ar m p1 t_p1 n_p1) (h5 : 0 ≤ i1) (h6 : i1 < (n_p1 : Int)) (h7 : m.2.1 p1 (i1).toNat = some p2) (h8 : am_ob m p2 2) (hdp : 1 ≤ dp) (k : ∀ Q' : am_Q, (∀ (m' : am_M), X G dp a b M3_reckonAll 28 [some (rV (some r0)), some (iV (i1))] [] m' Q → Q' (.inl none) m') → T G (dp - 1) 0 0 M2_reckon [rV (some p2), iV (m.1 r0 3)] m Q') : X G dp a b M3_reckonAll 15 [some (rV (some r0)), some (iV (i1))] [] m Q := by
  refine X_aload_n dX3_reckonAll_15 rfl rfl ?_
  refine X_getP dX3_reckonAll_16 fl_3_11 rfl h1 ?_
  rw [h2]
  refine X_iload_n dX3_reckonAll_19 rfl rfl ?_
  refine X_aald dX3_reckonAll_20 h3 h4 h5 h6 ?_
  rw [h7]
  refine X_aload_n dX3_reckonAll_21 rfl rfl ?_
  refine X_getI dX3_reckonAll_22 fl_3_25 (by decide) h1 ?_
  exact X_callV (As := [iV (m.1 r0 3)]) (rest := []) (a' := 0) (b' := 0) dX3_reckonAll_25 t2_reckon ml_3_48 h8 rfl rfl (Nat.le_of_ble_eq_true rfl) rfl hdp (Nat.zero_le _) (Nat.zero_le _) (k _ (fun m' h => h))

theorem b3_reckonAll_28 {G : am_G} {dp a b : Nat} {m : am_M} {Q : am_Q} {i1 : Int} {r0 : Nat}  (k : X G dp a b M3_reckonAll 2 [some (rV (some r0)), some (iV (wr (i1 + 1)))] [] m Q) : X G dp a b M3_reckonAll 28 [some (rV (some r0)), some (iV (i1))] [] m Q := by
  refine X_iinc dX3_reckonAll_28 rfl ?_
  refine X_goto (tgt := 2) dX3_reckonAll_31 (by decide) ?_
  exact k

theorem b3_reckonAll_34 {G : am_G} {dp a b : Nat} {m : am_M} {Q : am_Q} {i1 : Int} {r0 : Nat}  (k : Q (.inl none) m) : X G dp a b M3_reckonAll 34 [some (rV (some r0)), some (iV (i1))] [] m Q := by
  exact X_vret dX3_reckonAll_34 rfl k

theorem b3_goal_0 {G : am_G} {dp a b : Nat} {m : am_M} {Q : am_Q} {r0 p1 : Nat} {n_p1 : Nat} (h1 : am_ob m r0 3) (h2 : m.2.1 r0 1 = some p1) (h3 : am_ar m p1 100 n_p1) (h4 : 0 < (n_p1 : Int)) (k : Q (.inl (some (lV (wrl ((m.1 p1 ((0 : Int)).toNat) * 1000000))))) m) : X G dp a b M3_goal 0 [some (rV (some r0))] [] m Q := by
  refine X_aload_n dX3_goal_0 rfl rfl ?_
  refine X_getP dX3_goal_1 fl_3_17 rfl h1 ?_
  rw [h2]
  refine Y_iconst dX3_goal_4 (by unfold i32; omega) ?_
  refine X_iald dX3_goal_5 h3 (by decide) h4 ?_
  refine X_i2l dX3_goal_6 ?_
  refine X_ldc2 dX3_goal_7 kc_3_52 (by unfold i64; omega) ?_
  refine X_lmul dX3_goal_10  ?_
  exact X_lret dX3_goal_11 rfl k

theorem b3_show_0 {G : am_G} {dp a b : Nat} {m : am_M} {Q : am_Q} {i1 i2 i3 : Int} {r0 : Nat}  (kt : i1 < 0 → X G dp a b M3_show 49 [some (rV (some r0)), some (iV (i1)), some (iV (i2)), some (iV (i3))] [] m Q) (kf : ¬ (i1 < 0) → X G dp a b M3_show 4 [some (rV (some r0)), some (iV (i1)), some (iV (i2)), some (iV (i3))] [] m Q) : X G dp a b M3_show 0 [some (rV (some r0)), some (iV (i1)), some (iV (i2)), some (iV (i3))] [] m Q := by
  refine X_iload_n dX3_show_0 rfl rfl ?_
  exact X_if_lt (tgt := 49) dX3_show_1 (by decide) kt kf

theorem b3_show_4 {G : am_G} {dp a b : Nat} {m : am_M} {Q : am_Q} {i1 i2 i3 : Int} {r0 : Nat} (h1 : am_ob m r0 3) (kt : (m.1 r0 2) ≤ i1 → X G dp a b M3_show 49 [some (rV (some r0)), some (iV (i1)), some (iV (i2)), some (iV (i3))] [] m Q) (kf : ¬ ((m.1 r0 2) ≤ i1) → X G dp a b M3_show 12 [some (rV (some r0)), some (iV (i1)), some (iV (i2)), some (iV (i3))] [] m Q) : X G dp a b M3_show 4 [some (rV (some r0)), some (iV (i1)), some (iV (i2)), some (iV (i3))] [] m Q := by
  refine X_iload_n dX3_show_4 rfl rfl ?_
  refine X_aload_n dX3_show_5 rfl rfl ?_
  refine X_getI dX3_show_6 fl_3_21 (by decide) h1 ?_
  exact X_icmp_ge (tgt := 49) dX3_show_9 (by decide) kt kf

theorem b3_show_12 {G : am_G} {dp a b : Nat} {m : am_M} {Q : am_Q} {i1 i2 i3 : Int} {r0 : Nat}  (kt : i2 < 0 → X G dp a b M3_show 49 [some (rV (some r0)), some (iV (i1)), some (iV (i2)), some (iV (i3))] [] m Q) (kf : ¬ (i2 < 0) → X G dp a b M3_show 16 [some (rV (some r0)), some (iV (i1)), some (iV (i2)), some (iV (i3))] [] m Q) : X G dp a b M3_show 12 [some (rV (some r0)), some (iV (i1)), some (iV (i2)), some (iV (i3))] [] m Q := by
  refine X_iload_n dX3_show_12 rfl rfl ?_
  exact X_if_lt (tgt := 49) dX3_show_13 (by decide) kt kf

theorem b3_show_16 {G : am_G} {dp a b : Nat} {m : am_M} {Q : am_Q} {i1 i2 i3 : Int} {r0 : Nat} (h1 : am_ob m r0 3) (kt : (m.1 r0 3) ≤ i2 → X G dp a b M3_show 49 [some (rV (some r0)), some (iV (i1)), some (iV (i2)), some (iV (i3))] [] m Q) (kf : ¬ ((m.1 r0 3) ≤ i2) → X G dp a b M3_show 24 [some (rV (some r0)), some (iV (i1)), some (iV (i2)), some (iV (i3))] [] m Q) : X G dp a b M3_show 16 [some (rV (some r0)), some (iV (i1)), some (iV (i2)), some (iV (i3))] [] m Q := by
  refine X_iload_n dX3_show_16 rfl rfl ?_
  refine X_aload_n dX3_show_17 rfl rfl ?_
  refine X_getI dX3_show_18 fl_3_25 (by decide) h1 ?_
  exact X_icmp_ge (tgt := 49) dX3_show_21 (by decide) kt kf

theorem b3_show_24 {G : am_G} {dp a b : Nat} {m : am_M} {Q : am_Q} {i1 i2 i3 : Int} {r0 p1 p2 p3 p4 p5 : Nat} {t_p1 n_p1 n_p3 t_p4 n_p4 : Nat} (h1 : am_ob m r0 3) (h2 : m.2.1 r0 0 = some p1) (h3 : t_p1 = 103 ∨ t_p1 = 104) (h4 : am_ar m p1 t_p1 n_p1) (h5 : 0 ≤ i1) (h6 : i1 < (n_p1 : Int)) (h7 : m.2.1 p1 (i1).toNat = some p2) (h8 : am_ob m p2 2) (h9 : m.2.1 p2 1 = some p3) (h10 : am_arw m p3 100 n_p3) (h11 : 0 ≤ i2) (h12 : i2 < (n_p3 : Int)) (h13 : ((am_wI m p3 (i2).toNat (i3))).2.1 r0 0 = some p4) (h14 : t_p4 = 103 ∨ t_p4 = 104) (h15 : am_ar m p4 t_p4 n_p4) (h16 : i1 < (n_p4 : Int)) (h17 : (am_wI m p3 (i2).toNat (i3)).2.1 p4 (i1).toNat = some p5) (h18 : am_ob m p5 2) (hdp : 1 ≤ dp) (k : ∀ Q' : am_Q, (∀ (m' : am_M), X G dp a b M3_show 49 [some (rV (some r0)), some (iV (i1)), some (iV (i2)), some (iV (i3))] [] m' Q → Q' (.inl none) m') → T G (dp - 1) 0 0 M2_reckon [rV (some p5), iV (((am_wI m p3 (i2).toNat (i3))).1 r0 3)] (am_wI m p3 (i2).toNat (i3)) Q') : X G dp a b M3_show 24 [some (rV (some r0)), some (iV (i1)), some (iV (i2)), some (iV (i3))] [] m Q := by
  refine X_aload_n dX3_show_24 rfl rfl ?_
  refine X_getP dX3_show_25 fl_3_11 rfl h1 ?_
  rw [h2]
  refine X_iload_n dX3_show_28 rfl rfl ?_
  refine X_aald dX3_show_29 h3 h4 h5 h6 ?_
  rw [h7]
  refine X_getP dX3_show_30 fl_3_54 rfl h8 ?_
  rw [h9]
  refine X_iload_n dX3_show_33 rfl rfl ?_
  refine X_iload_n dX3_show_34 rfl rfl ?_
  refine X_iast dX3_show_35 h10 h11 h12 ?_
  refine X_aload_n dX3_show_36 rfl rfl ?_
  refine X_getP dX3_show_37 fl_3_11 rfl h1 ?_
  rw [h13]
  refine X_iload_n dX3_show_40 rfl rfl ?_
  refine X_aald dX3_show_41 h14 h15 h5 h16 ?_
  rw [h17]
  refine X_aload_n dX3_show_42 rfl rfl ?_
  refine X_getI dX3_show_43 fl_3_25 (by decide) h1 ?_
  exact X_callV (As := [iV (((am_wI m p3 (i2).toNat (i3))).1 r0 3)]) (rest := []) (a' := 0) (b' := 0) dX3_show_46 t2_reckon ml_3_48 h18 rfl rfl (Nat.le_of_ble_eq_true rfl) rfl hdp (Nat.zero_le _) (Nat.zero_le _) (k _ (fun m' h => h))

theorem b3_show_49 {G : am_G} {dp a b : Nat} {m : am_M} {Q : am_Q} {i1 i2 i3 : Int} {r0 : Nat}  (k : Q (.inl none) m) : X G dp a b M3_show 49 [some (rV (some r0)), some (iV (i1)), some (iV (i2)), some (iV (i3))] [] m Q := by
  exact X_vret dX3_show_49 rfl k

theorem b3_setMethod_0 {G : am_G} {dp a b : Nat} {m : am_M} {Q : am_Q} {i1 i2 : Int} {r0 : Nat}  (kt : i1 < 0 → X G dp a b M3_setMethod 22 [some (rV (some r0)), some (iV (i1)), some (iV (i2))] [] m Q) (kf : ¬ (i1 < 0) → X G dp a b M3_setMethod 4 [some (rV (some r0)), some (iV (i1)), some (iV (i2))] [] m Q) : X G dp a b M3_setMethod 0 [some (rV (some r0)), some (iV (i1)), some (iV (i2))] [] m Q := by
  refine X_iload_n dX3_setMethod_0 rfl rfl ?_
  exact X_if_lt (tgt := 22) dX3_setMethod_1 (by decide) kt kf

theorem b3_setMethod_4 {G : am_G} {dp a b : Nat} {m : am_M} {Q : am_Q} {i1 i2 : Int} {r0 : Nat} (h1 : am_ob m r0 3) (kt : (m.1 r0 2) ≤ i1 → X G dp a b M3_setMethod 22 [some (rV (some r0)), some (iV (i1)), some (iV (i2))] [] m Q) (kf : ¬ ((m.1 r0 2) ≤ i1) → X G dp a b M3_setMethod 12 [some (rV (some r0)), some (iV (i1)), some (iV (i2))] [] m Q) : X G dp a b M3_setMethod 4 [some (rV (some r0)), some (iV (i1)), some (iV (i2))] [] m Q := by
  refine X_iload_n dX3_setMethod_4 rfl rfl ?_
  refine X_aload_n dX3_setMethod_5 rfl rfl ?_
  refine X_getI dX3_setMethod_6 fl_3_21 (by decide) h1 ?_
  exact X_icmp_ge (tgt := 22) dX3_setMethod_9 (by decide) kt kf

theorem b3_setMethod_12 {G : am_G} {dp a b : Nat} {m : am_M} {Q : am_Q} {i1 i2 : Int} {r0 p1 p2 : Nat} {t_p1 n_p1 : Nat} (h1 : am_ob m r0 3) (h2 : m.2.1 r0 0 = some p1) (h3 : t_p1 = 103 ∨ t_p1 = 104) (h4 : am_ar m p1 t_p1 n_p1) (h5 : 0 ≤ i1) (h6 : i1 < (n_p1 : Int)) (h7 : m.2.1 p1 (i1).toNat = some p2) (h8 : am_obw m p2 2) (k : X G dp a b M3_setMethod 22 [some (rV (some r0)), some (iV (i1)), some (iV (i2))] [] (am_wI m p2 6 (i2)) Q) : X G dp a b M3_setMethod 12 [some (rV (some r0)), some (iV (i1)), some (iV (i2))] [] m Q := by
  refine X_aload_n dX3_setMethod_12 rfl rfl ?_
  refine X_getP dX3_setMethod_13 fl_3_11 rfl h1 ?_
  rw [h2]
  refine X_iload_n dX3_setMethod_16 rfl rfl ?_
  refine X_aald dX3_setMethod_17 h3 h4 h5 h6 ?_
  rw [h7]
  refine X_iload_n dX3_setMethod_18 rfl rfl ?_
  refine X_putI dX3_setMethod_19 fw_3_57 rfl h8 ?_
  exact k

theorem b3_setMethod_22 {G : am_G} {dp a b : Nat} {m : am_M} {Q : am_Q} {i1 i2 : Int} {r0 : Nat}  (k : Q (.inl none) m) : X G dp a b M3_setMethod 22 [some (rV (some r0)), some (iV (i1)), some (iV (i2))] [] m Q := by
  exact X_vret dX3_setMethod_22 rfl k

theorem b3_setRule_0 {G : am_G} {dp a b : Nat} {m : am_M} {Q : am_Q} {i1 i2 : Int} {r0 : Nat}  (kt : i1 < 0 → X G dp a b M3_setRule 20 [some (rV (some r0)), some (iV (i1)), some (iV (i2))] [] m Q) (kf : ¬ (i1 < 0) → X G dp a b M3_setRule 4 [some (rV (some r0)), some (iV (i1)), some (iV (i2))] [] m Q) : X G dp a b M3_setRule 0 [some (rV (some r0)), some (iV (i1)), some (iV (i2))] [] m Q := by
  refine X_iload_n dX3_setRule_0 rfl rfl ?_
  exact X_if_lt (tgt := 20) dX3_setRule_1 (by decide) kt kf

theorem b3_setRule_4 {G : am_G} {dp a b : Nat} {m : am_M} {Q : am_Q} {i1 i2 : Int} {r0 p1 : Nat} {n_p1 t_p1 : Nat} (h1 : am_ob m r0 3) (h2 : m.2.1 r0 1 = some p1) (h3 : am_ar m p1 t_p1 n_p1) (h4 : 100 ≤ t_p1) (kt : (n_p1 : Int) ≤ i1 → X G dp a b M3_setRule 20 [some (rV (some r0)), some (iV (i1)), some (iV (i2))] [] m Q) (kf : ¬ ((n_p1 : Int) ≤ i1) → X G dp a b M3_setRule 13 [some (rV (some r0)), some (iV (i1)), some (iV (i2))] [] m Q) : X G dp a b M3_setRule 4 [some (rV (some r0)), some (iV (i1)), some (iV (i2))] [] m Q := by
  refine X_iload_n dX3_setRule_4 rfl rfl ?_
  refine X_aload_n dX3_setRule_5 rfl rfl ?_
  refine X_getP dX3_setRule_6 fl_3_17 rfl h1 ?_
  rw [h2]
  refine X_alen dX3_setRule_9 h4 h3 ?_
  exact X_icmp_ge (tgt := 20) dX3_setRule_10 (by decide) kt kf

theorem b3_setRule_13 {G : am_G} {dp a b : Nat} {m : am_M} {Q : am_Q} {i1 i2 : Int} {r0 p1 : Nat} {n_p1 : Nat} (h1 : am_ob m r0 3) (h2 : m.2.1 r0 1 = some p1) (h3 : am_arw m p1 100 n_p1) (h4 : 0 ≤ i1) (h5 : i1 < (n_p1 : Int)) (k : X G dp a b M3_setRule 20 [some (rV (some r0)), some (iV (i1)), some (iV (i2))] [] (am_wI m p1 (i1).toNat (i2)) Q) : X G dp a b M3_setRule 13 [some (rV (some r0)), some (iV (i1)), some (iV (i2))] [] m Q := by
  refine X_aload_n dX3_setRule_13 rfl rfl ?_
  refine X_getP dX3_setRule_14 fl_3_17 rfl h1 ?_
  rw [h2]
  refine X_iload_n dX3_setRule_17 rfl rfl ?_
  refine X_iload_n dX3_setRule_18 rfl rfl ?_
  refine X_iast dX3_setRule_19 h3 h4 h5 ?_
  exact k

theorem b3_setRule_20 {G : am_G} {dp a b : Nat} {m : am_M} {Q : am_Q} {i1 i2 : Int} {r0 : Nat}  (k : Q (.inl none) m) : X G dp a b M3_setRule 20 [some (rV (some r0)), some (iV (i1)), some (iV (i2))] [] m Q := by
  exact X_vret dX3_setRule_20 rfl k

