/-! TREES of bytecode, by program: X3_* -/
theorem s3_empty_0 {G : am_G} {dp a b : Nat} {m : am_M} {Q : am_Q} {r0 p1 : Nat} {n_p1 : Nat} (h1 : am_obw m r0 3) (h3 : m.2.1 r0 1 = some p1) (h4 : am_arw m p1 100 n_p1) (k1 : Q (.inl none) ((u2 (u2 (u2 (u2 (u2 (u2 (u2 m.1 r0 2 (0)) r0 3 (0)) r0 4 (0)) r0 5 (0)) p1 ((0 : Int)).toNat (50)) p1 ((1 : Int)).toNat (110)) p1 ((2 : Int)).toNat (100)), m.2.1, m.2.2)) (h5 : 0 < (n_p1 : Int) := by intros; first | omega | (dsimp only at *; omega)) (h6 : 1 < (n_p1 : Int) := by intros; first | omega | (dsimp only at *; omega)) (h7 : 2 < (n_p1 : Int) := by intros; first | omega | (dsimp only at *; omega)) : X G dp a b M3_empty 0 [some (rV (some r0))] [] m Q := by
  refine X_aload_n dX3_empty_0 rfl rfl ?_
  refine Y_iconst dX3_empty_1 (by unfold i32; omega) ?_
  refine X_putI dX3_empty_2 fw_3_21 rfl h1 ?_
  refine X_aload_n dX3_empty_5 rfl rfl ?_
  refine Y_iconst dX3_empty_6 (by unfold i32; omega) ?_
  refine X_putI dX3_empty_7 fw_3_25 rfl h1 ?_
  refine X_aload_n dX3_empty_10 rfl rfl ?_
  refine Y_iconst dX3_empty_11 (by unfold i32; omega) ?_
  refine X_putI dX3_empty_12 fw_3_28 rfl h1 ?_
  refine X_aload_n dX3_empty_15 rfl rfl ?_
  refine Y_iconst dX3_empty_16 (by unfold i32; omega) ?_
  refine X_putI dX3_empty_17 fw_3_31 rfl h1 ?_
  refine X_aload_n dX3_empty_20 rfl rfl ?_
  refine X_getP dX3_empty_21 fl_3_17 rfl (am_ow h1) ?_
  refine am_ptr h3 ?_
  refine Y_iconst dX3_empty_24 (by unfold i32; omega) ?_
  refine Y_bipush dX3_empty_25 (by omega) ?_
  refine X_iast dX3_empty_27 h4 (by decide) h5 ?_
  refine X_aload_n dX3_empty_28 rfl rfl ?_
  refine X_getP dX3_empty_29 fl_3_17 rfl (am_ow h1) ?_
  refine am_ptr h3 ?_
  refine Y_iconst dX3_empty_32 (by unfold i32; omega) ?_
  refine Y_bipush dX3_empty_33 (by omega) ?_
  refine X_iast dX3_empty_35 h4 (by decide) h6 ?_
  refine X_aload_n dX3_empty_36 rfl rfl ?_
  refine X_getP dX3_empty_37 fl_3_17 rfl (am_ow h1) ?_
  refine am_ptr h3 ?_
  refine Y_iconst dX3_empty_40 (by unfold i32; omega) ?_
  refine Y_bipush dX3_empty_41 (by omega) ?_
  refine X_iast dX3_empty_43 h4 (by decide) h7 ?_
  exact X_vret dX3_empty_44 rfl k1

theorem s3_reckonAll_0 {G : am_G} {dp a b : Nat} {m : am_M} {Q : am_Q} {r0 : Nat} {o1 : Option am_V}  (k1 : X G dp a b M3_reckonAll 2 [some (rV (some r0)), some (iV (0))] [] m Q)  : X G dp a b M3_reckonAll 0 [some (rV (some r0)), o1] [] m Q := by
  refine Y_iconst dX3_reckonAll_0 (by unfold i32; omega) ?_
  refine X_istore_n dX3_reckonAll_1 rfl (Nat.le_of_ble_eq_true rfl) ?_
  exact k1

theorem s3_reckonAll_2 {G : am_G} {dp a b : Nat} {m : am_M} {Q : am_Q} {i1 : Int} {r0 p1 p2 : Nat} {t_p1 n_p1 : Nat} (hdp : 1 ≤ dp) (h1 : am_ob m r0 3) (h2 : m.2.1 r0 0 = some p1) (h3 : t_p1 = 103 ∨ t_p1 = 104) (h4 : am_ar m p1 t_p1 n_p1) (h7 : ¬ ((m.1 r0 2) ≤ i1) → ¬ (3 ≤ i1) → m.2.1 p1 (i1).toNat = some p2) (h8 : ¬ ((m.1 r0 2) ≤ i1) → ¬ (3 ≤ i1) → am_ob m p2 2) (k1 : ((m.1 r0 2) ≤ i1) → Q (.inl none) m) (k2 : ¬ ((m.1 r0 2) ≤ i1) → (3 ≤ i1) → Q (.inl none) m) (k3 : ¬ ((m.1 r0 2) ≤ i1) → ¬ (3 ≤ i1) → ∀ Q' : am_Q, (∀ (m' : am_M), X G dp a b M3_reckonAll 28 [some (rV (some r0)), some (iV (i1))] [] m' Q → Q' (.inl none) m') → T G (dp - 1) 0 0 M2_reckon [rV (some p2), iV (m.1 r0 3)] m Q') (h5 : ¬ ((m.1 r0 2) ≤ i1) → ¬ (3 ≤ i1) → 0 ≤ i1 := by intros; first | omega | (dsimp only at *; omega)) (h6 : ¬ ((m.1 r0 2) ≤ i1) → ¬ (3 ≤ i1) → i1 < (n_p1 : Int) := by intros; first | omega | (dsimp only at *; omega)) : X G dp a b M3_reckonAll 2 [some (rV (some r0)), some (iV (i1))] [] m Q := by
  refine X_iload_n dX3_reckonAll_2 rfl rfl ?_
  refine X_aload_n dX3_reckonAll_3 rfl rfl ?_
  refine X_getI dX3_reckonAll_4 fl_3_21 (by decide) h1 ?_
  refine X_icmp_ge (tgt := 34) dX3_reckonAll_7 (by decide) (fun c1 => ?_) (fun c1 => ?_)
  · exact X_vret dX3_reckonAll_34 rfl (k1 c1)
  · refine X_iload_n dX3_reckonAll_10 rfl rfl ?_
    refine Y_iconst dX3_reckonAll_11 (by unfold i32; omega) ?_
    refine X_icmp_ge (tgt := 34) dX3_reckonAll_12 (by decide) (fun c2 => ?_) (fun c2 => ?_)
    · exact X_vret dX3_reckonAll_34 rfl (k2 c1 c2)
    · refine X_aload_n dX3_reckonAll_15 rfl rfl ?_
      refine X_getP dX3_reckonAll_16 fl_3_11 rfl h1 ?_
      refine am_ptr h2 ?_
      refine X_iload_n dX3_reckonAll_19 rfl rfl ?_
      refine X_aald dX3_reckonAll_20 h3 h4 (h5 c1 c2) (h6 c1 c2) ?_
      refine am_ptr (h7 c1 c2) ?_
      refine X_aload_n dX3_reckonAll_21 rfl rfl ?_
      refine X_getI dX3_reckonAll_22 fl_3_25 (by decide) h1 ?_
      exact X_callV (As := [iV (m.1 r0 3)]) (rest := []) (a' := 0) (b' := 0) dX3_reckonAll_25 t2_reckon ml_3_48 (h8 c1 c2) rfl rfl (Nat.le_of_ble_eq_true rfl) rfl hdp (Nat.zero_le _) (Nat.zero_le _) ((k3 c1 c2) _ (fun m' h => h))

theorem s3_reckonAll_28 {G : am_G} {dp a b : Nat} {m : am_M} {Q : am_Q} {i1 : Int} {r0 : Nat}  (k1 : X G dp a b M3_reckonAll 2 [some (rV (some r0)), some (iV (wr (i1 + 1)))] [] m Q)  : X G dp a b M3_reckonAll 28 [some (rV (some r0)), some (iV (i1))] [] m Q := by
  refine X_iinc dX3_reckonAll_28 rfl ?_
  refine X_goto (tgt := 2) dX3_reckonAll_31 (by decide) ?_
  exact k1

theorem s3_goal_0 {G : am_G} {dp a b : Nat} {m : am_M} {Q : am_Q} {r0 p1 : Nat} {n_p1 : Nat} (h1 : am_ob m r0 3) (h2 : m.2.1 r0 1 = some p1) (h3 : am_ar m p1 100 n_p1) (k1 : Q (.inl (some (lV (wrl ((m.1 p1 ((0 : Int)).toNat) * 1000000))))) m) (h4 : 0 < (n_p1 : Int) := by intros; first | omega | (dsimp only at *; omega)) : X G dp a b M3_goal 0 [some (rV (some r0))] [] m Q := by
  refine X_aload_n dX3_goal_0 rfl rfl ?_
  refine X_getP dX3_goal_1 fl_3_17 rfl h1 ?_
  refine am_ptr h2 ?_
  refine Y_iconst dX3_goal_4 (by unfold i32; omega) ?_
  refine X_iald dX3_goal_5 h3 (by decide) h4 ?_
  refine X_i2l dX3_goal_6 ?_
  refine X_ldc2 dX3_goal_7 kc_3_52 (by unfold i64; omega) ?_
  refine X_lmul dX3_goal_10  ?_
  exact X_lret dX3_goal_11 rfl k1

theorem s3_show_0 {G : am_G} {dp a b : Nat} {m : am_M} {Q : am_Q} {i1 i2 i3 : Int} {r0 p1 p2 p3 : Nat} {t_p1 n_p1 n_p3 : Nat} (hdp : 1 ≤ dp) (h1 : am_ob m r0 3) (h2 : m.2.1 r0 0 = some p1) (h3 : t_p1 = 103 ∨ t_p1 = 104) (h4 : am_ar m p1 t_p1 n_p1) (h7 : ¬ (i1 < 0) → ¬ ((m.1 r0 2) ≤ i1) → ¬ (i2 < 0) → ¬ ((m.1 r0 3) ≤ i2) → m.2.1 p1 (i1).toNat = some p2) (h8 : ¬ (i1 < 0) → ¬ ((m.1 r0 2) ≤ i1) → ¬ (i2 < 0) → ¬ ((m.1 r0 3) ≤ i2) → am_ob m p2 2) (h9 : ¬ (i1 < 0) → ¬ ((m.1 r0 2) ≤ i1) → ¬ (i2 < 0) → ¬ ((m.1 r0 3) ≤ i2) → m.2.1 p2 1 = some p3) (h10 : ¬ (i1 < 0) → ¬ ((m.1 r0 2) ≤ i1) → ¬ (i2 < 0) → ¬ ((m.1 r0 3) ≤ i2) → am_arw m p3 100 n_p3) (k1 : (i1 < 0) → X G dp a b M3_show 49 [some (rV (some r0)), some (iV (i1)), some (iV (i2)), some (iV (i3))] [] m Q) (k2 : ¬ (i1 < 0) → ((m.1 r0 2) ≤ i1) → X G dp a b M3_show 49 [some (rV (some r0)), some (iV (i1)), some (iV (i2)), some (iV (i3))] [] m Q) (k3 : ¬ (i1 < 0) → ¬ ((m.1 r0 2) ≤ i1) → (i2 < 0) → X G dp a b M3_show 49 [some (rV (some r0)), some (iV (i1)), some (iV (i2)), some (iV (i3))] [] m Q) (k4 : ¬ (i1 < 0) → ¬ ((m.1 r0 2) ≤ i1) → ¬ (i2 < 0) → ((m.1 r0 3) ≤ i2) → X G dp a b M3_show 49 [some (rV (some r0)), some (iV (i1)), some (iV (i2)), some (iV (i3))] [] m Q) (k5 : ¬ (i1 < 0) → ¬ ((m.1 r0 2) ≤ i1) → ¬ (i2 < 0) → ¬ ((m.1 r0 3) ≤ i2) → ∀ Q' : am_Q, (∀ (m' : am_M), X G dp a b M3_show 49 [some (rV (some r0)), some (iV (i1)), some (iV (i2)), some (iV (i3))] [] m' Q → Q' (.inl none) m') → T G (dp - 1) 0 0 M2_reckon [rV (some p2), iV ((u2 m.1 p3 (i2).toNat (i3)) r0 3)] ((u2 m.1 p3 (i2).toNat (i3)), m.2.1, m.2.2) Q') (h5 : ¬ (i1 < 0) → ¬ ((m.1 r0 2) ≤ i1) → ¬ (i2 < 0) → ¬ ((m.1 r0 3) ≤ i2) → 0 ≤ i1 := by intros; first | omega | (dsimp only at *; omega)) (h6 : ¬ (i1 < 0) → ¬ ((m.1 r0 2) ≤ i1) → ¬ (i2 < 0) → ¬ ((m.1 r0 3) ≤ i2) → i1 < (n_p1 : Int) := by intros; first | omega | (dsimp only at *; omega)) (h11 : ¬ (i1 < 0) → ¬ ((m.1 r0 2) ≤ i1) → ¬ (i2 < 0) → ¬ ((m.1 r0 3) ≤ i2) → 0 ≤ i2 := by intros; first | omega | (dsimp only at *; omega)) (h12 : ¬ (i1 < 0) → ¬ ((m.1 r0 2) ≤ i1) → ¬ (i2 < 0) → ¬ ((m.1 r0 3) ≤ i2) → i2 < (n_p3 : Int) := by intros; first | omega | (dsimp only at *; omega)) : X G dp a b M3_show 0 [some (rV (some r0)), some (iV (i1)), some (iV (i2)), some (iV (i3))] [] m Q := by
  refine X_iload_n dX3_show_0 rfl rfl ?_
  refine X_if_lt (tgt := 49) dX3_show_1 (by decide) (fun c1 => ?_) (fun c1 => ?_)
  · exact (k1 c1)
  · refine X_iload_n dX3_show_4 rfl rfl ?_
    refine X_aload_n dX3_show_5 rfl rfl ?_
    refine X_getI dX3_show_6 fl_3_21 (by decide) h1 ?_
    refine X_icmp_ge (tgt := 49) dX3_show_9 (by decide) (fun c2 => ?_) (fun c2 => ?_)
    · exact (k2 c1 c2)
    · refine X_iload_n dX3_show_12 rfl rfl ?_
      refine X_if_lt (tgt := 49) dX3_show_13 (by decide) (fun c3 => ?_) (fun c3 => ?_)
      · exact (k3 c1 c2 c3)
      · refine X_iload_n dX3_show_16 rfl rfl ?_
        refine X_aload_n dX3_show_17 rfl rfl ?_
        refine X_getI dX3_show_18 fl_3_25 (by decide) h1 ?_
        refine X_icmp_ge (tgt := 49) dX3_show_21 (by decide) (fun c4 => ?_) (fun c4 => ?_)
        · exact (k4 c1 c2 c3 c4)
        · refine X_aload_n dX3_show_24 rfl rfl ?_
          refine X_getP dX3_show_25 fl_3_11 rfl h1 ?_
          refine am_ptr h2 ?_
          refine X_iload_n dX3_show_28 rfl rfl ?_
          refine X_aald dX3_show_29 h3 h4 (h5 c1 c2 c3 c4) (h6 c1 c2 c3 c4) ?_
          refine am_ptr (h7 c1 c2 c3 c4) ?_
          refine X_getP dX3_show_30 fl_3_54 rfl (h8 c1 c2 c3 c4) ?_
          refine am_ptr (h9 c1 c2 c3 c4) ?_
          refine X_iload_n dX3_show_33 rfl rfl ?_
          refine X_iload_n dX3_show_34 rfl rfl ?_
          refine X_iast dX3_show_35 (h10 c1 c2 c3 c4) (h11 c1 c2 c3 c4) (h12 c1 c2 c3 c4) ?_
          refine X_aload_n dX3_show_36 rfl rfl ?_
          refine X_getP dX3_show_37 fl_3_11 rfl h1 ?_
          refine am_ptr h2 ?_
          refine X_iload_n dX3_show_40 rfl rfl ?_
          refine X_aald dX3_show_41 h3 h4 (h5 c1 c2 c3 c4) (h6 c1 c2 c3 c4) ?_
          refine am_ptr (h7 c1 c2 c3 c4) ?_
          refine X_aload_n dX3_show_42 rfl rfl ?_
          refine X_getI dX3_show_43 fl_3_25 (by decide) h1 ?_
          exact X_callV (As := [iV ((u2 m.1 p3 (i2).toNat (i3)) r0 3)]) (rest := []) (a' := 0) (b' := 0) dX3_show_46 t2_reckon ml_3_48 (h8 c1 c2 c3 c4) rfl rfl (Nat.le_of_ble_eq_true rfl) rfl hdp (Nat.zero_le _) (Nat.zero_le _) ((k5 c1 c2 c3 c4) _ (fun m' h => h))

theorem s3_show_49 {G : am_G} {dp a b : Nat} {m : am_M} {Q : am_Q} {i1 i2 i3 : Int} {r0 : Nat}  (k1 : Q (.inl none) m)  : X G dp a b M3_show 49 [some (rV (some r0)), some (iV (i1)), some (iV (i2)), some (iV (i3))] [] m Q := by
  exact X_vret dX3_show_49 rfl k1

theorem s3_setMethod_0 {G : am_G} {dp a b : Nat} {m : am_M} {Q : am_Q} {i1 i2 : Int} {r0 p1 p2 : Nat} {t_p1 n_p1 : Nat} (h1 : am_ob m r0 3) (h2 : m.2.1 r0 0 = some p1) (h3 : t_p1 = 103 ∨ t_p1 = 104) (h4 : am_ar m p1 t_p1 n_p1) (h7 : ¬ (i1 < 0) → ¬ ((m.1 r0 2) ≤ i1) → m.2.1 p1 (i1).toNat = some p2) (h8 : ¬ (i1 < 0) → ¬ ((m.1 r0 2) ≤ i1) → am_obw m p2 2) (k1 : (i1 < 0) → Q (.inl none) m) (k2 : ¬ (i1 < 0) → ((m.1 r0 2) ≤ i1) → Q (.inl none) m) (k3 : ¬ (i1 < 0) → ¬ ((m.1 r0 2) ≤ i1) → Q (.inl none) ((u2 m.1 p2 6 (i2)), m.2.1, m.2.2)) (h5 : ¬ (i1 < 0) → ¬ ((m.1 r0 2) ≤ i1) → 0 ≤ i1 := by intros; first | omega | (dsimp only at *; omega)) (h6 : ¬ (i1 < 0) → ¬ ((m.1 r0 2) ≤ i1) → i1 < (n_p1 : Int) := by intros; first | omega | (dsimp only at *; omega)) : X G dp a b M3_setMethod 0 [some (rV (some r0)), some (iV (i1)), some (iV (i2))] [] m Q := by
  refine X_iload_n dX3_setMethod_0 rfl rfl ?_
  refine X_if_lt (tgt := 22) dX3_setMethod_1 (by decide) (fun c1 => ?_) (fun c1 => ?_)
  · exact X_vret dX3_setMethod_22 rfl (k1 c1)
  · refine X_iload_n dX3_setMethod_4 rfl rfl ?_
    refine X_aload_n dX3_setMethod_5 rfl rfl ?_
    refine X_getI dX3_setMethod_6 fl_3_21 (by decide) h1 ?_
    refine X_icmp_ge (tgt := 22) dX3_setMethod_9 (by decide) (fun c2 => ?_) (fun c2 => ?_)
    · exact X_vret dX3_setMethod_22 rfl (k2 c1 c2)
    · refine X_aload_n dX3_setMethod_12 rfl rfl ?_
      refine X_getP dX3_setMethod_13 fl_3_11 rfl h1 ?_
      refine am_ptr h2 ?_
      refine X_iload_n dX3_setMethod_16 rfl rfl ?_
      refine X_aald dX3_setMethod_17 h3 h4 (h5 c1 c2) (h6 c1 c2) ?_
      refine am_ptr (h7 c1 c2) ?_
      refine X_iload_n dX3_setMethod_18 rfl rfl ?_
      refine X_putI dX3_setMethod_19 fw_3_57 rfl (h8 c1 c2) ?_
      exact X_vret dX3_setMethod_22 rfl (k3 c1 c2)

theorem s3_setRule_0 {G : am_G} {dp a b : Nat} {m : am_M} {Q : am_Q} {i1 i2 : Int} {r0 p1 : Nat} {n_p1 : Nat} (h1 : am_ob m r0 3) (h2 : m.2.1 r0 1 = some p1) (h5 : am_arw m p1 100 n_p1) (k1 : (i1 < 0) → Q (.inl none) m) (k2 : ¬ (i1 < 0) → ((n_p1 : Int) ≤ i1) → Q (.inl none) m) (k3 : ¬ (i1 < 0) → ¬ ((n_p1 : Int) ≤ i1) → Q (.inl none) ((u2 m.1 p1 (i1).toNat (i2)), m.2.1, m.2.2)) (h6 : ¬ (i1 < 0) → ¬ ((n_p1 : Int) ≤ i1) → 0 ≤ i1 := by intros; first | omega | (dsimp only at *; omega)) (h7 : ¬ (i1 < 0) → ¬ ((n_p1 : Int) ≤ i1) → i1 < (n_p1 : Int) := by intros; first | omega | (dsimp only at *; omega)) : X G dp a b M3_setRule 0 [some (rV (some r0)), some (iV (i1)), some (iV (i2))] [] m Q := by
  refine X_iload_n dX3_setRule_0 rfl rfl ?_
  refine X_if_lt (tgt := 20) dX3_setRule_1 (by decide) (fun c1 => ?_) (fun c1 => ?_)
  · exact X_vret dX3_setRule_20 rfl (k1 c1)
  · refine X_iload_n dX3_setRule_4 rfl rfl ?_
    refine X_aload_n dX3_setRule_5 rfl rfl ?_
    refine X_getP dX3_setRule_6 fl_3_17 rfl h1 ?_
    refine am_ptr h2 ?_
    refine X_alen dX3_setRule_9 (by decide) (am_rw h5) ?_
    refine X_icmp_ge (tgt := 20) dX3_setRule_10 (by decide) (fun c2 => ?_) (fun c2 => ?_)
    · exact X_vret dX3_setRule_20 rfl (k2 c1 c2)
    · refine X_aload_n dX3_setRule_13 rfl rfl ?_
      refine X_getP dX3_setRule_14 fl_3_17 rfl h1 ?_
      refine am_ptr h2 ?_
      refine X_iload_n dX3_setRule_17 rfl rfl ?_
      refine X_iload_n dX3_setRule_18 rfl rfl ?_
      refine X_iast dX3_setRule_19 h5 (h6 c1 c2) (h7 c1 c2) ?_
      exact X_vret dX3_setRule_20 rfl (k3 c1 c2)

