/-! TREES of bytecode, by program: X0_dropOldest X2_copy X3_copy -/
theorem s0_dropOldest_0 {G : am_G} {dp a b : Nat} {m : am_M} {Q : am_Q} {r0 : Nat} {n_r0 : Nat} (h3 : m.2.2.2.2 = false) (h5 : am_arw m r0 100 n_r0) (h6 : r0 ≠ 0) (k1 : Q (.inl none) ((cpI m.1 r0 ((1 : Int)).toNat r0 ((0 : Int)).toNat (wr ((n_r0 : Int) - 1)).toNat), m.2.1, m.2.2)) (h7 : 0 ≤ wr ((n_r0 : Int) - 1) := by intros; first | omega | (dsimp only at *; omega)) (h8 : 1 + wr ((n_r0 : Int) - 1) ≤ (n_r0 : Int) := by intros; first | omega | (dsimp only at *; omega)) (h9 : 0 + wr ((n_r0 : Int) - 1) ≤ (n_r0 : Int) := by intros; first | omega | (dsimp only at *; omega)) : X G dp a b M0_dropOldest 0 [some (rV (some r0))] [] m Q := by
  refine X_aload_n dX0_dropOldest_0 rfl rfl ?_
  refine Y_iconst dX0_dropOldest_1 (by unfold i32; omega) ?_
  refine X_aload_n dX0_dropOldest_2 rfl rfl ?_
  refine Y_iconst dX0_dropOldest_3 (by unfold i32; omega) ?_
  refine X_aload_n dX0_dropOldest_4 rfl rfl ?_
  refine X_alen dX0_dropOldest_5 (by decide) (am_rw h5) ?_
  refine Y_iconst dX0_dropOldest_6 (by unfold i32; omega) ?_
  refine X_isub dX0_dropOldest_7  ?_
  refine X_copy dX0_dropOldest_8 cp_w.2.2.2.1 h3 (am_rw h5) h5 h6 (by decide) (by decide) h7 h8 h9 ?_
  exact X_vret dX0_dropOldest_11 rfl k1

theorem s2_copy_0 {G : am_G} {dp a b : Nat} {m : am_M} {Q : am_Q} {i2 : Int} {r0 r1 p1 p2 p3 p4 : Nat} {n_p1 n_p2 n_p3 n_p4 : Nat} (hdp : 1 ≤ dp) (h1 : am_ob m r1 2) (h2 : m.2.1 r1 0 = some p1) (h4 : m.2.1 r0 0 = some p2) (h5 : m.2.2.2.2 = false) (h6 : am_ar m p1 100 n_p1) (h7 : am_arw m p2 100 n_p2) (h8 : p1 ≠ 0) (h11 : m.2.1 r1 1 = some p3) (h12 : m.2.1 r0 1 = some p4) (h13 : am_ar m p3 100 n_p3) (h14 : am_arw m p4 100 n_p4) (h15 : p3 ≠ 0) (h18 : am_obw m r0 2) (k1 : ∀ Q' : am_Q, (∀ (m' : am_M), X G dp a b M2_copy 53 [some (rV (some r0)), some (rV (some r1)), some (iV (i2))] [] m' Q → Q' (.inl none) m') → T G (dp - 1) 0 0 M2_reckon [rV (some r0), iV (i2)] ((u2 (u2 (cpI (cpI m.1 p1 ((0 : Int)).toNat p2 ((0 : Int)).toNat ((200 : Int)).toNat) p3 ((0 : Int)).toNat p4 ((0 : Int)).toNat ((200 : Int)).toNat) r0 5 ((cpI (cpI m.1 p1 ((0 : Int)).toNat p2 ((0 : Int)).toNat ((200 : Int)).toNat) p3 ((0 : Int)).toNat p4 ((0 : Int)).toNat ((200 : Int)).toNat) r1 5)) r0 6 ((u2 (cpI (cpI m.1 p1 ((0 : Int)).toNat p2 ((0 : Int)).toNat ((200 : Int)).toNat) p3 ((0 : Int)).toNat p4 ((0 : Int)).toNat ((200 : Int)).toNat) r0 5 ((cpI (cpI m.1 p1 ((0 : Int)).toNat p2 ((0 : Int)).toNat ((200 : Int)).toNat) p3 ((0 : Int)).toNat p4 ((0 : Int)).toNat ((200 : Int)).toNat) r1 5)) r1 6)), m.2.1, m.2.2) Q') (h9 : 0 + 200 ≤ (n_p1 : Int) := by intros; first | omega | (dsimp only at *; omega)) (h10 : 0 + 200 ≤ (n_p2 : Int) := by intros; first | omega | (dsimp only at *; omega)) (h16 : 0 + 200 ≤ (n_p3 : Int) := by intros; first | omega | (dsimp only at *; omega)) (h17 : 0 + 200 ≤ (n_p4 : Int) := by intros; first | omega | (dsimp only at *; omega)) : X G dp a b M2_copy 0 [some (rV (some r0)), some (rV (some r1)), some (iV (i2))] [] m Q := by
  refine X_aload_n dX2_copy_0 rfl rfl ?_
  refine X_getP dX2_copy_1 fl_2_9 rfl h1 ?_
  refine am_ptr h2 ?_
  refine Y_iconst dX2_copy_4 (by unfold i32; omega) ?_
  refine X_aload_n dX2_copy_5 rfl rfl ?_
  refine X_getP dX2_copy_6 fl_2_9 rfl (am_ow h18) ?_
  refine am_ptr h4 ?_
  refine Y_iconst dX2_copy_9 (by unfold i32; omega) ?_
  refine Y_sipush dX2_copy_10 (by omega) ?_
  refine X_copy dX2_copy_13 cp_w.2.2.2.2.1 h5 h6 h7 h8 (by decide) (by decide) (by decide) h9 h10 ?_
  refine X_aload_n dX2_copy_16 rfl rfl ?_
  refine X_getP dX2_copy_17 fl_2_15 rfl h1 ?_
  refine am_ptr h11 ?_
  refine Y_iconst dX2_copy_20 (by unfold i32; omega) ?_
  refine X_aload_n dX2_copy_21 rfl rfl ?_
  refine X_getP dX2_copy_22 fl_2_15 rfl (am_ow h18) ?_
  refine am_ptr h12 ?_
  refine Y_iconst dX2_copy_25 (by unfold i32; omega) ?_
  refine Y_sipush dX2_copy_26 (by omega) ?_
  refine X_copy dX2_copy_29 cp_w.2.2.2.2.1 h5 h13 h14 h15 (by decide) (by decide) (by decide) h16 h17 ?_
  refine X_aload_n dX2_copy_32 rfl rfl ?_
  refine X_aload_n dX2_copy_33 rfl rfl ?_
  refine X_getI dX2_copy_34 fl_2_27 (by decide) h1 ?_
  refine X_putI dX2_copy_37 fw_2_27 rfl h18 ?_
  refine X_aload_n dX2_copy_40 rfl rfl ?_
  refine X_aload_n dX2_copy_41 rfl rfl ?_
  refine X_getI dX2_copy_42 fl_2_31 (by decide) h1 ?_
  refine X_putI dX2_copy_45 fw_2_31 rfl h18 ?_
  refine X_aload_n dX2_copy_48 rfl rfl ?_
  refine X_iload_n dX2_copy_49 rfl rfl ?_
  exact X_callV (As := [iV (i2)]) (rest := []) (a' := 0) (b' := 0) dX2_copy_50 t2_reckon ml_2_49 (am_ow h18) rfl rfl (Nat.le_of_ble_eq_true rfl) rfl hdp (Nat.zero_le _) (Nat.zero_le _) (k1 _ (fun m' h => h))

theorem s2_copy_53 {G : am_G} {dp a b : Nat} {m : am_M} {Q : am_Q} {i2 : Int} {r0 r1 : Nat}  (k1 : Q (.inl none) m)  : X G dp a b M2_copy 53 [some (rV (some r0)), some (rV (some r1)), some (iV (i2))] [] m Q := by
  exact X_vret dX2_copy_53 rfl k1

theorem s3_copy_0 {G : am_G} {dp a b : Nat} {m : am_M} {Q : am_Q} {r0 r1 p1 p2 : Nat} {o2 : Option am_V} {n_p2 n_p1 : Nat} (h1 : am_ob m r1 3) (h2 : am_obw m r0 3) (h3 : m.2.1 r1 1 = some p1) (h5 : m.2.1 r0 1 = some p2) (h8 : m.2.2.2.2 = false) (h9 : am_ar m p1 100 n_p1) (h10 : am_arw m p2 100 n_p2) (h11 : p1 ≠ 0) (k1 : X G dp a b M3_copy 52 [some (rV (some r0)), some (rV (some r1)), some (iV (0))] [] ((cpI (u2 (u2 (u2 (u2 m.1 r0 2 (m.1 r1 2)) r0 3 ((u2 m.1 r0 2 (m.1 r1 2)) r1 3)) r0 4 ((u2 (u2 m.1 r0 2 (m.1 r1 2)) r0 3 ((u2 m.1 r0 2 (m.1 r1 2)) r1 3)) r1 4)) r0 5 ((u2 (u2 (u2 m.1 r0 2 (m.1 r1 2)) r0 3 ((u2 m.1 r0 2 (m.1 r1 2)) r1 3)) r0 4 ((u2 (u2 m.1 r0 2 (m.1 r1 2)) r0 3 ((u2 m.1 r0 2 (m.1 r1 2)) r1 3)) r1 4)) r1 5)) p1 ((0 : Int)).toNat p2 ((0 : Int)).toNat ((n_p2 : Int)).toNat), m.2.1, m.2.2) Q) (h12 : 0 ≤ (n_p2 : Int) := by intros; first | omega | (dsimp only at *; omega)) (h13 : 0 + (n_p2 : Int) ≤ (n_p1 : Int) := by intros; first | omega | (dsimp only at *; omega)) (h14 : 0 + (n_p2 : Int) ≤ (n_p2 : Int) := by intros; first | omega | (dsimp only at *; omega)) : X G dp a b M3_copy 0 [some (rV (some r0)), some (rV (some r1)), o2] [] m Q := by
  refine X_aload_n dX3_copy_0 rfl rfl ?_
  refine X_aload_n dX3_copy_1 rfl rfl ?_
  refine X_getI dX3_copy_2 fl_3_21 (by decide) h1 ?_
  refine X_putI dX3_copy_5 fw_3_21 rfl h2 ?_
  refine X_aload_n dX3_copy_8 rfl rfl ?_
  refine X_aload_n dX3_copy_9 rfl rfl ?_
  refine X_getI dX3_copy_10 fl_3_25 (by decide) h1 ?_
  refine X_putI dX3_copy_13 fw_3_25 rfl h2 ?_
  refine X_aload_n dX3_copy_16 rfl rfl ?_
  refine X_aload_n dX3_copy_17 rfl rfl ?_
  refine X_getI dX3_copy_18 fl_3_28 (by decide) h1 ?_
  refine X_putI dX3_copy_21 fw_3_28 rfl h2 ?_
  refine X_aload_n dX3_copy_24 rfl rfl ?_
  refine X_aload_n dX3_copy_25 rfl rfl ?_
  refine X_getI dX3_copy_26 fl_3_31 (by decide) h1 ?_
  refine X_putI dX3_copy_29 fw_3_31 rfl h2 ?_
  refine X_aload_n dX3_copy_32 rfl rfl ?_
  refine X_getP dX3_copy_33 fl_3_17 rfl h1 ?_
  refine am_ptr h3 ?_
  refine Y_iconst dX3_copy_36 (by unfold i32; omega) ?_
  refine X_aload_n dX3_copy_37 rfl rfl ?_
  refine X_getP dX3_copy_38 fl_3_17 rfl (am_ow h2) ?_
  refine am_ptr h5 ?_
  refine Y_iconst dX3_copy_41 (by unfold i32; omega) ?_
  refine X_aload_n dX3_copy_42 rfl rfl ?_
  refine X_getP dX3_copy_43 fl_3_17 rfl (am_ow h2) ?_
  refine am_ptr h5 ?_
  refine X_alen dX3_copy_46 (by decide) (am_rw h10) ?_
  refine X_copy dX3_copy_47 cp_w.2.2.2.2.2 h8 h9 h10 h11 (by decide) (by decide) h12 h13 h14 ?_
  refine Y_iconst dX3_copy_50 (by unfold i32; omega) ?_
  refine X_istore_n dX3_copy_51 rfl (Nat.le_of_ble_eq_true rfl) ?_
  exact k1

theorem s3_copy_52 {G : am_G} {dp a b : Nat} {m : am_M} {Q : am_Q} {i2 : Int} {r0 r1 p1 p2 p3 p4 : Nat} {t_p1 n_p1 t_p3 n_p3 : Nat} (hdp : 1 ≤ dp) (h1 : am_ob m r0 3) (h2 : m.2.1 r0 0 = some p1) (h3 : t_p1 = 103 ∨ t_p1 = 104) (h4 : am_ar m p1 t_p1 n_p1) (h7 : ¬ ((m.1 r0 2) ≤ i2) → ¬ (3 ≤ i2) → m.2.1 p1 (i2).toNat = some p2) (h8 : am_ob m r1 3) (h9 : m.2.1 r1 0 = some p3) (h10 : t_p3 = 103 ∨ t_p3 = 104) (h11 : am_ar m p3 t_p3 n_p3) (h13 : ¬ ((m.1 r0 2) ≤ i2) → ¬ (3 ≤ i2) → m.2.1 p3 (i2).toNat = some p4) (h14 : ¬ ((m.1 r0 2) ≤ i2) → ¬ (3 ≤ i2) → am_ob m p2 2) (k1 : ((m.1 r0 2) ≤ i2) → Q (.inl none) m) (k2 : ¬ ((m.1 r0 2) ≤ i2) → (3 ≤ i2) → Q (.inl none) m) (k3 : ¬ ((m.1 r0 2) ≤ i2) → ¬ (3 ≤ i2) → ∀ Q' : am_Q, (∀ (m' : am_M), X G dp a b M3_copy 84 [some (rV (some r0)), some (rV (some r1)), some (iV (i2))] [] m' Q → Q' (.inl none) m') → T G (dp - 1) 0 0 M2_copy [rV (some p2), rV (some p4), iV (m.1 r0 3)] m Q') (h5 : ¬ ((m.1 r0 2) ≤ i2) → ¬ (3 ≤ i2) → 0 ≤ i2 := by intros; first | omega | (dsimp only at *; omega)) (h6 : ¬ ((m.1 r0 2) ≤ i2) → ¬ (3 ≤ i2) → i2 < (n_p1 : Int) := by intros; first | omega | (dsimp only at *; omega)) (h12 : ¬ ((m.1 r0 2) ≤ i2) → ¬ (3 ≤ i2) → i2 < (n_p3 : Int) := by intros; first | omega | (dsimp only at *; omega)) : X G dp a b M3_copy 52 [some (rV (some r0)), some (rV (some r1)), some (iV (i2))] [] m Q := by
  refine X_iload_n dX3_copy_52 rfl rfl ?_
  refine X_aload_n dX3_copy_53 rfl rfl ?_
  refine X_getI dX3_copy_54 fl_3_21 (by decide) h1 ?_
  refine X_icmp_ge (tgt := 90) dX3_copy_57 (by decide) (fun c1 => ?_) (fun c1 => ?_)
  · exact X_vret dX3_copy_90 rfl (k1 c1)
  · refine X_iload_n dX3_copy_60 rfl rfl ?_
    refine Y_iconst dX3_copy_61 (by unfold i32; omega) ?_
    refine X_icmp_ge (tgt := 90) dX3_copy_62 (by decide) (fun c2 => ?_) (fun c2 => ?_)
    · exact X_vret dX3_copy_90 rfl (k2 c1 c2)
    · refine X_aload_n dX3_copy_65 rfl rfl ?_
      refine X_getP dX3_copy_66 fl_3_11 rfl h1 ?_
      refine am_ptr h2 ?_
      refine X_iload_n dX3_copy_69 rfl rfl ?_
      refine X_aald dX3_copy_70 h3 h4 (h5 c1 c2) (h6 c1 c2) ?_
      refine am_ptr (h7 c1 c2) ?_
      refine X_aload_n dX3_copy_71 rfl rfl ?_
      refine X_getP dX3_copy_72 fl_3_11 rfl h8 ?_
      refine am_ptr h9 ?_
      refine X_iload_n dX3_copy_75 rfl rfl ?_
      refine X_aald dX3_copy_76 h10 h11 (h5 c1 c2) (h12 c1 c2) ?_
      refine am_ptr (h13 c1 c2) ?_
      refine X_aload_n dX3_copy_77 rfl rfl ?_
      refine X_getI dX3_copy_78 fl_3_25 (by decide) h1 ?_
      exact X_callV (As := [rV (some p4), iV (m.1 r0 3)]) (rest := []) (a' := 0) (b' := 0) dX3_copy_81 t2_copy ml_3_44 (h14 c1 c2) rfl rfl (Nat.le_of_ble_eq_true rfl) rfl hdp (Nat.zero_le _) (Nat.zero_le _) ((k3 c1 c2) _ (fun m' h => h))

theorem s3_copy_84 {G : am_G} {dp a b : Nat} {m : am_M} {Q : am_Q} {i2 : Int} {r0 r1 : Nat}  (k1 : X G dp a b M3_copy 52 [some (rV (some r0)), some (rV (some r1)), some (iV (wr (i2 + 1)))] [] m Q)  : X G dp a b M3_copy 84 [some (rV (some r0)), some (rV (some r1)), some (iV (i2))] [] m Q := by
  refine X_iinc dX3_copy_84 rfl ?_
  refine X_goto (tgt := 52) dX3_copy_87 (by decide) ?_
  exact k1

