/-! TREES of bytecode, by program: X1_* -/
theorem s1_begin_0 {G : am_G} {dp a b : Nat} {m : am_M} {Q : am_Q} {i2 : Int} {r0 r1 p1 : Nat} {o3 : Option am_V} (hdp : 1 ≤ dp) (h1 : am_ob m r0 1) (h2 : m.2.1 r0 4 = some p1) (k1 : ∀ Q' : am_Q, (∀ (m' : am_M), X G dp a b M1_begin 8 [some (rV (some r0)), some (rV (some r1)), some (iV (i2)), o3] [] m' Q → Q' (.inl none) m') → T G (dp - 1) 0 0 MJ7_fill_53178 [rV (some p1), iV (0)] m Q')  : X G dp a b M1_begin 0 [some (rV (some r0)), some (rV (some r1)), some (iV (i2)), o3] [] m Q := by
  refine X_aload_n dX1_begin_0 rfl rfl ?_
  refine X_getP dX1_begin_1 fl_1_26 rfl h1 ?_
  refine am_ptr h2 ?_
  refine Y_iconst dX1_begin_4 (by unfold i32; omega) ?_
  exact X_callS (As := [rV (some p1), iV (0)]) (rest := []) (a' := 0) (b' := 0) dX1_begin_5 tJ7_fill_53178 ml_1_42 rfl rfl (Nat.le_of_ble_eq_true rfl) rfl hdp (Nat.zero_le _) (Nat.zero_le _) (k1 _ (fun m' h => h))

theorem s1_begin_8 {G : am_G} {dp a b : Nat} {m : am_M} {Q : am_Q} {i2 : Int} {r0 r1 : Nat} {o3 : Option am_V} (h1 : am_obw m r0 1) (h2 : am_ob m r1 3) (k1 : X G dp a b M1_begin 33 [some (rV (some r0)), some (rV (some r1)), some (iV (i2)), some (iV (0))] [] ((u2 (u2 (u2 (u2 m.1 r0 5 (0)) r0 6 (0)) r0 7 ((u2 (u2 m.1 r0 5 (0)) r0 6 (0)) r1 2)) r0 8 (i2)), m.2.1, m.2.2) Q)  : X G dp a b M1_begin 8 [some (rV (some r0)), some (rV (some r1)), some (iV (i2)), o3] [] m Q := by
  refine X_aload_n dX1_begin_8 rfl rfl ?_
  refine Y_iconst dX1_begin_9 (by unfold i32; omega) ?_
  refine X_putI dX1_begin_10 fw_1_29 rfl h1 ?_
  refine X_aload_n dX1_begin_13 rfl rfl ?_
  refine Y_iconst dX1_begin_14 (by unfold i32; omega) ?_
  refine X_putI dX1_begin_15 fw_1_33 rfl h1 ?_
  refine X_aload_n dX1_begin_18 rfl rfl ?_
  refine X_aload_n dX1_begin_19 rfl rfl ?_
  refine X_getI dX1_begin_20 fl_1_48 (by decide) h2 ?_
  refine X_putI dX1_begin_23 fw_1_36 rfl h1 ?_
  refine X_aload_n dX1_begin_26 rfl rfl ?_
  refine X_iload_n dX1_begin_27 rfl rfl ?_
  refine X_putI dX1_begin_28 fw_1_39 rfl h1 ?_
  refine Y_iconst dX1_begin_31 (by unfold i32; omega) ?_
  refine X_istore_n dX1_begin_32 rfl (Nat.le_of_ble_eq_true rfl) ?_
  exact k1

theorem s1_begin_33 {G : am_G} {dp a b : Nat} {m : am_M} {Q : am_Q} {i2 i3 : Int} {r0 r1 p1 p2 : Nat} {t_p1 n_p1 : Nat} (hdp : 1 ≤ dp) (h1 : am_ob m r0 1) (h2 : m.2.1 r0 0 = some p1) (h3 : t_p1 = 103 ∨ t_p1 = 104) (h4 : am_ar m p1 t_p1 n_p1) (h7 : ¬ (3 ≤ i3) → m.2.1 p1 (i3).toNat = some p2) (k1 : (3 ≤ i3) → Q (.inl none) m) (k2 : ¬ (3 ≤ i3) → ∀ Q' : am_Q, (∀ (m' : am_M), X G dp a b M1_begin 50 [some (rV (some r0)), some (rV (some r1)), some (iV (i2)), some (iV (i3))] [] m' Q → Q' (.inl none) m') → T G (dp - 1) 0 0 MJ7_fill_d0a16 [rV (some p2), lV (1000000000)] m Q') (h5 : ¬ (3 ≤ i3) → 0 ≤ i3 := by intros; first | omega | (dsimp only at *; omega)) (h6 : ¬ (3 ≤ i3) → i3 < (n_p1 : Int) := by intros; first | omega | (dsimp only at *; omega)) : X G dp a b M1_begin 33 [some (rV (some r0)), some (rV (some r1)), some (iV (i2)), some (iV (i3))] [] m Q := by
  refine X_iload_n dX1_begin_33 rfl rfl ?_
  refine Y_iconst dX1_begin_34 (by unfold i32; omega) ?_
  refine X_icmp_ge (tgt := 74) dX1_begin_35 (by decide) (fun c1 => ?_) (fun c1 => ?_)
  · exact X_vret dX1_begin_74 rfl (k1 c1)
  · refine X_aload_n dX1_begin_38 rfl rfl ?_
    refine X_getP dX1_begin_39 fl_1_11 rfl h1 ?_
    refine am_ptr h2 ?_
    refine X_iload_n dX1_begin_42 rfl rfl ?_
    refine X_aald dX1_begin_43 h3 h4 (h5 c1) (h6 c1) ?_
    refine am_ptr (h7 c1) ?_
    refine X_ldc2 dX1_begin_44 kc_1_53 (by unfold i64; omega) ?_
    exact X_callS (As := [rV (some p2), lV (1000000000)]) (rest := []) (a' := 0) (b' := 0) dX1_begin_47 tJ7_fill_d0a16 ml_1_55 rfl rfl (Nat.le_of_ble_eq_true rfl) rfl hdp (Nat.zero_le _) (Nat.zero_le _) ((k2 c1) _ (fun m' h => h))

theorem s1_begin_50 {G : am_G} {dp a b : Nat} {m : am_M} {Q : am_Q} {i2 i3 : Int} {r0 r1 p1 p2 p3 : Nat} {t_p1 n_p1 n_p2 n_p3 : Nat} (h1 : am_ob m r0 1) (h2 : m.2.1 r0 1 = some p1) (h3 : t_p1 = 103 ∨ t_p1 = 104) (h4 : am_ar m p1 t_p1 n_p1) (h7 : m.2.1 p1 (i3).toNat = some p2) (h8 : am_arw m p2 101 n_p2) (h10 : m.2.1 r0 2 = some p3) (h11 : am_arw m p3 100 n_p3) (k1 : X G dp a b M1_begin 33 [some (rV (some r0)), some (rV (some r1)), some (iV (i2)), some (iV (wr (i3 + 1)))] [] ((u2 (u2 m.1 p2 ((0 : Int)).toNat (1000000000)) p3 (i3).toNat ((-1))), m.2.1, m.2.2) Q) (h5 : 0 ≤ i3 := by intros; first | omega | (dsimp only at *; omega)) (h6 : i3 < (n_p1 : Int) := by intros; first | omega | (dsimp only at *; omega)) (h9 : 0 < (n_p2 : Int) := by intros; first | omega | (dsimp only at *; omega)) (h12 : i3 < (n_p3 : Int) := by intros; first | omega | (dsimp only at *; omega)) : X G dp a b M1_begin 50 [some (rV (some r0)), some (rV (some r1)), some (iV (i2)), some (iV (i3))] [] m Q := by
  refine X_aload_n dX1_begin_50 rfl rfl ?_
  refine X_getP dX1_begin_51 fl_1_16 rfl h1 ?_
  refine am_ptr h2 ?_
  refine X_iload_n dX1_begin_54 rfl rfl ?_
  refine X_aald dX1_begin_55 h3 h4 h5 h6 ?_
  refine am_ptr h7 ?_
  refine Y_iconst dX1_begin_56 (by unfold i32; omega) ?_
  refine X_ldc2 dX1_begin_57 kc_1_53 (by unfold i64; omega) ?_
  refine X_last dX1_begin_60 h8 (by decide) h9 ?_
  refine X_aload_n dX1_begin_61 rfl rfl ?_
  refine X_getP dX1_begin_62 fl_1_19 rfl h1 ?_
  refine am_ptr h10 ?_
  refine X_iload_n dX1_begin_65 rfl rfl ?_
  refine Y_iconst dX1_begin_66 (by unfold i32; omega) ?_
  refine X_iast dX1_begin_67 h11 h5 h12 ?_
  refine X_iinc dX1_begin_68 rfl ?_
  refine X_goto (tgt := 33) dX1_begin_71 (by decide) ?_
  exact k1

theorem s1_goOn_0 {G : am_G} {dp a b : Nat} {m : am_M} {Q : am_Q} {i2 : Int} {r0 r1 : Nat} {o3 : Option am_V} (h1 : am_ob m r0 1) (k1 : X G dp a b M1_goOn 5 [some (rV (some r0)), some (rV (some r1)), some (iV (i2)), some (iV (m.1 r0 5))] [] m Q)  : X G dp a b M1_goOn 0 [some (rV (some r0)), some (rV (some r1)), some (iV (i2)), o3] [] m Q := by
  refine X_aload_n dX1_goOn_0 rfl rfl ?_
  refine X_getI dX1_goOn_1 fl_1_29 (by decide) h1 ?_
  refine X_istore_n dX1_goOn_4 rfl (Nat.le_of_ble_eq_true rfl) ?_
  exact k1

theorem s1_goOn_5 {G : am_G} {dp a b : Nat} {m : am_M} {Q : am_Q} {i2 i3 : Int} {r0 r1 : Nat} (hdp : 1 ≤ dp) (h1 : am_ob m r0 1) (k1 : (i2 ≤ i3) → Q (.inl none) m) (k2 : ¬ (i2 ≤ i3) → (300 ≤ i3) → Q (.inl none) m) (k3 : ¬ (i2 ≤ i3) → ¬ (300 ≤ i3) → ∀ Q' : am_Q, (∀ (z : Int) (m' : am_M), X G dp a b M1_goOn 21 [some (rV (some r0)), some (rV (some r1)), some (iV (i2)), some (iV (i3))] [iV (z)] m' Q → Q' (.inl (some (iV (z)))) m') → T G (dp - 1) 0 0 M1_isOver [rV (some r0)] m Q')  : X G dp a b M1_goOn 5 [some (rV (some r0)), some (rV (some r1)), some (iV (i2)), some (iV (i3))] [] m Q := by
  refine X_iload_n dX1_goOn_5 rfl rfl ?_
  refine X_iload_n dX1_goOn_6 rfl rfl ?_
  refine X_icmp_ge (tgt := 42) dX1_goOn_7 (by decide) (fun c1 => ?_) (fun c1 => ?_)
  · exact X_vret dX1_goOn_42 rfl (k1 c1)
  · refine X_iload_n dX1_goOn_10 rfl rfl ?_
    refine Y_sipush dX1_goOn_11 (by omega) ?_
    refine X_icmp_ge (tgt := 42) dX1_goOn_14 (by decide) (fun c2 => ?_) (fun c2 => ?_)
    · exact X_vret dX1_goOn_42 rfl (k2 c1 c2)
    · refine X_aload_n dX1_goOn_17 rfl rfl ?_
      exact X_callV (As := []) (rest := []) (a' := 0) (b' := 0) dX1_goOn_18 t1_isOver ml_1_58 h1 rfl rfl (Nat.le_of_ble_eq_true rfl) rfl hdp (Nat.zero_le _) (Nat.zero_le _) ((k3 c1 c2) _ (fun z m' h => h))

theorem s1_goOn_21 {G : am_G} {dp a b : Nat} {m : am_M} {Q : am_Q} {i2 i3 i90 : Int} {r0 r1 : Nat} (hdp : 1 ≤ dp) (h1 : am_ob m r1 3) (h2 : am_ob m r0 1) (k1 : ¬ (i90 = 0) → Q (.inl none) m) (k2 : (i90 = 0) → ((m.1 r1 3) ≤ 0) → Q (.inl none) m) (k3 : (i90 = 0) → ¬ ((m.1 r1 3) ≤ 0) → ∀ Q' : am_Q, (∀ (m' : am_M), X G dp a b M1_goOn 36 [some (rV (some r0)), some (rV (some r1)), some (iV (i2)), some (iV (i3))] [] m' Q → Q' (.inl none) m') → T G (dp - 1) 0 0 M1_drawOne [rV (some r0), rV (some r1)] m Q')  : X G dp a b M1_goOn 21 [some (rV (some r0)), some (rV (some r1)), some (iV (i2)), some (iV (i3))] [iV (i90)] m Q := by
  refine X_if_ne (tgt := 42) dX1_goOn_21 (by decide) (fun c1 => ?_) (fun c1 => ?_)
  · exact X_vret dX1_goOn_42 rfl (k1 c1)
  · refine X_aload_n dX1_goOn_24 rfl rfl ?_
    refine X_getI dX1_goOn_25 fl_1_62 (by decide) h1 ?_
    refine X_if_le (tgt := 42) dX1_goOn_28 (by decide) (fun c2 => ?_) (fun c2 => ?_)
    · exact X_vret dX1_goOn_42 rfl (k2 c1 c2)
    · refine X_aload_n dX1_goOn_31 rfl rfl ?_
      refine X_aload_n dX1_goOn_32 rfl rfl ?_
      exact X_callV (As := [rV (some r1)]) (rest := []) (a' := 0) (b' := 0) dX1_goOn_33 t1_drawOne ml_1_65 h2 rfl rfl (Nat.le_of_ble_eq_true rfl) rfl hdp (Nat.zero_le _) (Nat.zero_le _) ((k3 c1 c2) _ (fun m' h => h))

theorem s1_goOn_36 {G : am_G} {dp a b : Nat} {m : am_M} {Q : am_Q} {i2 i3 : Int} {r0 r1 : Nat}  (k1 : X G dp a b M1_goOn 5 [some (rV (some r0)), some (rV (some r1)), some (iV (i2)), some (iV (wr (i3 + 1)))] [] m Q)  : X G dp a b M1_goOn 36 [some (rV (some r0)), some (rV (some r1)), some (iV (i2)), some (iV (i3))] [] m Q := by
  refine X_iinc dX1_goOn_36 rfl ?_
  refine X_goto (tgt := 5) dX1_goOn_39 (by decide) ?_
  exact k1

theorem s1_isOver_0 {G : am_G} {dp a b : Nat} {m : am_M} {Q : am_Q} {r0 : Nat} (h1 : am_ob m r0 1) (k1 : ¬ ((m.1 r0 7) = 0) → Q (.inl (some (iV (0)))) m) (k2 : ((m.1 r0 7) = 0) → Q (.inl (some (iV (1)))) m)  : X G dp a b M1_isOver 0 [some (rV (some r0))] [] m Q := by
  refine X_aload_n dX1_isOver_0 rfl rfl ?_
  refine X_getI dX1_isOver_1 fl_1_36 (by decide) h1 ?_
  refine X_if_ne (tgt := 11) dX1_isOver_4 (by decide) (fun c1 => ?_) (fun c1 => ?_)
  · refine Y_iconst dX1_isOver_11 (by unfold i32; omega) ?_
    exact X_zret dX1_isOver_12 rfl (by decide) (k1 c1)
  · refine Y_iconst dX1_isOver_7 (by unfold i32; omega) ?_
    refine X_goto (tgt := 12) dX1_isOver_8 (by decide) ?_
    exact X_zret dX1_isOver_12 rfl (by decide) (k2 c1)

theorem s1_isByHand_0 {G : am_G} {dp a b : Nat} {m : am_M} {Q : am_Q} {r0 r1 : Nat} (hdp : 1 ≤ dp) (h1 : am_ob m r0 1) (k1 : ∀ Q' : am_Q, (∀ (z : Int) (m' : am_M), X G dp a b M1_isByHand 4 [some (rV (some r0)), some (rV (some r1))] [iV (z)] m' Q → Q' (.inl (some (iV (z)))) m') → T G (dp - 1) 0 0 M1_isOver [rV (some r0)] m Q')  : X G dp a b M1_isByHand 0 [some (rV (some r0)), some (rV (some r1))] [] m Q := by
  refine X_aload_n dX1_isByHand_0 rfl rfl ?_
  exact X_callV (As := []) (rest := []) (a' := 0) (b' := 0) dX1_isByHand_1 t1_isOver ml_1_58 h1 rfl rfl (Nat.le_of_ble_eq_true rfl) rfl hdp (Nat.zero_le _) (Nat.zero_le _) (k1 _ (fun z m' h => h))

theorem s1_isByHand_4 {G : am_G} {dp a b : Nat} {m : am_M} {Q : am_Q} {i90 : Int} {r0 r1 p1 : Nat} {n_p1 : Nat} (h1 : am_ob m r0 1) (h2 : am_ob m r1 3) (h3 : m.2.1 r1 1 = some p1) (h4 : am_ar m p1 100 n_p1) (k1 : ¬ (i90 = 0) → Q (.inl (some (iV (0)))) m) (k2 : (i90 = 0) → ((m.1 r0 5) < (m.1 p1 ((2 : Int)).toNat)) → Q (.inl (some (iV (0)))) m) (k3 : (i90 = 0) → ¬ ((m.1 r0 5) < (m.1 p1 ((2 : Int)).toNat)) → Q (.inl (some (iV (1)))) m) (h5 : i90 = 0 → 2 < (n_p1 : Int) := by intros; first | omega | (dsimp only at *; omega)) : X G dp a b M1_isByHand 4 [some (rV (some r0)), some (rV (some r1))] [iV (i90)] m Q := by
  refine X_if_ne (tgt := 24) dX1_isByHand_4 (by decide) (fun c1 => ?_) (fun c1 => ?_)
  · refine Y_iconst dX1_isByHand_24 (by unfold i32; omega) ?_
    exact X_zret dX1_isByHand_25 rfl (by decide) (k1 c1)
  · refine X_aload_n dX1_isByHand_7 rfl rfl ?_
    refine X_getI dX1_isByHand_8 fl_1_29 (by decide) h1 ?_
    refine X_aload_n dX1_isByHand_11 rfl rfl ?_
    refine X_getP dX1_isByHand_12 fl_1_69 rfl h2 ?_
    refine am_ptr h3 ?_
    refine Y_iconst dX1_isByHand_15 (by unfold i32; omega) ?_
    refine X_iald dX1_isByHand_16 h4 (by decide) (h5 c1) ?_
    refine X_icmp_lt (tgt := 24) dX1_isByHand_17 (by decide) (fun c2 => ?_) (fun c2 => ?_)
    · refine Y_iconst dX1_isByHand_24 (by unfold i32; omega) ?_
      exact X_zret dX1_isByHand_25 rfl (by decide) (k2 c1 c2)
    · refine Y_iconst dX1_isByHand_20 (by unfold i32; omega) ?_
      refine X_goto (tgt := 25) dX1_isByHand_21 (by decide) ?_
      exact X_zret dX1_isByHand_25 rfl (by decide) (k3 c1 c2)

theorem s1_isDone_0 {G : am_G} {dp a b : Nat} {m : am_M} {Q : am_Q} {i1 : Int} {r0 p1 : Nat} {n_p1 : Nat} (h1 : am_ob m r0 1) (h2 : m.2.1 r0 2 = some p1) (h3 : am_ar m p1 100 n_p1) (k1 : ((m.1 p1 (i1).toNat) = (-1)) → Q (.inl (some (iV (0)))) m) (k2 : ¬ ((m.1 p1 (i1).toNat) = (-1)) → Q (.inl (some (iV (1)))) m) (h4 : 0 ≤ i1 := by intros; first | omega | (dsimp only at *; omega)) (h5 : i1 < (n_p1 : Int) := by intros; first | omega | (dsimp only at *; omega)) : X G dp a b M1_isDone 0 [some (rV (some r0)), some (iV (i1))] [] m Q := by
  refine X_aload_n dX1_isDone_0 rfl rfl ?_
  refine X_getP dX1_isDone_1 fl_1_19 rfl h1 ?_
  refine am_ptr h2 ?_
  refine X_iload_n dX1_isDone_4 rfl rfl ?_
  refine X_iald dX1_isDone_5 h3 h4 h5 ?_
  refine Y_iconst dX1_isDone_6 (by unfold i32; omega) ?_
  refine X_icmp_eq (tgt := 14) dX1_isDone_7 (by decide) (fun c1 => ?_) (fun c1 => ?_)
  · refine Y_iconst dX1_isDone_14 (by unfold i32; omega) ?_
    exact X_zret dX1_isDone_15 rfl (by decide) (k1 c1)
  · refine Y_iconst dX1_isDone_10 (by unfold i32; omega) ?_
    refine X_goto (tgt := 15) dX1_isDone_11 (by decide) ?_
    exact X_zret dX1_isDone_15 rfl (by decide) (k2 c1)

theorem s1_latestRisk_0 {G : am_G} {dp a b : Nat} {m : am_M} {Q : am_Q} {i1 : Int} {r0 p1 p2 : Nat} {t_p1 n_p1 n_p2 : Nat} (h1 : am_ob m r0 1) (h2 : m.2.1 r0 1 = some p1) (h3 : t_p1 = 103 ∨ t_p1 = 104) (h4 : am_ar m p1 t_p1 n_p1) (h7 : m.2.1 p1 (i1).toNat = some p2) (h8 : am_ar m p2 101 n_p2) (k1 : Q (.inl (some (lV (m.1 p2 (m.1 r0 5).toNat)))) m) (h5 : 0 ≤ i1 := by intros; first | omega | (dsimp only at *; omega)) (h6 : i1 < (n_p1 : Int) := by intros; first | omega | (dsimp only at *; omega)) (h9 : 0 ≤ m.1 r0 5 := by intros; first | omega | (dsimp only at *; omega)) (h10 : m.1 r0 5 < (n_p2 : Int) := by intros; first | omega | (dsimp only at *; omega)) : X G dp a b M1_latestRisk 0 [some (rV (some r0)), some (iV (i1))] [] m Q := by
  refine X_aload_n dX1_latestRisk_0 rfl rfl ?_
  refine X_getP dX1_latestRisk_1 fl_1_16 rfl h1 ?_
  refine am_ptr h2 ?_
  refine X_iload_n dX1_latestRisk_4 rfl rfl ?_
  refine X_aald dX1_latestRisk_5 h3 h4 h5 h6 ?_
  refine am_ptr h7 ?_
  refine X_aload_n dX1_latestRisk_6 rfl rfl ?_
  refine X_getI dX1_latestRisk_7 fl_1_29 (by decide) h1 ?_
  refine X_lald dX1_latestRisk_10 h8 h9 h10 ?_
  exact X_lret dX1_latestRisk_11 rfl k1

theorem s1_drawOne_0 {G : am_G} {dp a b : Nat} {m : am_M} {Q : am_Q} {r0 r1 p1 p2 p3 : Nat} {o2 o3 : Option am_V} {n_p1 n_p2 n_p3 : Nat} (h1 : am_ob m r1 3) (h3 : am_obw m r0 1) (h5 : m.2.1 r0 4 = some p1) (h9 : am_arw m p1 100 n_p1) (h10 : m.2.1 r0 3 = some p2) (h11 : am_arw m p2 100 n_p2) (h14 : m.2.1 r0 3 = some p3) (h15 : am_arw m p3 100 n_p3) (k1 : ((m.1 r1 3) ≤ 0) → Q (.inl none) m) (k2 : ¬ ((m.1 r1 3) ≤ 0) → (200 < (m.1 r1 3)) → Q (.inl none) m) (k3 : ¬ ((m.1 r1 3) ≤ 0) → ¬ (200 < (m.1 r1 3)) → ((m.1 r0 5) < 300) → ¬ (((u2 m.1 r0 8 (wr ((wr ((m.1 r0 8) * 1103515245)) + 12345))) p1 (Int.tmod (ian (iushx ((u2 m.1 r0 8 (wr ((wr ((m.1 r0 8) * 1103515245)) + 12345))) r0 8) 16) 32767) ((u2 m.1 r0 8 (wr ((wr ((m.1 r0 8) * 1103515245)) + 12345))) r1 3)).toNat) = 0) → X G dp a b M1_drawOne 101 [some (rV (some r0)), some (rV (some r1)), some (iV (Int.tmod (ian (iushx ((u2 m.1 r0 8 (wr ((wr ((m.1 r0 8) * 1103515245)) + 12345))) r0 8) 16) 32767) ((u2 m.1 r0 8 (wr ((wr ((m.1 r0 8) * 1103515245)) + 12345))) r1 3))), some (iV (0))] [] ((u2 (u2 (u2 m.1 r0 8 (wr ((wr ((m.1 r0 8) * 1103515245)) + 12345))) p1 (Int.tmod (ian (iushx ((u2 m.1 r0 8 (wr ((wr ((m.1 r0 8) * 1103515245)) + 12345))) r0 8) 16) 32767) ((u2 m.1 r0 8 (wr ((wr ((m.1 r0 8) * 1103515245)) + 12345))) r1 3)).toNat (wr (((u2 m.1 r0 8 (wr ((wr ((m.1 r0 8) * 1103515245)) + 12345))) p1 (Int.tmod (ian (iushx ((u2 m.1 r0 8 (wr ((wr ((m.1 r0 8) * 1103515245)) + 12345))) r0 8) 16) 32767) ((u2 m.1 r0 8 (wr ((wr ((m.1 r0 8) * 1103515245)) + 12345))) r1 3)).toNat) + 1))) p2 ((u2 (u2 m.1 r0 8 (wr ((wr ((m.1 r0 8) * 1103515245)) + 12345))) p1 (Int.tmod (ian (iushx ((u2 m.1 r0 8 (wr ((wr ((m.1 r0 8) * 1103515245)) + 12345))) r0 8) 16) 32767) ((u2 m.1 r0 8 (wr ((wr ((m.1 r0 8) * 1103515245)) + 12345))) r1 3)).toNat (wr (((u2 m.1 r0 8 (wr ((wr ((m.1 r0 8) * 1103515245)) + 12345))) p1 (Int.tmod (ian (iushx ((u2 m.1 r0 8 (wr ((wr ((m.1 r0 8) * 1103515245)) + 12345))) r0 8) 16) 32767) ((u2 m.1 r0 8 (wr ((wr ((m.1 r0 8) * 1103515245)) + 12345))) r1 3)).toNat) + 1))) r0 5).toNat (Int.tmod (ian (iushx ((u2 m.1 r0 8 (wr ((wr ((m.1 r0 8) * 1103515245)) + 12345))) r0 8) 16) 32767) ((u2 m.1 r0 8 (wr ((wr ((m.1 r0 8) * 1103515245)) + 12345))) r1 3))), m.2.1, m.2.2) Q) (k4 : ¬ ((m.1 r1 3) ≤ 0) → ¬ (200 < (m.1 r1 3)) → ((m.1 r0 5) < 300) → (((u2 m.1 r0 8 (wr ((wr ((m.1 r0 8) * 1103515245)) + 12345))) p1 (Int.tmod (ian (iushx ((u2 m.1 r0 8 (wr ((wr ((m.1 r0 8) * 1103515245)) + 12345))) r0 8) 16) 32767) ((u2 m.1 r0 8 (wr ((wr ((m.1 r0 8) * 1103515245)) + 12345))) r1 3)).toNat) = 0) → X G dp a b M1_drawOne 101 [some (rV (some r0)), some (rV (some r1)), some (iV (Int.tmod (ian (iushx ((u2 m.1 r0 8 (wr ((wr ((m.1 r0 8) * 1103515245)) + 12345))) r0 8) 16) 32767) ((u2 m.1 r0 8 (wr ((wr ((m.1 r0 8) * 1103515245)) + 12345))) r1 3))), some (iV (0))] [] ((u2 (u2 (u2 (u2 m.1 r0 8 (wr ((wr ((m.1 r0 8) * 1103515245)) + 12345))) r0 6 (wr (((u2 m.1 r0 8 (wr ((wr ((m.1 r0 8) * 1103515245)) + 12345))) r0 6) + 1))) p1 (Int.tmod (ian (iushx ((u2 m.1 r0 8 (wr ((wr ((m.1 r0 8) * 1103515245)) + 12345))) r0 8) 16) 32767) ((u2 m.1 r0 8 (wr ((wr ((m.1 r0 8) * 1103515245)) + 12345))) r1 3)).toNat (wr (((u2 (u2 m.1 r0 8 (wr ((wr ((m.1 r0 8) * 1103515245)) + 12345))) r0 6 (wr (((u2 m.1 r0 8 (wr ((wr ((m.1 r0 8) * 1103515245)) + 12345))) r0 6) + 1))) p1 (Int.tmod (ian (iushx ((u2 m.1 r0 8 (wr ((wr ((m.1 r0 8) * 1103515245)) + 12345))) r0 8) 16) 32767) ((u2 m.1 r0 8 (wr ((wr ((m.1 r0 8) * 1103515245)) + 12345))) r1 3)).toNat) + 1))) p3 ((u2 (u2 (u2 m.1 r0 8 (wr ((wr ((m.1 r0 8) * 1103515245)) + 12345))) r0 6 (wr (((u2 m.1 r0 8 (wr ((wr ((m.1 r0 8) * 1103515245)) + 12345))) r0 6) + 1))) p1 (Int.tmod (ian (iushx ((u2 m.1 r0 8 (wr ((wr ((m.1 r0 8) * 1103515245)) + 12345))) r0 8) 16) 32767) ((u2 m.1 r0 8 (wr ((wr ((m.1 r0 8) * 1103515245)) + 12345))) r1 3)).toNat (wr (((u2 (u2 m.1 r0 8 (wr ((wr ((m.1 r0 8) * 1103515245)) + 12345))) r0 6 (wr (((u2 m.1 r0 8 (wr ((wr ((m.1 r0 8) * 1103515245)) + 12345))) r0 6) + 1))) p1 (Int.tmod (ian (iushx ((u2 m.1 r0 8 (wr ((wr ((m.1 r0 8) * 1103515245)) + 12345))) r0 8) 16) 32767) ((u2 m.1 r0 8 (wr ((wr ((m.1 r0 8) * 1103515245)) + 12345))) r1 3)).toNat) + 1))) r0 5).toNat (Int.tmod (ian (iushx ((u2 m.1 r0 8 (wr ((wr ((m.1 r0 8) * 1103515245)) + 12345))) r0 8) 16) 32767) ((u2 m.1 r0 8 (wr ((wr ((m.1 r0 8) * 1103515245)) + 12345))) r1 3))), m.2.1, m.2.2) Q) (k5 : ¬ ((m.1 r1 3) ≤ 0) → ¬ (200 < (m.1 r1 3)) → ¬ ((m.1 r0 5) < 300) → Q (.inl none) m) (h4 : ¬ ((m.1 r1 3) ≤ 0) → ¬ (200 < (m.1 r1 3)) → (m.1 r0 5) < 300 → ((u2 m.1 r0 8 (wr ((wr ((m.1 r0 8) * 1103515245)) + 12345))) r1 3) ≠ 0 := by intros; first | omega | (dsimp only at *; omega)) (h7 : ¬ ((m.1 r1 3) ≤ 0) → ¬ (200 < (m.1 r1 3)) → (m.1 r0 5) < 300 → 0 ≤ Int.tmod (ian (iushx ((u2 m.1 r0 8 (wr ((wr ((m.1 r0 8) * 1103515245)) + 12345))) r0 8) 16) 32767) ((u2 m.1 r0 8 (wr ((wr ((m.1 r0 8) * 1103515245)) + 12345))) r1 3) := by intros; first | omega | (dsimp only at *; omega)) (h8 : ¬ ((m.1 r1 3) ≤ 0) → ¬ (200 < (m.1 r1 3)) → (m.1 r0 5) < 300 → Int.tmod (ian (iushx ((u2 m.1 r0 8 (wr ((wr ((m.1 r0 8) * 1103515245)) + 12345))) r0 8) 16) 32767) ((u2 m.1 r0 8 (wr ((wr ((m.1 r0 8) * 1103515245)) + 12345))) r1 3) < (n_p1 : Int) := by intros; first | omega | (dsimp only at *; omega)) (h12 : ¬ ((m.1 r1 3) ≤ 0) → ¬ (200 < (m.1 r1 3)) → (m.1 r0 5) < 300 → ¬ (((u2 m.1 r0 8 (wr ((wr ((m.1 r0 8) * 1103515245)) + 12345))) p1 (Int.tmod (ian (iushx ((u2 m.1 r0 8 (wr ((wr ((m.1 r0 8) * 1103515245)) + 12345))) r0 8) 16) 32767) ((u2 m.1 r0 8 (wr ((wr ((m.1 r0 8) * 1103515245)) + 12345))) r1 3)).toNat) = 0) → 0 ≤ (u2 (u2 m.1 r0 8 (wr ((wr ((m.1 r0 8) * 1103515245)) + 12345))) p1 (Int.tmod (ian (iushx ((u2 m.1 r0 8 (wr ((wr ((m.1 r0 8) * 1103515245)) + 12345))) r0 8) 16) 32767) ((u2 m.1 r0 8 (wr ((wr ((m.1 r0 8) * 1103515245)) + 12345))) r1 3)).toNat (wr (((u2 m.1 r0 8 (wr ((wr ((m.1 r0 8) * 1103515245)) + 12345))) p1 (Int.tmod (ian (iushx ((u2 m.1 r0 8 (wr ((wr ((m.1 r0 8) * 1103515245)) + 12345))) r0 8) 16) 32767) ((u2 m.1 r0 8 (wr ((wr ((m.1 r0 8) * 1103515245)) + 12345))) r1 3)).toNat) + 1))) r0 5 := by intros; first | omega | (dsimp only at *; omega)) (h13 : ¬ ((m.1 r1 3) ≤ 0) → ¬ (200 < (m.1 r1 3)) → (m.1 r0 5) < 300 → ¬ (((u2 m.1 r0 8 (wr ((wr ((m.1 r0 8) * 1103515245)) + 12345))) p1 (Int.tmod (ian (iushx ((u2 m.1 r0 8 (wr ((wr ((m.1 r0 8) * 1103515245)) + 12345))) r0 8) 16) 32767) ((u2 m.1 r0 8 (wr ((wr ((m.1 r0 8) * 1103515245)) + 12345))) r1 3)).toNat) = 0) → (u2 (u2 m.1 r0 8 (wr ((wr ((m.1 r0 8) * 1103515245)) + 12345))) p1 (Int.tmod (ian (iushx ((u2 m.1 r0 8 (wr ((wr ((m.1 r0 8) * 1103515245)) + 12345))) r0 8) 16) 32767) ((u2 m.1 r0 8 (wr ((wr ((m.1 r0 8) * 1103515245)) + 12345))) r1 3)).toNat (wr (((u2 m.1 r0 8 (wr ((wr ((m.1 r0 8) * 1103515245)) + 12345))) p1 (Int.tmod (ian (iushx ((u2 m.1 r0 8 (wr ((wr ((m.1 r0 8) * 1103515245)) + 12345))) r0 8) 16) 32767) ((u2 m.1 r0 8 (wr ((wr ((m.1 r0 8) * 1103515245)) + 12345))) r1 3)).toNat) + 1))) r0 5 < (n_p2 : Int) := by intros; first | omega | (dsimp only at *; omega)) (h16 : ¬ ((m.1 r1 3) ≤ 0) → ¬ (200 < (m.1 r1 3)) → (m.1 r0 5) < 300 → ((u2 m.1 r0 8 (wr ((wr ((m.1 r0 8) * 1103515245)) + 12345))) p1 (Int.tmod (ian (iushx ((u2 m.1 r0 8 (wr ((wr ((m.1 r0 8) * 1103515245)) + 12345))) r0 8) 16) 32767) ((u2 m.1 r0 8 (wr ((wr ((m.1 r0 8) * 1103515245)) + 12345))) r1 3)).toNat) = 0 → 0 ≤ (u2 (u2 (u2 m.1 r0 8 (wr ((wr ((m.1 r0 8) * 1103515245)) + 12345))) r0 6 (wr (((u2 m.1 r0 8 (wr ((wr ((m.1 r0 8) * 1103515245)) + 12345))) r0 6) + 1))) p1 (Int.tmod (ian (iushx ((u2 m.1 r0 8 (wr ((wr ((m.1 r0 8) * 1103515245)) + 12345))) r0 8) 16) 32767) ((u2 m.1 r0 8 (wr ((wr ((m.1 r0 8) * 1103515245)) + 12345))) r1 3)).toNat (wr (((u2 (u2 m.1 r0 8 (wr ((wr ((m.1 r0 8) * 1103515245)) + 12345))) r0 6 (wr (((u2 m.1 r0 8 (wr ((wr ((m.1 r0 8) * 1103515245)) + 12345))) r0 6) + 1))) p1 (Int.tmod (ian (iushx ((u2 m.1 r0 8 (wr ((wr ((m.1 r0 8) * 1103515245)) + 12345))) r0 8) 16) 32767) ((u2 m.1 r0 8 (wr ((wr ((m.1 r0 8) * 1103515245)) + 12345))) r1 3)).toNat) + 1))) r0 5 := by intros; first | omega | (dsimp only at *; omega)) (h17 : ¬ ((m.1 r1 3) ≤ 0) → ¬ (200 < (m.1 r1 3)) → (m.1 r0 5) < 300 → ((u2 m.1 r0 8 (wr ((wr ((m.1 r0 8) * 1103515245)) + 12345))) p1 (Int.tmod (ian (iushx ((u2 m.1 r0 8 (wr ((wr ((m.1 r0 8) * 1103515245)) + 12345))) r0 8) 16) 32767) ((u2 m.1 r0 8 (wr ((wr ((m.1 r0 8) * 1103515245)) + 12345))) r1 3)).toNat) = 0 → (u2 (u2 (u2 m.1 r0 8 (wr ((wr ((m.1 r0 8) * 1103515245)) + 12345))) r0 6 (wr (((u2 m.1 r0 8 (wr ((wr ((m.1 r0 8) * 1103515245)) + 12345))) r0 6) + 1))) p1 (Int.tmod (ian (iushx ((u2 m.1 r0 8 (wr ((wr ((m.1 r0 8) * 1103515245)) + 12345))) r0 8) 16) 32767) ((u2 m.1 r0 8 (wr ((wr ((m.1 r0 8) * 1103515245)) + 12345))) r1 3)).toNat (wr (((u2 (u2 m.1 r0 8 (wr ((wr ((m.1 r0 8) * 1103515245)) + 12345))) r0 6 (wr (((u2 m.1 r0 8 (wr ((wr ((m.1 r0 8) * 1103515245)) + 12345))) r0 6) + 1))) p1 (Int.tmod (ian (iushx ((u2 m.1 r0 8 (wr ((wr ((m.1 r0 8) * 1103515245)) + 12345))) r0 8) 16) 32767) ((u2 m.1 r0 8 (wr ((wr ((m.1 r0 8) * 1103515245)) + 12345))) r1 3)).toNat) + 1))) r0 5 < (n_p3 : Int) := by intros; first | omega | (dsimp only at *; omega)) : X G dp a b M1_drawOne 0 [some (rV (some r0)), some (rV (some r1)), o2, o3] [] m Q := by
  refine X_aload_n dX1_drawOne_0 rfl rfl ?_
  refine X_getI dX1_drawOne_1 fl_1_62 (by decide) h1 ?_
  refine X_if_le (tgt := 27) dX1_drawOne_4 (by decide) (fun c1 => ?_) (fun c1 => ?_)
  · exact X_vret dX1_drawOne_27 rfl (k1 c1)
  · refine X_aload_n dX1_drawOne_7 rfl rfl ?_
    refine X_getI dX1_drawOne_8 fl_1_62 (by decide) h1 ?_
    refine Y_sipush dX1_drawOne_11 (by omega) ?_
    refine X_icmp_gt (tgt := 27) dX1_drawOne_14 (by decide) (fun c2 => ?_) (fun c2 => ?_)
    · exact X_vret dX1_drawOne_27 rfl (k2 c1 c2)
    · refine X_aload_n dX1_drawOne_17 rfl rfl ?_
      refine X_getI dX1_drawOne_18 fl_1_29 (by decide) (am_ow h3) ?_
      refine Y_sipush dX1_drawOne_21 (by omega) ?_
      refine X_icmp_lt (tgt := 28) dX1_drawOne_24 (by decide) (fun c3 => ?_) (fun c3 => ?_)
      · refine X_aload_n dX1_drawOne_28 rfl rfl ?_
        refine X_aload_n dX1_drawOne_29 rfl rfl ?_
        refine X_getI dX1_drawOne_30 fl_1_39 (by decide) (am_ow h3) ?_
        refine X_ldcI dX1_drawOne_33 kc_1_72 (by unfold i32; omega) ?_
        refine X_imul dX1_drawOne_35  ?_
        refine Y_sipush dX1_drawOne_36 (by omega) ?_
        refine X_iadd dX1_drawOne_39  ?_
        refine X_putI dX1_drawOne_40 fw_1_39 rfl h3 ?_
        refine X_aload_n dX1_drawOne_43 rfl rfl ?_
        refine X_getI dX1_drawOne_44 fl_1_39 (by decide) (am_ow h3) ?_
        refine Y_bipush dX1_drawOne_47 (by omega) ?_
        refine X_iushr dX1_drawOne_49  ?_
        refine Y_sipush dX1_drawOne_50 (by omega) ?_
        refine X_iand dX1_drawOne_53  ?_
        refine X_aload_n dX1_drawOne_54 rfl rfl ?_
        refine X_getI dX1_drawOne_55 fl_1_62 (by decide) h1 ?_
        refine X_irem dX1_drawOne_58 (h4 c1 c2 c3) ?_
        refine X_istore_n dX1_drawOne_59 rfl (Nat.le_of_ble_eq_true rfl) ?_
        refine X_aload_n dX1_drawOne_60 rfl rfl ?_
        refine X_getP dX1_drawOne_61 fl_1_26 rfl (am_ow h3) ?_
        refine am_ptr h5 ?_
        refine X_iload_n dX1_drawOne_64 rfl rfl ?_
        refine X_iald dX1_drawOne_65 (am_rw h9) (h7 c1 c2 c3) (h8 c1 c2 c3) ?_
        refine X_if_ne (tgt := 79) dX1_drawOne_66 (by decide) (fun c4 => ?_) (fun c4 => ?_)
        · refine X_aload_n dX1_drawOne_79 rfl rfl ?_
          refine X_getP dX1_drawOne_80 fl_1_26 rfl (am_ow h3) ?_
          refine am_ptr h5 ?_
          refine X_iload_n dX1_drawOne_83 rfl rfl ?_
          refine X_dup2 dX1_drawOne_84 rfl rfl ?_
          refine X_iald dX1_drawOne_85 (am_rw h9) (h7 c1 c2 c3) (h8 c1 c2 c3) ?_
          refine Y_iconst dX1_drawOne_86 (by unfold i32; omega) ?_
          refine X_iadd dX1_drawOne_87  ?_
          refine X_iast dX1_drawOne_88 h9 (h7 c1 c2 c3) (h8 c1 c2 c3) ?_
          refine X_aload_n dX1_drawOne_89 rfl rfl ?_
          refine X_getP dX1_drawOne_90 fl_1_23 rfl (am_ow h3) ?_
          refine am_ptr h10 ?_
          refine X_aload_n dX1_drawOne_93 rfl rfl ?_
          refine X_getI dX1_drawOne_94 fl_1_29 (by decide) (am_ow h3) ?_
          refine X_iload_n dX1_drawOne_97 rfl rfl ?_
          refine X_iast dX1_drawOne_98 h11 (h12 c1 c2 c3 c4) (h13 c1 c2 c3 c4) ?_
          refine Y_iconst dX1_drawOne_99 (by unfold i32; omega) ?_
          refine X_istore_n dX1_drawOne_100 rfl (Nat.le_of_ble_eq_true rfl) ?_
          exact (k3 c1 c2 c3 c4)
        · refine X_aload_n dX1_drawOne_69 rfl rfl ?_
          refine X_dup dX1_drawOne_70 rfl ?_
          refine X_getI dX1_drawOne_71 fl_1_33 (by decide) (am_ow h3) ?_
          refine Y_iconst dX1_drawOne_74 (by unfold i32; omega) ?_
          refine X_iadd dX1_drawOne_75  ?_
          refine X_putI dX1_drawOne_76 fw_1_33 rfl h3 ?_
          refine X_aload_n dX1_drawOne_79 rfl rfl ?_
          refine X_getP dX1_drawOne_80 fl_1_26 rfl (am_ow h3) ?_
          refine am_ptr h5 ?_
          refine X_iload_n dX1_drawOne_83 rfl rfl ?_
          refine X_dup2 dX1_drawOne_84 rfl rfl ?_
          refine X_iald dX1_drawOne_85 (am_rw h9) (h7 c1 c2 c3) (h8 c1 c2 c3) ?_
          refine Y_iconst dX1_drawOne_86 (by unfold i32; omega) ?_
          refine X_iadd dX1_drawOne_87  ?_
          refine X_iast dX1_drawOne_88 h9 (h7 c1 c2 c3) (h8 c1 c2 c3) ?_
          refine X_aload_n dX1_drawOne_89 rfl rfl ?_
          refine X_getP dX1_drawOne_90 fl_1_23 rfl (am_ow h3) ?_
          refine am_ptr h14 ?_
          refine X_aload_n dX1_drawOne_93 rfl rfl ?_
          refine X_getI dX1_drawOne_94 fl_1_29 (by decide) (am_ow h3) ?_
          refine X_iload_n dX1_drawOne_97 rfl rfl ?_
          refine X_iast dX1_drawOne_98 h15 (h16 c1 c2 c3 c4) (h17 c1 c2 c3 c4) ?_
          refine Y_iconst dX1_drawOne_99 (by unfold i32; omega) ?_
          refine X_istore_n dX1_drawOne_100 rfl (Nat.le_of_ble_eq_true rfl) ?_
          exact (k4 c1 c2 c3 c4)
      · exact X_vret dX1_drawOne_27 rfl (k5 c1 c2 c3)

theorem s1_drawOne_101 {G : am_G} {dp a b : Nat} {m : am_M} {Q : am_Q} {i2 i3 : Int} {r0 r1 p1 p2 : Nat} {t_p1 n_p1 : Nat} (hdp : 1 ≤ dp) (h1 : am_ob m r1 3) (h3 : am_obw m r0 1) (h4 : m.2.1 r0 1 = some p1) (h5 : t_p1 = 103 ∨ t_p1 = 104) (h6 : am_ar m p1 t_p1 n_p1) (h9 : ¬ ((m.1 r1 2) ≤ i3) → ¬ (3 ≤ i3) → m.2.1 p1 (i3).toNat = some p2) (k1 : ((m.1 r1 2) ≤ i3) → ∀ Q' : am_Q, (∀ (m' : am_M), X G dp a b M1_drawOne 172 [some (rV (some r0)), some (rV (some r1)), some (iV (i2)), some (iV (i3))] [] m' Q → Q' (.inl none) m') → T G (dp - 1) 0 0 M1_closeRaces [rV (some r0), rV (some r1)] ((u2 m.1 r0 5 (wr ((m.1 r0 5) + 1))), m.2.1, m.2.2) Q') (k2 : ¬ ((m.1 r1 2) ≤ i3) → (3 ≤ i3) → ∀ Q' : am_Q, (∀ (m' : am_M), X G dp a b M1_drawOne 172 [some (rV (some r0)), some (rV (some r1)), some (iV (i2)), some (iV (i3))] [] m' Q → Q' (.inl none) m') → T G (dp - 1) 0 0 M1_closeRaces [rV (some r0), rV (some r1)] ((u2 m.1 r0 5 (wr ((m.1 r0 5) + 1))), m.2.1, m.2.2) Q') (k3 : ¬ ((m.1 r1 2) ≤ i3) → ¬ (3 ≤ i3) → ∀ Q' : am_Q, (∀ (z : Int) (m' : am_M), X G dp a b M1_drawOne 131 [some (rV (some r0)), some (rV (some r1)), some (iV (i2)), some (iV (i3))] [iV (z), iV (wr ((m.1 r0 5) + 1)), rV (some p2)] m' Q → Q' (.inl (some (iV (z)))) m') → T G (dp - 1) 0 0 M1_isDone [rV (some r0), iV (i3)] m Q') (h7 : ¬ ((m.1 r1 2) ≤ i3) → ¬ (3 ≤ i3) → 0 ≤ i3 := by intros; first | omega | (dsimp only at *; omega)) (h8 : ¬ ((m.1 r1 2) ≤ i3) → ¬ (3 ≤ i3) → i3 < (n_p1 : Int) := by intros; first | omega | (dsimp only at *; omega)) : X G dp a b M1_drawOne 101 [some (rV (some r0)), some (rV (some r1)), some (iV (i2)), some (iV (i3))] [] m Q := by
  refine X_iload_n dX1_drawOne_101 rfl rfl ?_
  refine X_aload_n dX1_drawOne_102 rfl rfl ?_
  refine X_getI dX1_drawOne_103 fl_1_48 (by decide) h1 ?_
  refine X_icmp_ge (tgt := 157) dX1_drawOne_106 (by decide) (fun c1 => ?_) (fun c1 => ?_)
  · refine X_aload_n dX1_drawOne_157 rfl rfl ?_
    refine X_dup dX1_drawOne_158 rfl ?_
    refine X_getI dX1_drawOne_159 fl_1_29 (by decide) (am_ow h3) ?_
    refine Y_iconst dX1_drawOne_162 (by unfold i32; omega) ?_
    refine X_iadd dX1_drawOne_163  ?_
    refine X_putI dX1_drawOne_164 fw_1_29 rfl h3 ?_
    refine X_aload_n dX1_drawOne_167 rfl rfl ?_
    refine X_aload_n dX1_drawOne_168 rfl rfl ?_
    exact X_callV (As := [rV (some r1)]) (rest := []) (a' := 0) (b' := 0) dX1_drawOne_169 t1_closeRaces ml_1_85 (am_ow h3) rfl rfl (Nat.le_of_ble_eq_true rfl) rfl hdp (Nat.zero_le _) (Nat.zero_le _) ((k1 c1) _ (fun m' h => h))
  · refine X_iload_n dX1_drawOne_109 rfl rfl ?_
    refine Y_iconst dX1_drawOne_110 (by unfold i32; omega) ?_
    refine X_icmp_ge (tgt := 157) dX1_drawOne_111 (by decide) (fun c2 => ?_) (fun c2 => ?_)
    · refine X_aload_n dX1_drawOne_157 rfl rfl ?_
      refine X_dup dX1_drawOne_158 rfl ?_
      refine X_getI dX1_drawOne_159 fl_1_29 (by decide) (am_ow h3) ?_
      refine Y_iconst dX1_drawOne_162 (by unfold i32; omega) ?_
      refine X_iadd dX1_drawOne_163  ?_
      refine X_putI dX1_drawOne_164 fw_1_29 rfl h3 ?_
      refine X_aload_n dX1_drawOne_167 rfl rfl ?_
      refine X_aload_n dX1_drawOne_168 rfl rfl ?_
      exact X_callV (As := [rV (some r1)]) (rest := []) (a' := 0) (b' := 0) dX1_drawOne_169 t1_closeRaces ml_1_85 (am_ow h3) rfl rfl (Nat.le_of_ble_eq_true rfl) rfl hdp (Nat.zero_le _) (Nat.zero_le _) ((k2 c1 c2) _ (fun m' h => h))
    · refine X_aload_n dX1_drawOne_114 rfl rfl ?_
      refine X_getP dX1_drawOne_115 fl_1_16 rfl (am_ow h3) ?_
      refine am_ptr h4 ?_
      refine X_iload_n dX1_drawOne_118 rfl rfl ?_
      refine X_aald dX1_drawOne_119 h5 h6 (h7 c1 c2) (h8 c1 c2) ?_
      refine am_ptr (h9 c1 c2) ?_
      refine X_aload_n dX1_drawOne_120 rfl rfl ?_
      refine X_getI dX1_drawOne_121 fl_1_29 (by decide) (am_ow h3) ?_
      refine Y_iconst dX1_drawOne_124 (by unfold i32; omega) ?_
      refine X_iadd dX1_drawOne_125  ?_
      refine X_aload_n dX1_drawOne_126 rfl rfl ?_
      refine X_iload_n dX1_drawOne_127 rfl rfl ?_
      exact X_callV (As := [iV (i3)]) (rest := [iV (wr ((m.1 r0 5) + 1)), rV (some p2)]) (a' := 0) (b' := 0) dX1_drawOne_128 t1_isDone ml_1_73 (am_ow h3) rfl rfl (Nat.le_of_ble_eq_true rfl) rfl hdp (Nat.zero_le _) (Nat.zero_le _) ((k3 c1 c2) _ (fun z m' h => h))

theorem s1_drawOne_131 {G : am_G} {dp a b : Nat} {m : am_M} {Q : am_Q} {i2 i3 i90 i91 : Int} {r0 r1 r92 : Nat} (hdp : 1 ≤ dp) (h1 : am_ob m r0 1) (k1 : (i90 = 0) → ∀ Q' : am_Q, (∀ (z : Int) (m' : am_M), X G dp a b M1_drawOne 150 [some (rV (some r0)), some (rV (some r1)), some (iV (i2)), some (iV (i3))] [lV (z), iV (i91), rV (some r92)] m' Q → Q' (.inl (some (lV (z)))) m') → T G (dp - 1) 0 0 M1_stepped [rV (some r0), rV (some r1), iV (i3), iV (i2), iV (1)] m Q') (k2 : ¬ (i90 = 0) → ∀ Q' : am_Q, (∀ (z : Int) (m' : am_M), X G dp a b M1_drawOne 139 [some (rV (some r0)), some (rV (some r1)), some (iV (i2)), some (iV (i3))] [lV (z), iV (i91), rV (some r92)] m' Q → Q' (.inl (some (lV (z)))) m') → T G (dp - 1) 0 0 M1_latestRisk [rV (some r0), iV (i3)] m Q')  : X G dp a b M1_drawOne 131 [some (rV (some r0)), some (rV (some r1)), some (iV (i2)), some (iV (i3))] [iV (i90), iV (i91), rV (some r92)] m Q := by
  refine X_if_eq (tgt := 142) dX1_drawOne_131 (by decide) (fun c1 => ?_) (fun c1 => ?_)
  · refine X_aload_n dX1_drawOne_142 rfl rfl ?_
    refine X_aload_n dX1_drawOne_143 rfl rfl ?_
    refine X_iload_n dX1_drawOne_144 rfl rfl ?_
    refine X_iload_n dX1_drawOne_145 rfl rfl ?_
    refine Y_iconst dX1_drawOne_146 (by unfold i32; omega) ?_
    exact X_callV (As := [rV (some r1), iV (i3), iV (i2), iV (1)]) (rest := [iV (i91), rV (some r92)]) (a' := 0) (b' := 0) dX1_drawOne_147 t1_stepped ml_1_81 h1 rfl rfl (Nat.le_of_ble_eq_true rfl) rfl hdp (Nat.zero_le _) (Nat.zero_le _) ((k1 c1) _ (fun z m' h => h))
  · refine X_aload_n dX1_drawOne_134 rfl rfl ?_
    refine X_iload_n dX1_drawOne_135 rfl rfl ?_
    exact X_callV (As := [iV (i3)]) (rest := [iV (i91), rV (some r92)]) (a' := 0) (b' := 0) dX1_drawOne_136 t1_latestRisk ml_1_77 h1 rfl rfl (Nat.le_of_ble_eq_true rfl) rfl hdp (Nat.zero_le _) (Nat.zero_le _) ((k2 c1) _ (fun z m' h => h))

theorem s1_drawOne_139 {G : am_G} {dp a b : Nat} {m : am_M} {Q : am_Q} {i2 i3 i91 l90 : Int} {r0 r1 r92 : Nat}  (k1 : X G dp a b M1_drawOne 150 [some (rV (some r0)), some (rV (some r1)), some (iV (i2)), some (iV (i3))] [lV (l90), iV (i91), rV (some r92)] m Q)  : X G dp a b M1_drawOne 139 [some (rV (some r0)), some (rV (some r1)), some (iV (i2)), some (iV (i3))] [lV (l90), iV (i91), rV (some r92)] m Q := by
  refine X_goto (tgt := 150) dX1_drawOne_139 (by decide) ?_
  exact k1

theorem s1_drawOne_150 {G : am_G} {dp a b : Nat} {m : am_M} {Q : am_Q} {i2 i3 i91 l90 : Int} {r0 r1 r92 : Nat} {n_r92 : Nat} (h1 : am_arw m r92 101 n_r92) (k1 : X G dp a b M1_drawOne 101 [some (rV (some r0)), some (rV (some r1)), some (iV (i2)), some (iV (wr (i3 + 1)))] [] ((u2 m.1 r92 (i91).toNat (l90)), m.2.1, m.2.2) Q) (h2 : 0 ≤ i91 := by intros; first | omega | (dsimp only at *; omega)) (h3 : i91 < (n_r92 : Int) := by intros; first | omega | (dsimp only at *; omega)) : X G dp a b M1_drawOne 150 [some (rV (some r0)), some (rV (some r1)), some (iV (i2)), some (iV (i3))] [lV (l90), iV (i91), rV (some r92)] m Q := by
  refine X_last dX1_drawOne_150 h1 h2 h3 ?_
  refine X_iinc dX1_drawOne_151 rfl ?_
  refine X_goto (tgt := 101) dX1_drawOne_154 (by decide) ?_
  exact k1

theorem s1_drawOne_172 {G : am_G} {dp a b : Nat} {m : am_M} {Q : am_Q} {i2 i3 : Int} {r0 r1 : Nat}  (k1 : Q (.inl none) m)  : X G dp a b M1_drawOne 172 [some (rV (some r0)), some (rV (some r1)), some (iV (i2)), some (iV (i3))] [] m Q := by
  exact X_vret dX1_drawOne_172 rfl k1

theorem s1_closeRaces_0 {G : am_G} {dp a b : Nat} {m : am_M} {Q : am_Q} {r0 r1 : Nat} {o2 : Option am_V}  (k1 : X G dp a b M1_closeRaces 2 [some (rV (some r0)), some (rV (some r1)), some (iV (0))] [] m Q)  : X G dp a b M1_closeRaces 0 [some (rV (some r0)), some (rV (some r1)), o2] [] m Q := by
  refine Y_iconst dX1_closeRaces_0 (by unfold i32; omega) ?_
  refine X_istore_n dX1_closeRaces_1 rfl (Nat.le_of_ble_eq_true rfl) ?_
  exact k1

theorem s1_closeRaces_2 {G : am_G} {dp a b : Nat} {m : am_M} {Q : am_Q} {i2 : Int} {r0 r1 : Nat} (hdp : 1 ≤ dp) (h1 : am_ob m r1 3) (h2 : am_ob m r0 1) (k1 : ((m.1 r1 2) ≤ i2) → Q (.inl none) m) (k2 : ¬ ((m.1 r1 2) ≤ i2) → (3 ≤ i2) → Q (.inl none) m) (k3 : ¬ ((m.1 r1 2) ≤ i2) → ¬ (3 ≤ i2) → ∀ Q' : am_Q, (∀ (z : Int) (m' : am_M), X G dp a b M1_closeRaces 20 [some (rV (some r0)), some (rV (some r1)), some (iV (i2))] [iV (z)] m' Q → Q' (.inl (some (iV (z)))) m') → T G (dp - 1) 0 0 M1_isDone [rV (some r0), iV (i2)] m Q')  : X G dp a b M1_closeRaces 2 [some (rV (some r0)), some (rV (some r1)), some (iV (i2))] [] m Q := by
  refine X_iload_n dX1_closeRaces_2 rfl rfl ?_
  refine X_aload_n dX1_closeRaces_3 rfl rfl ?_
  refine X_getI dX1_closeRaces_4 fl_1_48 (by decide) h1 ?_
  refine X_icmp_ge (tgt := 62) dX1_closeRaces_7 (by decide) (fun c1 => ?_) (fun c1 => ?_)
  · exact X_vret dX1_closeRaces_62 rfl (k1 c1)
  · refine X_iload_n dX1_closeRaces_10 rfl rfl ?_
    refine Y_iconst dX1_closeRaces_11 (by unfold i32; omega) ?_
    refine X_icmp_ge (tgt := 62) dX1_closeRaces_12 (by decide) (fun c2 => ?_) (fun c2 => ?_)
    · exact X_vret dX1_closeRaces_62 rfl (k2 c1 c2)
    · refine X_aload_n dX1_closeRaces_15 rfl rfl ?_
      refine X_iload_n dX1_closeRaces_16 rfl rfl ?_
      exact X_callV (As := [iV (i2)]) (rest := []) (a' := 0) (b' := 0) dX1_closeRaces_17 t1_isDone ml_1_73 h2 rfl rfl (Nat.le_of_ble_eq_true rfl) rfl hdp (Nat.zero_le _) (Nat.zero_le _) ((k3 c1 c2) _ (fun z m' h => h))

theorem s1_closeRaces_20 {G : am_G} {dp a b : Nat} {m : am_M} {Q : am_Q} {i2 i90 : Int} {r0 r1 : Nat} (hdp : 1 ≤ dp) (h1 : am_ob m r0 1) (k1 : ¬ (i90 = 0) → X G dp a b M1_closeRaces 2 [some (rV (some r0)), some (rV (some r1)), some (iV (wr (i2 + 1)))] [] m Q) (k2 : (i90 = 0) → ∀ Q' : am_Q, (∀ (z : Int) (m' : am_M), X G dp a b M1_closeRaces 28 [some (rV (some r0)), some (rV (some r1)), some (iV (i2))] [lV (z)] m' Q → Q' (.inl (some (lV (z)))) m') → T G (dp - 1) 0 0 M1_latestRisk [rV (some r0), iV (i2)] m Q')  : X G dp a b M1_closeRaces 20 [some (rV (some r0)), some (rV (some r1)), some (iV (i2))] [iV (i90)] m Q := by
  refine X_if_ne (tgt := 56) dX1_closeRaces_20 (by decide) (fun c1 => ?_) (fun c1 => ?_)
  · refine X_iinc dX1_closeRaces_56 rfl ?_
    refine X_goto (tgt := 2) dX1_closeRaces_59 (by decide) ?_
    exact (k1 c1)
  · refine X_aload_n dX1_closeRaces_23 rfl rfl ?_
    refine X_iload_n dX1_closeRaces_24 rfl rfl ?_
    exact X_callV (As := [iV (i2)]) (rest := []) (a' := 0) (b' := 0) dX1_closeRaces_25 t1_latestRisk ml_1_77 h1 rfl rfl (Nat.le_of_ble_eq_true rfl) rfl hdp (Nat.zero_le _) (Nat.zero_le _) ((k2 c1) _ (fun z m' h => h))

theorem s1_closeRaces_28 {G : am_G} {dp a b : Nat} {m : am_M} {Q : am_Q} {i2 l90 : Int} {r0 r1 : Nat} (hdp : 1 ≤ dp) (h1 : am_ob m r1 3) (k1 : ∀ Q' : am_Q, (∀ (z : Int) (m' : am_M), X G dp a b M1_closeRaces 32 [some (rV (some r0)), some (rV (some r1)), some (iV (i2))] [lV (z), lV (l90)] m' Q → Q' (.inl (some (lV (z)))) m') → T G (dp - 1) 0 0 M3_goal [rV (some r1)] m Q')  : X G dp a b M1_closeRaces 28 [some (rV (some r0)), some (rV (some r1)), some (iV (i2))] [lV (l90)] m Q := by
  refine X_aload_n dX1_closeRaces_28 rfl rfl ?_
  exact X_callV (As := []) (rest := [lV (l90)]) (a' := 0) (b' := 0) dX1_closeRaces_29 t3_goal ml_1_88 h1 rfl rfl (Nat.le_of_ble_eq_true rfl) rfl hdp (Nat.zero_le _) (Nat.zero_le _) (k1 _ (fun z m' h => h))

theorem s1_closeRaces_32 {G : am_G} {dp a b : Nat} {m : am_M} {Q : am_Q} {i2 l90 l91 : Int} {r0 r1 p1 : Nat} {n_p1 : Nat} (h2 : m.2.1 r0 2 = some p1) (h3 : am_arw m p1 100 n_p1) (h6 : am_obw m r0 1) (k1 : (0 < (lc l91 l90)) → X G dp a b M1_closeRaces 2 [some (rV (some r0)), some (rV (some r1)), some (iV (wr (i2 + 1)))] [] m Q) (k2 : ¬ (0 < (lc l91 l90)) → X G dp a b M1_closeRaces 2 [some (rV (some r0)), some (rV (some r1)), some (iV (wr (i2 + 1)))] [] ((u2 (u2 m.1 p1 (i2).toNat (m.1 r0 5)) r0 7 (wr (((u2 m.1 p1 (i2).toNat (m.1 r0 5)) r0 7) - 1))), m.2.1, m.2.2) Q) (h4 : ¬ (0 < (lc l91 l90)) → 0 ≤ i2 := by intros; first | omega | (dsimp only at *; omega)) (h5 : ¬ (0 < (lc l91 l90)) → i2 < (n_p1 : Int) := by intros; first | omega | (dsimp only at *; omega)) : X G dp a b M1_closeRaces 32 [some (rV (some r0)), some (rV (some r1)), some (iV (i2))] [lV (l90), lV (l91)] m Q := by
  refine X_lcmp dX1_closeRaces_32 ?_
  refine X_if_gt (tgt := 56) dX1_closeRaces_33 (by decide) (fun c1 => ?_) (fun c1 => ?_)
  · refine X_iinc dX1_closeRaces_56 rfl ?_
    refine X_goto (tgt := 2) dX1_closeRaces_59 (by decide) ?_
    exact (k1 c1)
  · refine X_aload_n dX1_closeRaces_36 rfl rfl ?_
    refine X_getP dX1_closeRaces_37 fl_1_19 rfl (am_ow h6) ?_
    refine am_ptr h2 ?_
    refine X_iload_n dX1_closeRaces_40 rfl rfl ?_
    refine X_aload_n dX1_closeRaces_41 rfl rfl ?_
    refine X_getI dX1_closeRaces_42 fl_1_29 (by decide) (am_ow h6) ?_
    refine X_iast dX1_closeRaces_45 h3 (h4 c1) (h5 c1) ?_
    refine X_aload_n dX1_closeRaces_46 rfl rfl ?_
    refine X_dup dX1_closeRaces_47 rfl ?_
    refine X_getI dX1_closeRaces_48 fl_1_36 (by decide) (am_ow h6) ?_
    refine Y_iconst dX1_closeRaces_51 (by unfold i32; omega) ?_
    refine X_isub dX1_closeRaces_52  ?_
    refine X_putI dX1_closeRaces_53 fw_1_36 rfl h6 ?_
    refine X_iinc dX1_closeRaces_56 rfl ?_
    refine X_goto (tgt := 2) dX1_closeRaces_59 (by decide) ?_
    exact (k2 c1)

theorem s1_riskWith_0 {G : am_G} {dp a b : Nat} {m : am_M} {Q : am_Q} {i2 i3 : Int} {r0 r1 : Nat} (hdp : 1 ≤ dp) (h1 : am_ob m r0 1) (k1 : ∀ Q' : am_Q, (∀ (z : Int) (m' : am_M), X G dp a b M1_riskWith 5 [some (rV (some r0)), some (rV (some r1)), some (iV (i2)), some (iV (i3))] [iV (z)] m' Q → Q' (.inl (some (iV (z)))) m') → T G (dp - 1) 0 0 M1_isDone [rV (some r0), iV (i2)] m Q')  : X G dp a b M1_riskWith 0 [some (rV (some r0)), some (rV (some r1)), some (iV (i2)), some (iV (i3))] [] m Q := by
  refine X_aload_n dX1_riskWith_0 rfl rfl ?_
  refine X_iload_n dX1_riskWith_1 rfl rfl ?_
  exact X_callV (As := [iV (i2)]) (rest := []) (a' := 0) (b' := 0) dX1_riskWith_2 t1_isDone ml_1_73 h1 rfl rfl (Nat.le_of_ble_eq_true rfl) rfl hdp (Nat.zero_le _) (Nat.zero_le _) (k1 _ (fun z m' h => h))

theorem s1_riskWith_5 {G : am_G} {dp a b : Nat} {m : am_M} {Q : am_Q} {i2 i3 i90 : Int} {r0 r1 : Nat} (hdp : 1 ≤ dp) (h1 : am_ob m r0 1) (k1 : (i90 = 0) → ∀ Q' : am_Q, (∀ (z : Int) (m' : am_M), X G dp a b M1_riskWith 24 [some (rV (some r0)), some (rV (some r1)), some (iV (i2)), some (iV (i3))] [lV (z)] m' Q → Q' (.inl (some (lV (z)))) m') → T G (dp - 1) 0 0 M1_stepped [rV (some r0), rV (some r1), iV (i2), iV (i3), iV (0)] m Q') (k2 : ¬ (i90 = 0) → ∀ Q' : am_Q, (∀ (z : Int) (m' : am_M), X G dp a b M1_riskWith 13 [some (rV (some r0)), some (rV (some r1)), some (iV (i2)), some (iV (i3))] [lV (z)] m' Q → Q' (.inl (some (lV (z)))) m') → T G (dp - 1) 0 0 M1_latestRisk [rV (some r0), iV (i2)] m Q')  : X G dp a b M1_riskWith 5 [some (rV (some r0)), some (rV (some r1)), some (iV (i2)), some (iV (i3))] [iV (i90)] m Q := by
  refine X_if_eq (tgt := 16) dX1_riskWith_5 (by decide) (fun c1 => ?_) (fun c1 => ?_)
  · refine X_aload_n dX1_riskWith_16 rfl rfl ?_
    refine X_aload_n dX1_riskWith_17 rfl rfl ?_
    refine X_iload_n dX1_riskWith_18 rfl rfl ?_
    refine X_iload_n dX1_riskWith_19 rfl rfl ?_
    refine Y_iconst dX1_riskWith_20 (by unfold i32; omega) ?_
    exact X_callV (As := [rV (some r1), iV (i2), iV (i3), iV (0)]) (rest := []) (a' := 0) (b' := 0) dX1_riskWith_21 t1_stepped ml_1_81 h1 rfl rfl (Nat.le_of_ble_eq_true rfl) rfl hdp (Nat.zero_le _) (Nat.zero_le _) ((k1 c1) _ (fun z m' h => h))
  · refine X_aload_n dX1_riskWith_8 rfl rfl ?_
    refine X_iload_n dX1_riskWith_9 rfl rfl ?_
    exact X_callV (As := [iV (i2)]) (rest := []) (a' := 0) (b' := 0) dX1_riskWith_10 t1_latestRisk ml_1_77 h1 rfl rfl (Nat.le_of_ble_eq_true rfl) rfl hdp (Nat.zero_le _) (Nat.zero_le _) ((k2 c1) _ (fun z m' h => h))

theorem s1_riskWith_13 {G : am_G} {dp a b : Nat} {m : am_M} {Q : am_Q} {i2 i3 l90 : Int} {r0 r1 : Nat}  (k1 : X G dp a b M1_riskWith 24 [some (rV (some r0)), some (rV (some r1)), some (iV (i2)), some (iV (i3))] [lV (l90)] m Q)  : X G dp a b M1_riskWith 13 [some (rV (some r0)), some (rV (some r1)), some (iV (i2)), some (iV (i3))] [lV (l90)] m Q := by
  refine X_goto (tgt := 24) dX1_riskWith_13 (by decide) ?_
  exact k1

theorem s1_riskWith_24 {G : am_G} {dp a b : Nat} {m : am_M} {Q : am_Q} {i2 i3 l90 : Int} {r0 r1 : Nat}  (k1 : Q (.inl (some (lV (l90)))) m)  : X G dp a b M1_riskWith 24 [some (rV (some r0)), some (rV (some r1)), some (iV (i2)), some (iV (i3))] [lV (l90)] m Q := by
  exact X_lret dX1_riskWith_24 rfl k1

theorem s1_stepped_0 {G : am_G} {dp a b : Nat} {m : am_M} {Q : am_Q} {i2 i3 i4 : Int} {r0 r1 p1 p2 p3 : Nat} {o5 o6 o7 o8 o9 o10 : Option am_V} {t_p1 n_p1 n_p3 : Nat} (hdp : 1 ≤ dp) (h1 : am_ob m r1 3) (h2 : m.2.1 r1 0 = some p1) (h3 : t_p1 = 103 ∨ t_p1 = 104) (h4 : am_ar m p1 t_p1 n_p1) (h7 : m.2.1 p1 (i2).toNat = some p2) (h8 : am_ob m p2 2) (h9 : m.2.1 r1 1 = some p3) (h10 : am_ar m p3 100 n_p3) (k1 : ¬ ((m.1 p2 6) = 0) → X G dp a b M1_stepped 74 [some (rV (some r0)), some (rV (some r1)), some (iV (i2)), some (iV (i3)), some (iV (i4)), some (rV (some p2)), some (lV (1)), none, some (iV (0)), o9, o10] [] m Q) (k2 : ((m.1 p2 6) = 0) → ∀ Q' : am_Q, (∀ (z : Int) (m' : am_M), X G dp a b M1_stepped 31 [some (rV (some r0)), some (rV (some r1)), some (iV (i2)), some (iV (i3)), some (iV (i4)), some (rV (some p2)), o6, o7, o8, o9, o10] [lV (z)] m' Q → Q' (.inl (some (lV (z)))) m') → T G (dp - 1) 0 0 M2_comparedTimes [rV (some p2), iV (m.1 r1 3), iV (m.1 p3 ((1 : Int)).toNat)] m Q') (h5 : 0 ≤ i2 := by intros; first | omega | (dsimp only at *; omega)) (h6 : i2 < (n_p1 : Int) := by intros; first | omega | (dsimp only at *; omega)) (h11 : (m.1 p2 6) = 0 → 1 < (n_p3 : Int) := by intros; first | omega | (dsimp only at *; omega)) : X G dp a b M1_stepped 0 [some (rV (some r0)), some (rV (some r1)), some (iV (i2)), some (iV (i3)), some (iV (i4)), o5, o6, o7, o8, o9, o10] [] m Q := by
  refine X_aload_n dX1_stepped_0 rfl rfl ?_
  refine X_getP dX1_stepped_1 fl_1_92 rfl h1 ?_
  refine am_ptr h2 ?_
  refine X_iload_n dX1_stepped_4 rfl rfl ?_
  refine X_aald dX1_stepped_5 h3 h4 h5 h6 ?_
  refine am_ptr h7 ?_
  refine X_astore dX1_stepped_6 (Nat.le_of_ble_eq_true rfl) ?_
  refine X_aload dX1_stepped_8 rfl ?_
  refine X_getI dX1_stepped_10 fl_1_96 (by decide) h8 ?_
  refine X_if_ne (tgt := 68) dX1_stepped_13 (by decide) (fun c1 => ?_) (fun c1 => ?_)
  · refine Y_lconst1 dX1_stepped_68 ?_
    refine X_lstore dX1_stepped_69 (Nat.le_of_ble_eq_true rfl) ?_
    refine Y_iconst dX1_stepped_71 (by unfold i32; omega) ?_
    refine X_istore dX1_stepped_72 (Nat.le_of_ble_eq_true rfl) ?_
    exact (k1 c1)
  · refine X_aload dX1_stepped_16 rfl ?_
    refine X_aload_n dX1_stepped_18 rfl rfl ?_
    refine X_getI dX1_stepped_19 fl_1_62 (by decide) h1 ?_
    refine X_aload_n dX1_stepped_22 rfl rfl ?_
    refine X_getP dX1_stepped_23 fl_1_69 rfl h1 ?_
    refine am_ptr h9 ?_
    refine Y_iconst dX1_stepped_26 (by unfold i32; omega) ?_
    refine X_iald dX1_stepped_27 h10 (by decide) (h11 c1) ?_
    exact X_callV (As := [iV (m.1 r1 3), iV (m.1 p3 ((1 : Int)).toNat)]) (rest := []) (a' := 0) (b' := 0) dX1_stepped_28 t2_comparedTimes ml_1_101 h8 rfl rfl (Nat.le_of_ble_eq_true rfl) rfl hdp (Nat.zero_le _) (Nat.zero_le _) ((k2 c1) _ (fun z m' h => h))

theorem s1_stepped_31 {G : am_G} {dp a b : Nat} {m : am_M} {Q : am_Q} {i2 i3 i4 l90 : Int} {r0 r1 r5 p1 p2 : Nat} {o6 o7 o8 o9 o10 : Option am_V} {n_p1 n_p2 : Nat} (hdp : 1 ≤ dp) (h1 : am_ob m r1 3) (h2 : m.2.1 r1 1 = some p1) (h3 : am_ar m p1 100 n_p1) (h5 : am_ob m r5 2) (h6 : m.2.1 r5 2 = some p2) (h7 : am_ar m p2 100 n_p2) (k1 : ∀ Q' : am_Q, (∀ (z : Int) (m' : am_M), X G dp a b M1_stepped 53 [some (rV (some r0)), some (rV (some r1)), some (iV (i2)), some (iV (i3)), some (iV (i4)), some (rV (some r5)), some (lV (l90)), none, o8, o9, o10] [lV (z)] m' Q → Q' (.inl (some (lV (z)))) m') → T G (dp - 1) 0 0 M2_comparedBy [iV (m.1 r1 3), iV (m.1 p1 ((1 : Int)).toNat), iV (m.1 p2 (i3).toNat)] m Q') (h4 : 1 < (n_p1 : Int) := by intros; first | omega | (dsimp only at *; omega)) (h8 : 0 ≤ i3 := by intros; first | omega | (dsimp only at *; omega)) (h9 : i3 < (n_p2 : Int) := by intros; first | omega | (dsimp only at *; omega)) : X G dp a b M1_stepped 31 [some (rV (some r0)), some (rV (some r1)), some (iV (i2)), some (iV (i3)), some (iV (i4)), some (rV (some r5)), o6, o7, o8, o9, o10] [lV (l90)] m Q := by
  refine X_lstore dX1_stepped_31 (Nat.le_of_ble_eq_true rfl) ?_
  refine X_aload_n dX1_stepped_33 rfl rfl ?_
  refine X_getI dX1_stepped_34 fl_1_62 (by decide) h1 ?_
  refine X_aload_n dX1_stepped_37 rfl rfl ?_
  refine X_getP dX1_stepped_38 fl_1_69 rfl h1 ?_
  refine am_ptr h2 ?_
  refine Y_iconst dX1_stepped_41 (by unfold i32; omega) ?_
  refine X_iald dX1_stepped_42 h3 (by decide) h4 ?_
  refine X_aload dX1_stepped_43 rfl ?_
  refine X_getP dX1_stepped_45 fl_1_105 rfl h5 ?_
  refine am_ptr h6 ?_
  refine X_iload_n dX1_stepped_48 rfl rfl ?_
  refine X_iald dX1_stepped_49 h7 h8 h9 ?_
  exact X_callS (As := [iV (m.1 r1 3), iV (m.1 p1 ((1 : Int)).toNat), iV (m.1 p2 (i3).toNat)]) (rest := []) (a' := 0) (b' := 0) dX1_stepped_50 t2_comparedBy ml_1_108 rfl rfl (Nat.le_of_ble_eq_true rfl) rfl hdp (Nat.zero_le _) (Nat.zero_le _) (k1 _ (fun z m' h => h))

theorem s1_stepped_53 {G : am_G} {dp a b : Nat} {m : am_M} {Q : am_Q} {i2 i3 i4 l6 l90 : Int} {r0 r1 r5 : Nat} {o8 o9 o10 : Option am_V} (hdp : 1 ≤ dp) (h1 : am_ob m r0 1) (k1 : ∀ Q' : am_Q, (∀ (z : Int) (m' : am_M), X G dp a b M1_stepped 60 [some (rV (some r0)), some (rV (some r1)), some (iV (i2)), some (iV (i3)), some (iV (i4)), some (rV (some r5)), some (lV (l6)), none, some (lV (l90)), none, o10] [lV (z)] m' Q → Q' (.inl (some (lV (z)))) m') → T G (dp - 1) 0 0 M1_latestRisk [rV (some r0), iV (i2)] m Q')  : X G dp a b M1_stepped 53 [some (rV (some r0)), some (rV (some r1)), some (iV (i2)), some (iV (i3)), some (iV (i4)), some (rV (some r5)), some (lV (l6)), none, o8, o9, o10] [lV (l90)] m Q := by
  refine X_lstore dX1_stepped_53 (Nat.le_of_ble_eq_true rfl) ?_
  refine X_aload_n dX1_stepped_55 rfl rfl ?_
  refine X_iload_n dX1_stepped_56 rfl rfl ?_
  exact X_callV (As := [iV (i2)]) (rest := []) (a' := 0) (b' := 0) dX1_stepped_57 t1_latestRisk ml_1_77 h1 rfl rfl (Nat.le_of_ble_eq_true rfl) rfl hdp (Nat.zero_le _) (Nat.zero_le _) (k1 _ (fun z m' h => h))

theorem s1_stepped_60 {G : am_G} {dp a b : Nat} {m : am_M} {Q : am_Q} {i2 i3 i4 l6 l8 l90 : Int} {r0 r1 r5 : Nat} {o10 : Option am_V} (hdp : 1 ≤ dp)  (k1 : ∀ Q' : am_Q, (∀ (z : Int) (m' : am_M), X G dp a b M1_stepped 67 [some (rV (some r0)), some (rV (some r1)), some (iV (i2)), some (iV (i3)), some (iV (i4)), some (rV (some r5)), some (lV (l6)), none, some (lV (l8)), none, o10] [lV (z)] m' Q → Q' (.inl (some (lV (z)))) m') → T G (dp - 1) 0 0 M8_scaled [lV (l90), lV (l6), lV (l8)] m Q')  : X G dp a b M1_stepped 60 [some (rV (some r0)), some (rV (some r1)), some (iV (i2)), some (iV (i3)), some (iV (i4)), some (rV (some r5)), some (lV (l6)), none, some (lV (l8)), none, o10] [lV (l90)] m Q := by
  refine X_lload dX1_stepped_60 rfl ?_
  refine X_lload dX1_stepped_62 rfl ?_
  exact X_callSN (As := [lV (l90), lV (l6), lV (l8)]) (rest := []) (a' := 0) (b' := 0) dX1_stepped_64 t8_scaled mn_1_112 rfl rfl (Nat.le_of_ble_eq_true rfl) rfl hdp (Nat.zero_le _) (Nat.zero_le _) (k1 _ (fun z m' h => h))

theorem s1_stepped_67 {G : am_G} {dp a b : Nat} {m : am_M} {Q : am_Q} {i2 i3 i4 l6 l8 l90 : Int} {r0 r1 r5 : Nat} {o10 : Option am_V}  (k1 : Q (.inl (some (lV (l90)))) m)  : X G dp a b M1_stepped 67 [some (rV (some r0)), some (rV (some r1)), some (iV (i2)), some (iV (i3)), some (iV (i4)), some (rV (some r5)), some (lV (l6)), none, some (lV (l8)), none, o10] [lV (l90)] m Q := by
  exact X_lret dX1_stepped_67 rfl k1

theorem s1_stepped_74 {G : am_G} {dp a b : Nat} {m : am_M} {Q : am_Q} {i2 i3 i4 i8 l6 : Int} {r0 r1 r5 p1 p2 p3 : Nat} {o9 o10 : Option am_V} {t_p1 n_p1 n_p2 n_p3 : Nat} (hdp : 1 ≤ dp) (h1 : am_ob m r5 2) (h2 : am_ob m r0 1) (h3 : m.2.1 r0 0 = some p1) (h4 : t_p1 = 103 ∨ t_p1 = 104) (h5 : am_ar m p1 t_p1 n_p1) (h8 : ¬ ((m.1 r5 5) ≤ i8) → ¬ (4 ≤ i8) → ¬ (i8 = (m.1 r5 7)) → m.2.1 p1 (i2).toNat = some p2) (h9 : ¬ ((m.1 r5 5) ≤ i8) → ¬ (4 ≤ i8) → ¬ (i8 = (m.1 r5 7)) → am_ar m p2 101 n_p2) (h12 : m.2.1 r5 1 = some p3) (h13 : am_ar m p3 100 n_p3) (k1 : ((m.1 r5 5) ≤ i8) → Q (.inl (some (lV (l6)))) m) (k2 : ¬ ((m.1 r5 5) ≤ i8) → (4 ≤ i8) → Q (.inl (some (lV (l6)))) m) (k3 : ¬ ((m.1 r5 5) ≤ i8) → ¬ (4 ≤ i8) → (i8 = (m.1 r5 7)) → X G dp a b M1_stepped 74 [some (rV (some r0)), some (rV (some r1)), some (iV (i2)), some (iV (i3)), some (iV (i4)), some (rV (some r5)), some (lV (l6)), none, some (iV (wr (i8 + 1))), o9, o10] [] m Q) (k4 : ¬ ((m.1 r5 5) ≤ i8) → ¬ (4 ≤ i8) → ¬ (i8 = (m.1 r5 7)) → ∀ Q' : am_Q, (∀ (z : Int) (m' : am_M), X G dp a b M1_stepped 123 [some (rV (some r0)), some (rV (some r1)), some (iV (i2)), some (iV (i3)), some (iV (i4)), some (rV (some r5)), some (lV (l6)), none, some (iV (i8)), o9, o10] [lV (z)] m' Q → Q' (.inl (some (lV (z)))) m') → T G (dp - 1) 0 0 M2_polled [rV (some r5), lV (m.1 p2 (i8).toNat), iV (i8), iV (m.1 p3 (i3).toNat)] m Q') (h6 : ¬ ((m.1 r5 5) ≤ i8) → ¬ (4 ≤ i8) → ¬ (i8 = (m.1 r5 7)) → 0 ≤ i2 := by intros; first | omega | (dsimp only at *; omega)) (h7 : ¬ ((m.1 r5 5) ≤ i8) → ¬ (4 ≤ i8) → ¬ (i8 = (m.1 r5 7)) → i2 < (n_p1 : Int) := by intros; first | omega | (dsimp only at *; omega)) (h10 : ¬ ((m.1 r5 5) ≤ i8) → ¬ (4 ≤ i8) → ¬ (i8 = (m.1 r5 7)) → 0 ≤ i8 := by intros; first | omega | (dsimp only at *; omega)) (h11 : ¬ ((m.1 r5 5) ≤ i8) → ¬ (4 ≤ i8) → ¬ (i8 = (m.1 r5 7)) → i8 < (n_p2 : Int) := by intros; first | omega | (dsimp only at *; omega)) (h14 : ¬ ((m.1 r5 5) ≤ i8) → ¬ (4 ≤ i8) → ¬ (i8 = (m.1 r5 7)) → 0 ≤ i3 := by intros; first | omega | (dsimp only at *; omega)) (h15 : ¬ ((m.1 r5 5) ≤ i8) → ¬ (4 ≤ i8) → ¬ (i8 = (m.1 r5 7)) → i3 < (n_p3 : Int) := by intros; first | omega | (dsimp only at *; omega)) : X G dp a b M1_stepped 74 [some (rV (some r0)), some (rV (some r1)), some (iV (i2)), some (iV (i3)), some (iV (i4)), some (rV (some r5)), some (lV (l6)), none, some (iV (i8)), o9, o10] [] m Q := by
  refine X_iload dX1_stepped_74 rfl ?_
  refine X_aload dX1_stepped_76 rfl ?_
  refine X_getI dX1_stepped_78 fl_1_116 (by decide) h1 ?_
  refine X_icmp_ge (tgt := 156) dX1_stepped_81 (by decide) (fun c1 => ?_) (fun c1 => ?_)
  · refine X_lload dX1_stepped_156 rfl ?_
    exact X_lret dX1_stepped_158 rfl (k1 c1)
  · refine X_iload dX1_stepped_84 rfl ?_
    refine Y_iconst dX1_stepped_86 (by unfold i32; omega) ?_
    refine X_icmp_ge (tgt := 156) dX1_stepped_87 (by decide) (fun c2 => ?_) (fun c2 => ?_)
    · refine X_lload dX1_stepped_156 rfl ?_
      exact X_lret dX1_stepped_158 rfl (k2 c1 c2)
    · refine X_iload dX1_stepped_90 rfl ?_
      refine X_aload dX1_stepped_92 rfl ?_
      refine X_getI dX1_stepped_94 fl_1_119 (by decide) h1 ?_
      refine X_icmp_eq (tgt := 150) dX1_stepped_97 (by decide) (fun c3 => ?_) (fun c3 => ?_)
      · refine X_iinc dX1_stepped_150 rfl ?_
        refine X_goto (tgt := 74) dX1_stepped_153 (by decide) ?_
        exact (k3 c1 c2 c3)
      · refine X_aload dX1_stepped_100 rfl ?_
        refine X_aload_n dX1_stepped_102 rfl rfl ?_
        refine X_getP dX1_stepped_103 fl_1_11 rfl h2 ?_
        refine am_ptr h3 ?_
        refine X_iload_n dX1_stepped_106 rfl rfl ?_
        refine X_aald dX1_stepped_107 h4 h5 (h6 c1 c2 c3) (h7 c1 c2 c3) ?_
        refine am_ptr (h8 c1 c2 c3) ?_
        refine X_iload dX1_stepped_108 rfl ?_
        refine X_lald dX1_stepped_110 (h9 c1 c2 c3) (h10 c1 c2 c3) (h11 c1 c2 c3) ?_
        refine X_iload dX1_stepped_111 rfl ?_
        refine X_aload dX1_stepped_113 rfl ?_
        refine X_getP dX1_stepped_115 fl_1_122 rfl h1 ?_
        refine am_ptr h12 ?_
        refine X_iload_n dX1_stepped_118 rfl rfl ?_
        refine X_iald dX1_stepped_119 h13 (h14 c1 c2 c3) (h15 c1 c2 c3) ?_
        exact X_callV (As := [lV (m.1 p2 (i8).toNat), iV (i8), iV (m.1 p3 (i3).toNat)]) (rest := []) (a' := 0) (b' := 0) dX1_stepped_120 t2_polled ml_1_125 h1 rfl rfl (Nat.le_of_ble_eq_true rfl) rfl hdp (Nat.zero_le _) (Nat.zero_le _) ((k4 c1 c2 c3) _ (fun z m' h => h))

theorem s1_stepped_123 {G : am_G} {dp a b : Nat} {m : am_M} {Q : am_Q} {i2 i3 i4 i8 l6 l90 : Int} {r0 r1 r5 p1 p2 : Nat} {o9 o10 : Option am_V} {t_p1 n_p1 n_p2 : Nat} (h1 : am_ob m r0 1) (h2 : m.2.1 r0 0 = some p1) (h3 : t_p1 = 103 ∨ t_p1 = 104) (h4 : am_ar m p1 t_p1 n_p1) (h7 : ¬ (i4 = 0) → m.2.1 p1 (i2).toNat = some p2) (h8 : ¬ (i4 = 0) → am_arw m p2 101 n_p2) (k1 : (i4 = 0) → X G dp a b M1_stepped 74 [some (rV (some r0)), some (rV (some r1)), some (iV (i2)), some (iV (i3)), some (iV (i4)), some (rV (some r5)), some (lV (max l6 l90)), none, some (iV (wr (i8 + 1))), some (lV (l90)), none] [] m Q) (k2 : ¬ (i4 = 0) → X G dp a b M1_stepped 74 [some (rV (some r0)), some (rV (some r1)), some (iV (i2)), some (iV (i3)), some (iV (i4)), some (rV (some r5)), some (lV (max l6 l90)), none, some (iV (wr (i8 + 1))), some (lV (l90)), none] [] ((u2 m.1 p2 (i8).toNat (l90)), m.2.1, m.2.2) Q) (h5 : ¬ (i4 = 0) → 0 ≤ i2 := by intros; first | omega | (dsimp only at *; omega)) (h6 : ¬ (i4 = 0) → i2 < (n_p1 : Int) := by intros; first | omega | (dsimp only at *; omega)) (h9 : ¬ (i4 = 0) → 0 ≤ i8 := by intros; first | omega | (dsimp only at *; omega)) (h10 : ¬ (i4 = 0) → i8 < (n_p2 : Int) := by intros; first | omega | (dsimp only at *; omega)) : X G dp a b M1_stepped 123 [some (rV (some r0)), some (rV (some r1)), some (iV (i2)), some (iV (i3)), some (iV (i4)), some (rV (some r5)), some (lV (l6)), none, some (iV (i8)), o9, o10] [lV (l90)] m Q := by
  refine X_lstore dX1_stepped_123 (Nat.le_of_ble_eq_true rfl) ?_
  refine X_iload dX1_stepped_125 rfl ?_
  refine X_if_eq (tgt := 141) dX1_stepped_127 (by decide) (fun c1 => ?_) (fun c1 => ?_)
  · refine X_lload dX1_stepped_141 rfl ?_
    refine X_lload dX1_stepped_143 rfl ?_
    refine X_maxL dX1_stepped_145 ml_1_129 (Nat.le_of_ble_eq_true rfl) ?_
    refine X_lstore dX1_stepped_148 (Nat.le_of_ble_eq_true rfl) ?_
    refine X_iinc dX1_stepped_150 rfl ?_
    refine X_goto (tgt := 74) dX1_stepped_153 (by decide) ?_
    exact (k1 c1)
  · refine X_aload_n dX1_stepped_130 rfl rfl ?_
    refine X_getP dX1_stepped_131 fl_1_11 rfl h1 ?_
    refine am_ptr h2 ?_
    refine X_iload_n dX1_stepped_134 rfl rfl ?_
    refine X_aald dX1_stepped_135 h3 h4 (h5 c1) (h6 c1) ?_
    refine am_ptr (h7 c1) ?_
    refine X_iload dX1_stepped_136 rfl ?_
    refine X_lload dX1_stepped_138 rfl ?_
    refine X_last dX1_stepped_140 (h8 c1) (h9 c1) (h10 c1) ?_
    refine X_lload dX1_stepped_141 rfl ?_
    refine X_lload dX1_stepped_143 rfl ?_
    refine X_maxL dX1_stepped_145 ml_1_129 (Nat.le_of_ble_eq_true rfl) ?_
    refine X_lstore dX1_stepped_148 (Nat.le_of_ble_eq_true rfl) ?_
    refine X_iinc dX1_stepped_150 rfl ?_
    refine X_goto (tgt := 74) dX1_stepped_153 (by decide) ?_
    exact (k2 c1)

