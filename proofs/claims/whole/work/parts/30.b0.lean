/-! TREES of bytecode, by program: X0_* -/
theorem s0_forget_0 {G : am_G} {dp a b : Nat} {m : am_M} {Q : am_Q} {r0 : Nat} (h1 : am_obw m r0 0) (k1 : Q (.inl none) ((u2 m.1 r0 4 (0)), m.2.1, m.2.2))  : X G dp a b M0_forget 0 [some (rV (some r0))] [] m Q := by
  refine X_aload_n dX0_forget_0 rfl rfl ?_
  refine Y_iconst dX0_forget_1 (by unfold i32; omega) ?_
  refine X_putI dX0_forget_2 fw_0_24 rfl h1 ?_
  exact X_vret dX0_forget_5 rfl k1

theorem s0_add_0 {G : am_G} {dp a b : Nat} {m : am_M} {Q : am_Q} {i1 i2 i3 i4 : Int} {r0 p1 : Nat} (hdp : 1 ≤ dp) (h1 : am_ob m r0 0) (h2 : m.2.1 r0 0 = some p1) (k1 : ((m.1 r0 4) < 12) → X G dp a b M0_add 43 [some (rV (some r0)), some (iV (i1)), some (iV (i2)), some (iV (i3)), some (iV (i4))] [] m Q) (k2 : ¬ ((m.1 r0 4) < 12) → ∀ Q' : am_Q, (∀ (m' : am_M), X G dp a b M0_add 16 [some (rV (some r0)), some (iV (i1)), some (iV (i2)), some (iV (i3)), some (iV (i4))] [] m' Q → Q' (.inl none) m') → T G (dp - 1) 0 0 M0_dropOldest [rV (some p1)] m Q')  : X G dp a b M0_add 0 [some (rV (some r0)), some (iV (i1)), some (iV (i2)), some (iV (i3)), some (iV (i4))] [] m Q := by
  refine X_aload_n dX0_add_0 rfl rfl ?_
  refine X_getI dX0_add_1 fl_0_24 (by decide) h1 ?_
  refine Y_bipush dX0_add_4 (by omega) ?_
  refine X_icmp_lt (tgt := 43) dX0_add_6 (by decide) (fun c1 => ?_) (fun c1 => ?_)
  · exact (k1 c1)
  · refine X_aload_n dX0_add_9 rfl rfl ?_
    refine X_getP dX0_add_10 fl_0_9 rfl h1 ?_
    refine am_ptr h2 ?_
    exact X_callS (As := [rV (some p1)]) (rest := []) (a' := 0) (b' := 0) dX0_add_13 t0_dropOldest ml_0_40 rfl rfl (Nat.le_of_ble_eq_true rfl) rfl hdp (Nat.zero_le _) (Nat.zero_le _) ((k2 c1) _ (fun m' h => h))

theorem s0_add_16 {G : am_G} {dp a b : Nat} {m : am_M} {Q : am_Q} {i1 i2 i3 i4 : Int} {r0 p1 : Nat} (hdp : 1 ≤ dp) (h1 : am_ob m r0 0) (h2 : m.2.1 r0 1 = some p1) (k1 : ∀ Q' : am_Q, (∀ (m' : am_M), X G dp a b M0_add 23 [some (rV (some r0)), some (iV (i1)), some (iV (i2)), some (iV (i3)), some (iV (i4))] [] m' Q → Q' (.inl none) m') → T G (dp - 1) 0 0 M0_dropOldest [rV (some p1)] m Q')  : X G dp a b M0_add 16 [some (rV (some r0)), some (iV (i1)), some (iV (i2)), some (iV (i3)), some (iV (i4))] [] m Q := by
  refine X_aload_n dX0_add_16 rfl rfl ?_
  refine X_getP dX0_add_17 fl_0_15 rfl h1 ?_
  refine am_ptr h2 ?_
  exact X_callS (As := [rV (some p1)]) (rest := []) (a' := 0) (b' := 0) dX0_add_20 t0_dropOldest ml_0_40 rfl rfl (Nat.le_of_ble_eq_true rfl) rfl hdp (Nat.zero_le _) (Nat.zero_le _) (k1 _ (fun m' h => h))

theorem s0_add_23 {G : am_G} {dp a b : Nat} {m : am_M} {Q : am_Q} {i1 i2 i3 i4 : Int} {r0 p1 : Nat} (hdp : 1 ≤ dp) (h1 : am_ob m r0 0) (h2 : m.2.1 r0 2 = some p1) (k1 : ∀ Q' : am_Q, (∀ (m' : am_M), X G dp a b M0_add 30 [some (rV (some r0)), some (iV (i1)), some (iV (i2)), some (iV (i3)), some (iV (i4))] [] m' Q → Q' (.inl none) m') → T G (dp - 1) 0 0 M0_dropOldest [rV (some p1)] m Q')  : X G dp a b M0_add 23 [some (rV (some r0)), some (iV (i1)), some (iV (i2)), some (iV (i3)), some (iV (i4))] [] m Q := by
  refine X_aload_n dX0_add_23 rfl rfl ?_
  refine X_getP dX0_add_24 fl_0_18 rfl h1 ?_
  refine am_ptr h2 ?_
  exact X_callS (As := [rV (some p1)]) (rest := []) (a' := 0) (b' := 0) dX0_add_27 t0_dropOldest ml_0_40 rfl rfl (Nat.le_of_ble_eq_true rfl) rfl hdp (Nat.zero_le _) (Nat.zero_le _) (k1 _ (fun m' h => h))

theorem s0_add_30 {G : am_G} {dp a b : Nat} {m : am_M} {Q : am_Q} {i1 i2 i3 i4 : Int} {r0 p1 : Nat} (hdp : 1 ≤ dp) (h1 : am_ob m r0 0) (h2 : m.2.1 r0 3 = some p1) (k1 : ∀ Q' : am_Q, (∀ (m' : am_M), X G dp a b M0_add 37 [some (rV (some r0)), some (iV (i1)), some (iV (i2)), some (iV (i3)), some (iV (i4))] [] m' Q → Q' (.inl none) m') → T G (dp - 1) 0 0 M0_dropOldest [rV (some p1)] m Q')  : X G dp a b M0_add 30 [some (rV (some r0)), some (iV (i1)), some (iV (i2)), some (iV (i3)), some (iV (i4))] [] m Q := by
  refine X_aload_n dX0_add_30 rfl rfl ?_
  refine X_getP dX0_add_31 fl_0_21 rfl h1 ?_
  refine am_ptr h2 ?_
  exact X_callS (As := [rV (some p1)]) (rest := []) (a' := 0) (b' := 0) dX0_add_34 t0_dropOldest ml_0_40 rfl rfl (Nat.le_of_ble_eq_true rfl) rfl hdp (Nat.zero_le _) (Nat.zero_le _) (k1 _ (fun m' h => h))

theorem s0_add_37 {G : am_G} {dp a b : Nat} {m : am_M} {Q : am_Q} {i1 i2 i3 i4 : Int} {r0 : Nat} (h1 : am_obw m r0 0) (k1 : X G dp a b M0_add 43 [some (rV (some r0)), some (iV (i1)), some (iV (i2)), some (iV (i3)), some (iV (i4))] [] ((u2 m.1 r0 4 (11)), m.2.1, m.2.2) Q)  : X G dp a b M0_add 37 [some (rV (some r0)), some (iV (i1)), some (iV (i2)), some (iV (i3)), some (iV (i4))] [] m Q := by
  refine X_aload_n dX0_add_37 rfl rfl ?_
  refine Y_bipush dX0_add_38 (by omega) ?_
  refine X_putI dX0_add_40 fw_0_24 rfl h1 ?_
  exact k1

theorem s0_add_43 {G : am_G} {dp a b : Nat} {m : am_M} {Q : am_Q} {i1 i2 i3 i4 : Int} {r0 p1 p2 p3 p4 : Nat} {n_p1 n_p2 n_p3 n_p4 : Nat} (h2 : m.2.1 r0 0 = some p1) (h3 : am_arw m p1 100 n_p1) (h6 : m.2.1 r0 1 = some p2) (h7 : am_arw m p2 100 n_p2) (h10 : m.2.1 r0 2 = some p3) (h11 : am_arw m p3 100 n_p3) (h14 : m.2.1 r0 3 = some p4) (h15 : am_arw m p4 100 n_p4) (h18 : am_obw m r0 0) (k1 : Q (.inl none) ((u2 (u2 (u2 (u2 (u2 m.1 p1 (m.1 r0 4).toNat (i1)) p2 ((u2 m.1 p1 (m.1 r0 4).toNat (i1)) r0 4).toNat (i2)) p3 ((u2 (u2 m.1 p1 (m.1 r0 4).toNat (i1)) p2 ((u2 m.1 p1 (m.1 r0 4).toNat (i1)) r0 4).toNat (i2)) r0 4).toNat (i3)) p4 ((u2 (u2 (u2 m.1 p1 (m.1 r0 4).toNat (i1)) p2 ((u2 m.1 p1 (m.1 r0 4).toNat (i1)) r0 4).toNat (i2)) p3 ((u2 (u2 m.1 p1 (m.1 r0 4).toNat (i1)) p2 ((u2 m.1 p1 (m.1 r0 4).toNat (i1)) r0 4).toNat (i2)) r0 4).toNat (i3)) r0 4).toNat (i4)) r0 4 (wr (((u2 (u2 (u2 (u2 m.1 p1 (m.1 r0 4).toNat (i1)) p2 ((u2 m.1 p1 (m.1 r0 4).toNat (i1)) r0 4).toNat (i2)) p3 ((u2 (u2 m.1 p1 (m.1 r0 4).toNat (i1)) p2 ((u2 m.1 p1 (m.1 r0 4).toNat (i1)) r0 4).toNat (i2)) r0 4).toNat (i3)) p4 ((u2 (u2 (u2 m.1 p1 (m.1 r0 4).toNat (i1)) p2 ((u2 m.1 p1 (m.1 r0 4).toNat (i1)) r0 4).toNat (i2)) p3 ((u2 (u2 m.1 p1 (m.1 r0 4).toNat (i1)) p2 ((u2 m.1 p1 (m.1 r0 4).toNat (i1)) r0 4).toNat (i2)) r0 4).toNat (i3)) r0 4).toNat (i4)) r0 4) + 1))), m.2.1, m.2.2)) (h4 : 0 ≤ m.1 r0 4 := by intros; first | omega | (dsimp only at *; omega)) (h5 : m.1 r0 4 < (n_p1 : Int) := by intros; first | omega | (dsimp only at *; omega)) (h8 : 0 ≤ (u2 m.1 p1 (m.1 r0 4).toNat (i1)) r0 4 := by intros; first | omega | (dsimp only at *; omega)) (h9 : (u2 m.1 p1 (m.1 r0 4).toNat (i1)) r0 4 < (n_p2 : Int) := by intros; first | omega | (dsimp only at *; omega)) (h12 : 0 ≤ (u2 (u2 m.1 p1 (m.1 r0 4).toNat (i1)) p2 ((u2 m.1 p1 (m.1 r0 4).toNat (i1)) r0 4).toNat (i2)) r0 4 := by intros; first | omega | (dsimp only at *; omega)) (h13 : (u2 (u2 m.1 p1 (m.1 r0 4).toNat (i1)) p2 ((u2 m.1 p1 (m.1 r0 4).toNat (i1)) r0 4).toNat (i2)) r0 4 < (n_p3 : Int) := by intros; first | omega | (dsimp only at *; omega)) (h16 : 0 ≤ (u2 (u2 (u2 m.1 p1 (m.1 r0 4).toNat (i1)) p2 ((u2 m.1 p1 (m.1 r0 4).toNat (i1)) r0 4).toNat (i2)) p3 ((u2 (u2 m.1 p1 (m.1 r0 4).toNat (i1)) p2 ((u2 m.1 p1 (m.1 r0 4).toNat (i1)) r0 4).toNat (i2)) r0 4).toNat (i3)) r0 4 := by intros; first | omega | (dsimp only at *; omega)) (h17 : (u2 (u2 (u2 m.1 p1 (m.1 r0 4).toNat (i1)) p2 ((u2 m.1 p1 (m.1 r0 4).toNat (i1)) r0 4).toNat (i2)) p3 ((u2 (u2 m.1 p1 (m.1 r0 4).toNat (i1)) p2 ((u2 m.1 p1 (m.1 r0 4).toNat (i1)) r0 4).toNat (i2)) r0 4).toNat (i3)) r0 4 < (n_p4 : Int) := by intros; first | omega | (dsimp only at *; omega)) : X G dp a b M0_add 43 [some (rV (some r0)), some (iV (i1)), some (iV (i2)), some (iV (i3)), some (iV (i4))] [] m Q := by
  refine X_aload_n dX0_add_43 rfl rfl ?_
  refine X_getP dX0_add_44 fl_0_9 rfl (am_ow h18) ?_
  refine am_ptr h2 ?_
  refine X_aload_n dX0_add_47 rfl rfl ?_
  refine X_getI dX0_add_48 fl_0_24 (by decide) (am_ow h18) ?_
  refine X_iload_n dX0_add_51 rfl rfl ?_
  refine X_iast dX0_add_52 h3 h4 h5 ?_
  refine X_aload_n dX0_add_53 rfl rfl ?_
  refine X_getP dX0_add_54 fl_0_15 rfl (am_ow h18) ?_
  refine am_ptr h6 ?_
  refine X_aload_n dX0_add_57 rfl rfl ?_
  refine X_getI dX0_add_58 fl_0_24 (by decide) (am_ow h18) ?_
  refine X_iload_n dX0_add_61 rfl rfl ?_
  refine X_iast dX0_add_62 h7 h8 h9 ?_
  refine X_aload_n dX0_add_63 rfl rfl ?_
  refine X_getP dX0_add_64 fl_0_18 rfl (am_ow h18) ?_
  refine am_ptr h10 ?_
  refine X_aload_n dX0_add_67 rfl rfl ?_
  refine X_getI dX0_add_68 fl_0_24 (by decide) (am_ow h18) ?_
  refine X_iload_n dX0_add_71 rfl rfl ?_
  refine X_iast dX0_add_72 h11 h12 h13 ?_
  refine X_aload_n dX0_add_73 rfl rfl ?_
  refine X_getP dX0_add_74 fl_0_21 rfl (am_ow h18) ?_
  refine am_ptr h14 ?_
  refine X_aload_n dX0_add_77 rfl rfl ?_
  refine X_getI dX0_add_78 fl_0_24 (by decide) (am_ow h18) ?_
  refine X_iload dX0_add_81 rfl ?_
  refine X_iast dX0_add_83 h15 h16 h17 ?_
  refine X_aload_n dX0_add_84 rfl rfl ?_
  refine X_dup dX0_add_85 rfl ?_
  refine X_getI dX0_add_86 fl_0_24 (by decide) (am_ow h18) ?_
  refine Y_iconst dX0_add_89 (by unfold i32; omega) ?_
  refine X_iadd dX0_add_90  ?_
  refine X_putI dX0_add_91 fw_0_24 rfl h18 ?_
  exact X_vret dX0_add_94 rfl k1

theorem s0_takeLatest_0 {G : am_G} {dp a b : Nat} {m : am_M} {Q : am_Q} {r0 p1 p2 p3 p4 : Nat} {n_p1 n_p2 n_p3 n_p4 : Nat} (h2 : am_obw m r0 0) (h3 : m.2.1 r0 0 = some p1) (h4 : am_ar m p1 100 n_p1) (h7 : m.2.1 r0 1 = some p2) (h8 : am_ar m p2 100 n_p2) (h11 : m.2.1 r0 2 = some p3) (h12 : am_ar m p3 100 n_p3) (h15 : m.2.1 r0 3 = some p4) (h16 : am_ar m p4 100 n_p4) (k1 : (0 < (m.1 r0 4)) → Q (.inl (some (iV (1)))) ((u2 (u2 (u2 (u2 (u2 m.1 r0 4 (wr ((m.1 r0 4) - 1))) r0 5 ((u2 m.1 r0 4 (wr ((m.1 r0 4) - 1))) p1 ((u2 m.1 r0 4 (wr ((m.1 r0 4) - 1))) r0 4).toNat)) r0 6 ((u2 (u2 m.1 r0 4 (wr ((m.1 r0 4) - 1))) r0 5 ((u2 m.1 r0 4 (wr ((m.1 r0 4) - 1))) p1 ((u2 m.1 r0 4 (wr ((m.1 r0 4) - 1))) r0 4).toNat)) p2 ((u2 (u2 m.1 r0 4 (wr ((m.1 r0 4) - 1))) r0 5 ((u2 m.1 r0 4 (wr ((m.1 r0 4) - 1))) p1 ((u2 m.1 r0 4 (wr ((m.1 r0 4) - 1))) r0 4).toNat)) r0 4).toNat)) r0 7 ((u2 (u2 (u2 m.1 r0 4 (wr ((m.1 r0 4) - 1))) r0 5 ((u2 m.1 r0 4 (wr ((m.1 r0 4) - 1))) p1 ((u2 m.1 r0 4 (wr ((m.1 r0 4) - 1))) r0 4).toNat)) r0 6 ((u2 (u2 m.1 r0 4 (wr ((m.1 r0 4) - 1))) r0 5 ((u2 m.1 r0 4 (wr ((m.1 r0 4) - 1))) p1 ((u2 m.1 r0 4 (wr ((m.1 r0 4) - 1))) r0 4).toNat)) p2 ((u2 (u2 m.1 r0 4 (wr ((m.1 r0 4) - 1))) r0 5 ((u2 m.1 r0 4 (wr ((m.1 r0 4) - 1))) p1 ((u2 m.1 r0 4 (wr ((m.1 r0 4) - 1))) r0 4).toNat)) r0 4).toNat)) p3 ((u2 (u2 (u2 m.1 r0 4 (wr ((m.1 r0 4) - 1))) r0 5 ((u2 m.1 r0 4 (wr ((m.1 r0 4) - 1))) p1 ((u2 m.1 r0 4 (wr ((m.1 r0 4) - 1))) r0 4).toNat)) r0 6 ((u2 (u2 m.1 r0 4 (wr ((m.1 r0 4) - 1))) r0 5 ((u2 m.1 r0 4 (wr ((m.1 r0 4) - 1))) p1 ((u2 m.1 r0 4 (wr ((m.1 r0 4) - 1))) r0 4).toNat)) p2 ((u2 (u2 m.1 r0 4 (wr ((m.1 r0 4) - 1))) r0 5 ((u2 m.1 r0 4 (wr ((m.1 r0 4) - 1))) p1 ((u2 m.1 r0 4 (wr ((m.1 r0 4) - 1))) r0 4).toNat)) r0 4).toNat)) r0 4).toNat)) r0 8 ((u2 (u2 (u2 (u2 m.1 r0 4 (wr ((m.1 r0 4) - 1))) r0 5 ((u2 m.1 r0 4 (wr ((m.1 r0 4) - 1))) p1 ((u2 m.1 r0 4 (wr ((m.1 r0 4) - 1))) r0 4).toNat)) r0 6 ((u2 (u2 m.1 r0 4 (wr ((m.1 r0 4) - 1))) r0 5 ((u2 m.1 r0 4 (wr ((m.1 r0 4) - 1))) p1 ((u2 m.1 r0 4 (wr ((m.1 r0 4) - 1))) r0 4).toNat)) p2 ((u2 (u2 m.1 r0 4 (wr ((m.1 r0 4) - 1))) r0 5 ((u2 m.1 r0 4 (wr ((m.1 r0 4) - 1))) p1 ((u2 m.1 r0 4 (wr ((m.1 r0 4) - 1))) r0 4).toNat)) r0 4).toNat)) r0 7 ((u2 (u2 (u2 m.1 r0 4 (wr ((m.1 r0 4) - 1))) r0 5 ((u2 m.1 r0 4 (wr ((m.1 r0 4) - 1))) p1 ((u2 m.1 r0 4 (wr ((m.1 r0 4) - 1))) r0 4).toNat)) r0 6 ((u2 (u2 m.1 r0 4 (wr ((m.1 r0 4) - 1))) r0 5 ((u2 m.1 r0 4 (wr ((m.1 r0 4) - 1))) p1 ((u2 m.1 r0 4 (wr ((m.1 r0 4) - 1))) r0 4).toNat)) p2 ((u2 (u2 m.1 r0 4 (wr ((m.1 r0 4) - 1))) r0 5 ((u2 m.1 r0 4 (wr ((m.1 r0 4) - 1))) p1 ((u2 m.1 r0 4 (wr ((m.1 r0 4) - 1))) r0 4).toNat)) r0 4).toNat)) p3 ((u2 (u2 (u2 m.1 r0 4 (wr ((m.1 r0 4) - 1))) r0 5 ((u2 m.1 r0 4 (wr ((m.1 r0 4) - 1))) p1 ((u2 m.1 r0 4 (wr ((m.1 r0 4) - 1))) r0 4).toNat)) r0 6 ((u2 (u2 m.1 r0 4 (wr ((m.1 r0 4) - 1))) r0 5 ((u2 m.1 r0 4 (wr ((m.1 r0 4) - 1))) p1 ((u2 m.1 r0 4 (wr ((m.1 r0 4) - 1))) r0 4).toNat)) p2 ((u2 (u2 m.1 r0 4 (wr ((m.1 r0 4) - 1))) r0 5 ((u2 m.1 r0 4 (wr ((m.1 r0 4) - 1))) p1 ((u2 m.1 r0 4 (wr ((m.1 r0 4) - 1))) r0 4).toNat)) r0 4).toNat)) r0 4).toNat)) p4 ((u2 (u2 (u2 (u2 m.1 r0 4 (wr ((m.1 r0 4) - 1))) r0 5 ((u2 m.1 r0 4 (wr ((m.1 r0 4) - 1))) p1 ((u2 m.1 r0 4 (wr ((m.1 r0 4) - 1))) r0 4).toNat)) r0 6 ((u2 (u2 m.1 r0 4 (wr ((m.1 r0 4) - 1))) r0 5 ((u2 m.1 r0 4 (wr ((m.1 r0 4) - 1))) p1 ((u2 m.1 r0 4 (wr ((m.1 r0 4) - 1))) r0 4).toNat)) p2 ((u2 (u2 m.1 r0 4 (wr ((m.1 r0 4) - 1))) r0 5 ((u2 m.1 r0 4 (wr ((m.1 r0 4) - 1))) p1 ((u2 m.1 r0 4 (wr ((m.1 r0 4) - 1))) r0 4).toNat)) r0 4).toNat)) r0 7 ((u2 (u2 (u2 m.1 r0 4 (wr ((m.1 r0 4) - 1))) r0 5 ((u2 m.1 r0 4 (wr ((m.1 r0 4) - 1))) p1 ((u2 m.1 r0 4 (wr ((m.1 r0 4) - 1))) r0 4).toNat)) r0 6 ((u2 (u2 m.1 r0 4 (wr ((m.1 r0 4) - 1))) r0 5 ((u2 m.1 r0 4 (wr ((m.1 r0 4) - 1))) p1 ((u2 m.1 r0 4 (wr ((m.1 r0 4) - 1))) r0 4).toNat)) p2 ((u2 (u2 m.1 r0 4 (wr ((m.1 r0 4) - 1))) r0 5 ((u2 m.1 r0 4 (wr ((m.1 r0 4) - 1))) p1 ((u2 m.1 r0 4 (wr ((m.1 r0 4) - 1))) r0 4).toNat)) r0 4).toNat)) p3 ((u2 (u2 (u2 m.1 r0 4 (wr ((m.1 r0 4) - 1))) r0 5 ((u2 m.1 r0 4 (wr ((m.1 r0 4) - 1))) p1 ((u2 m.1 r0 4 (wr ((m.1 r0 4) - 1))) r0 4).toNat)) r0 6 ((u2 (u2 m.1 r0 4 (wr ((m.1 r0 4) - 1))) r0 5 ((u2 m.1 r0 4 (wr ((m.1 r0 4) - 1))) p1 ((u2 m.1 r0 4 (wr ((m.1 r0 4) - 1))) r0 4).toNat)) p2 ((u2 (u2 m.1 r0 4 (wr ((m.1 r0 4) - 1))) r0 5 ((u2 m.1 r0 4 (wr ((m.1 r0 4) - 1))) p1 ((u2 m.1 r0 4 (wr ((m.1 r0 4) - 1))) r0 4).toNat)) r0 4).toNat)) r0 4).toNat)) r0 4).toNat)), m.2.1, m.2.2)) (k2 : ¬ (0 < (m.1 r0 4)) → Q (.inl (some (iV (0)))) m) (h5 : 0 < (m.1 r0 4) → 0 ≤ (u2 m.1 r0 4 (wr ((m.1 r0 4) - 1))) r0 4 := by intros; first | omega | (dsimp only at *; omega)) (h6 : 0 < (m.1 r0 4) → (u2 m.1 r0 4 (wr ((m.1 r0 4) - 1))) r0 4 < (n_p1 : Int) := by intros; first | omega | (dsimp only at *; omega)) (h9 : 0 < (m.1 r0 4) → 0 ≤ (u2 (u2 m.1 r0 4 (wr ((m.1 r0 4) - 1))) r0 5 ((u2 m.1 r0 4 (wr ((m.1 r0 4) - 1))) p1 ((u2 m.1 r0 4 (wr ((m.1 r0 4) - 1))) r0 4).toNat)) r0 4 := by intros; first | omega | (dsimp only at *; omega)) (h10 : 0 < (m.1 r0 4) → (u2 (u2 m.1 r0 4 (wr ((m.1 r0 4) - 1))) r0 5 ((u2 m.1 r0 4 (wr ((m.1 r0 4) - 1))) p1 ((u2 m.1 r0 4 (wr ((m.1 r0 4) - 1))) r0 4).toNat)) r0 4 < (n_p2 : Int) := by intros; first | omega | (dsimp only at *; omega)) (h13 : 0 < (m.1 r0 4) → 0 ≤ (u2 (u2 (u2 m.1 r0 4 (wr ((m.1 r0 4) - 1))) r0 5 ((u2 m.1 r0 4 (wr ((m.1 r0 4) - 1))) p1 ((u2 m.1 r0 4 (wr ((m.1 r0 4) - 1))) r0 4).toNat)) r0 6 ((u2 (u2 m.1 r0 4 (wr ((m.1 r0 4) - 1))) r0 5 ((u2 m.1 r0 4 (wr ((m.1 r0 4) - 1))) p1 ((u2 m.1 r0 4 (wr ((m.1 r0 4) - 1))) r0 4).toNat)) p2 ((u2 (u2 m.1 r0 4 (wr ((m.1 r0 4) - 1))) r0 5 ((u2 m.1 r0 4 (wr ((m.1 r0 4) - 1))) p1 ((u2 m.1 r0 4 (wr ((m.1 r0 4) - 1))) r0 4).toNat)) r0 4).toNat)) r0 4 := by intros; first | omega | (dsimp only at *; omega)) (h14 : 0 < (m.1 r0 4) → (u2 (u2 (u2 m.1 r0 4 (wr ((m.1 r0 4) - 1))) r0 5 ((u2 m.1 r0 4 (wr ((m.1 r0 4) - 1))) p1 ((u2 m.1 r0 4 (wr ((m.1 r0 4) - 1))) r0 4).toNat)) r0 6 ((u2 (u2 m.1 r0 4 (wr ((m.1 r0 4) - 1))) r0 5 ((u2 m.1 r0 4 (wr ((m.1 r0 4) - 1))) p1 ((u2 m.1 r0 4 (wr ((m.1 r0 4) - 1))) r0 4).toNat)) p2 ((u2 (u2 m.1 r0 4 (wr ((m.1 r0 4) - 1))) r0 5 ((u2 m.1 r0 4 (wr ((m.1 r0 4) - 1))) p1 ((u2 m.1 r0 4 (wr ((m.1 r0 4) - 1))) r0 4).toNat)) r0 4).toNat)) r0 4 < (n_p3 : Int) := by intros; first | omega | (dsimp only at *; omega)) (h17 : 0 < (m.1 r0 4) → 0 ≤ (u2 (u2 (u2 (u2 m.1 r0 4 (wr ((m.1 r0 4) - 1))) r0 5 ((u2 m.1 r0 4 (wr ((m.1 r0 4) - 1))) p1 ((u2 m.1 r0 4 (wr ((m.1 r0 4) - 1))) r0 4).toNat)) r0 6 ((u2 (u2 m.1 r0 4 (wr ((m.1 r0 4) - 1))) r0 5 ((u2 m.1 r0 4 (wr ((m.1 r0 4) - 1))) p1 ((u2 m.1 r0 4 (wr ((m.1 r0 4) - 1))) r0 4).toNat)) p2 ((u2 (u2 m.1 r0 4 (wr ((m.1 r0 4) - 1))) r0 5 ((u2 m.1 r0 4 (wr ((m.1 r0 4) - 1))) p1 ((u2 m.1 r0 4 (wr ((m.1 r0 4) - 1))) r0 4).toNat)) r0 4).toNat)) r0 7 ((u2 (u2 (u2 m.1 r0 4 (wr ((m.1 r0 4) - 1))) r0 5 ((u2 m.1 r0 4 (wr ((m.1 r0 4) - 1))) p1 ((u2 m.1 r0 4 (wr ((m.1 r0 4) - 1))) r0 4).toNat)) r0 6 ((u2 (u2 m.1 r0 4 (wr ((m.1 r0 4) - 1))) r0 5 ((u2 m.1 r0 4 (wr ((m.1 r0 4) - 1))) p1 ((u2 m.1 r0 4 (wr ((m.1 r0 4) - 1))) r0 4).toNat)) p2 ((u2 (u2 m.1 r0 4 (wr ((m.1 r0 4) - 1))) r0 5 ((u2 m.1 r0 4 (wr ((m.1 r0 4) - 1))) p1 ((u2 m.1 r0 4 (wr ((m.1 r0 4) - 1))) r0 4).toNat)) r0 4).toNat)) p3 ((u2 (u2 (u2 m.1 r0 4 (wr ((m.1 r0 4) - 1))) r0 5 ((u2 m.1 r0 4 (wr ((m.1 r0 4) - 1))) p1 ((u2 m.1 r0 4 (wr ((m.1 r0 4) - 1))) r0 4).toNat)) r0 6 ((u2 (u2 m.1 r0 4 (wr ((m.1 r0 4) - 1))) r0 5 ((u2 m.1 r0 4 (wr ((m.1 r0 4) - 1))) p1 ((u2 m.1 r0 4 (wr ((m.1 r0 4) - 1))) r0 4).toNat)) p2 ((u2 (u2 m.1 r0 4 (wr ((m.1 r0 4) - 1))) r0 5 ((u2 m.1 r0 4 (wr ((m.1 r0 4) - 1))) p1 ((u2 m.1 r0 4 (wr ((m.1 r0 4) - 1))) r0 4).toNat)) r0 4).toNat)) r0 4).toNat)) r0 4 := by intros; first | omega | (dsimp only at *; omega)) (h18 : 0 < (m.1 r0 4) → (u2 (u2 (u2 (u2 m.1 r0 4 (wr ((m.1 r0 4) - 1))) r0 5 ((u2 m.1 r0 4 (wr ((m.1 r0 4) - 1))) p1 ((u2 m.1 r0 4 (wr ((m.1 r0 4) - 1))) r0 4).toNat)) r0 6 ((u2 (u2 m.1 r0 4 (wr ((m.1 r0 4) - 1))) r0 5 ((u2 m.1 r0 4 (wr ((m.1 r0 4) - 1))) p1 ((u2 m.1 r0 4 (wr ((m.1 r0 4) - 1))) r0 4).toNat)) p2 ((u2 (u2 m.1 r0 4 (wr ((m.1 r0 4) - 1))) r0 5 ((u2 m.1 r0 4 (wr ((m.1 r0 4) - 1))) p1 ((u2 m.1 r0 4 (wr ((m.1 r0 4) - 1))) r0 4).toNat)) r0 4).toNat)) r0 7 ((u2 (u2 (u2 m.1 r0 4 (wr ((m.1 r0 4) - 1))) r0 5 ((u2 m.1 r0 4 (wr ((m.1 r0 4) - 1))) p1 ((u2 m.1 r0 4 (wr ((m.1 r0 4) - 1))) r0 4).toNat)) r0 6 ((u2 (u2 m.1 r0 4 (wr ((m.1 r0 4) - 1))) r0 5 ((u2 m.1 r0 4 (wr ((m.1 r0 4) - 1))) p1 ((u2 m.1 r0 4 (wr ((m.1 r0 4) - 1))) r0 4).toNat)) p2 ((u2 (u2 m.1 r0 4 (wr ((m.1 r0 4) - 1))) r0 5 ((u2 m.1 r0 4 (wr ((m.1 r0 4) - 1))) p1 ((u2 m.1 r0 4 (wr ((m.1 r0 4) - 1))) r0 4).toNat)) r0 4).toNat)) p3 ((u2 (u2 (u2 m.1 r0 4 (wr ((m.1 r0 4) - 1))) r0 5 ((u2 m.1 r0 4 (wr ((m.1 r0 4) - 1))) p1 ((u2 m.1 r0 4 (wr ((m.1 r0 4) - 1))) r0 4).toNat)) r0 6 ((u2 (u2 m.1 r0 4 (wr ((m.1 r0 4) - 1))) r0 5 ((u2 m.1 r0 4 (wr ((m.1 r0 4) - 1))) p1 ((u2 m.1 r0 4 (wr ((m.1 r0 4) - 1))) r0 4).toNat)) p2 ((u2 (u2 m.1 r0 4 (wr ((m.1 r0 4) - 1))) r0 5 ((u2 m.1 r0 4 (wr ((m.1 r0 4) - 1))) p1 ((u2 m.1 r0 4 (wr ((m.1 r0 4) - 1))) r0 4).toNat)) r0 4).toNat)) r0 4).toNat)) r0 4 < (n_p4 : Int) := by intros; first | omega | (dsimp only at *; omega)) : X G dp a b M0_takeLatest 0 [some (rV (some r0))] [] m Q := by
  refine X_aload_n dX0_takeLatest_0 rfl rfl ?_
  refine X_getI dX0_takeLatest_1 fl_0_24 (by decide) (am_ow h2) ?_
  refine X_if_gt (tgt := 9) dX0_takeLatest_4 (by decide) (fun c1 => ?_) (fun c1 => ?_)
  · refine X_aload_n dX0_takeLatest_9 rfl rfl ?_
    refine X_dup dX0_takeLatest_10 rfl ?_
    refine X_getI dX0_takeLatest_11 fl_0_24 (by decide) (am_ow h2) ?_
    refine Y_iconst dX0_takeLatest_14 (by unfold i32; omega) ?_
    refine X_isub dX0_takeLatest_15  ?_
    refine X_putI dX0_takeLatest_16 fw_0_24 rfl h2 ?_
    refine X_aload_n dX0_takeLatest_19 rfl rfl ?_
    refine X_aload_n dX0_takeLatest_20 rfl rfl ?_
    refine X_getP dX0_takeLatest_21 fl_0_9 rfl (am_ow h2) ?_
    refine am_ptr h3 ?_
    refine X_aload_n dX0_takeLatest_24 rfl rfl ?_
    refine X_getI dX0_takeLatest_25 fl_0_24 (by decide) (am_ow h2) ?_
    refine X_iald dX0_takeLatest_28 h4 (h5 c1) (h6 c1) ?_
    refine X_putI dX0_takeLatest_29 fw_0_28 rfl h2 ?_
    refine X_aload_n dX0_takeLatest_32 rfl rfl ?_
    refine X_aload_n dX0_takeLatest_33 rfl rfl ?_
    refine X_getP dX0_takeLatest_34 fl_0_15 rfl (am_ow h2) ?_
    refine am_ptr h7 ?_
    refine X_aload_n dX0_takeLatest_37 rfl rfl ?_
    refine X_getI dX0_takeLatest_38 fl_0_24 (by decide) (am_ow h2) ?_
    refine X_iald dX0_takeLatest_41 h8 (h9 c1) (h10 c1) ?_
    refine X_putI dX0_takeLatest_42 fw_0_31 rfl h2 ?_
    refine X_aload_n dX0_takeLatest_45 rfl rfl ?_
    refine X_aload_n dX0_takeLatest_46 rfl rfl ?_
    refine X_getP dX0_takeLatest_47 fl_0_18 rfl (am_ow h2) ?_
    refine am_ptr h11 ?_
    refine X_aload_n dX0_takeLatest_50 rfl rfl ?_
    refine X_getI dX0_takeLatest_51 fl_0_24 (by decide) (am_ow h2) ?_
    refine X_iald dX0_takeLatest_54 h12 (h13 c1) (h14 c1) ?_
    refine X_putI dX0_takeLatest_55 fw_0_34 rfl h2 ?_
    refine X_aload_n dX0_takeLatest_58 rfl rfl ?_
    refine X_aload_n dX0_takeLatest_59 rfl rfl ?_
    refine X_getP dX0_takeLatest_60 fl_0_21 rfl (am_ow h2) ?_
    refine am_ptr h15 ?_
    refine X_aload_n dX0_takeLatest_63 rfl rfl ?_
    refine X_getI dX0_takeLatest_64 fl_0_24 (by decide) (am_ow h2) ?_
    refine X_iald dX0_takeLatest_67 h16 (h17 c1) (h18 c1) ?_
    refine X_putI dX0_takeLatest_68 fw_0_37 rfl h2 ?_
    refine Y_iconst dX0_takeLatest_71 (by unfold i32; omega) ?_
    exact X_zret dX0_takeLatest_72 rfl (by decide) (k1 c1)
  · refine Y_iconst dX0_takeLatest_7 (by unfold i32; omega) ?_
    exact X_zret dX0_takeLatest_8 rfl (by decide) (k2 c1)

