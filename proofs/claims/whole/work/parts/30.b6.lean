/-! TREES of bytecode, by program: X6_* -/
theorem s6_open_0 {G : am_G} {dp a b : Nat} {m : am_M} {Q : am_Q} {i2 : Int} {r0 r1 : Nat} {n_r1 t_r1 : Nat} (hdp : 1 ≤ dp) (h1 : am_obw m r0 5) (h2 : am_ar m r1 t_r1 n_r1) (h3 : 100 ≤ t_r1) (k1 : ∀ Q' : am_Q, (∀ (m' : am_M), X G dp a b M6_open 38 [some (rV (some r0)), some (rV (some r1)), some (iV (i2))] [] m' Q → Q' (.inl none) m') → T G (dp - 1) 0 0 M6_step [rV (some r0)] ((u2 (u2 (u2 (u2 m.1 r0 1 (max 0 (min i2 (n_r1 : Int)))) r0 3 (0)) r0 6 (0)) r0 7 ((-1))), (u2 m.2.1 r0 0 (some r1)), m.2.2) Q')  : X G dp a b M6_open 0 [some (rV (some r0)), some (rV (some r1)), some (iV (i2))] [] m Q := by
  refine X_aload_n dX6_open_0 rfl rfl ?_
  refine X_aload_n dX6_open_1 rfl rfl ?_
  refine X_putP dX6_open_2 fw_6_9 rfl h1 ?_
  refine X_aload_n dX6_open_5 rfl rfl ?_
  refine Y_iconst dX6_open_6 (by unfold i32; omega) ?_
  refine X_iload_n dX6_open_7 rfl rfl ?_
  refine X_aload_n dX6_open_8 rfl rfl ?_
  refine X_alen dX6_open_9 h3 h2 ?_
  refine X_minI dX6_open_10 ml_6_37 (Nat.le_of_ble_eq_true rfl) ?_
  refine X_maxI dX6_open_13 ml_6_43 (Nat.le_of_ble_eq_true rfl) ?_
  refine X_putI dX6_open_16 fw_6_15 rfl h1 ?_
  refine X_aload_n dX6_open_19 rfl rfl ?_
  refine Y_iconst dX6_open_20 (by unfold i32; omega) ?_
  refine X_putI dX6_open_21 fw_6_22 rfl h1 ?_
  refine X_aload_n dX6_open_24 rfl rfl ?_
  refine Y_iconst dX6_open_25 (by unfold i32; omega) ?_
  refine X_putI dX6_open_26 fw_6_31 rfl h1 ?_
  refine X_aload_n dX6_open_29 rfl rfl ?_
  refine Y_iconst dX6_open_30 (by unfold i32; omega) ?_
  refine X_putI dX6_open_31 fw_6_34 rfl h1 ?_
  refine X_aload_n dX6_open_34 rfl rfl ?_
  exact X_callV (As := []) (rest := []) (a' := 0) (b' := 0) dX6_open_35 t6_step ml_6_46 (am_ow h1) rfl rfl (Nat.le_of_ble_eq_true rfl) rfl hdp (Nat.zero_le _) (Nat.zero_le _) (k1 _ (fun m' h => h))

theorem s6_open_38 {G : am_G} {dp a b : Nat} {m : am_M} {Q : am_Q} {i2 : Int} {r0 r1 : Nat}  (k1 : Q (.inl none) m)  : X G dp a b M6_open 38 [some (rV (some r0)), some (rV (some r1)), some (iV (i2))] [] m Q := by
  exact X_vret dX6_open_38 rfl k1

theorem s6_isFine_0 {G : am_G} {dp a b : Nat} {m : am_M} {Q : am_Q} {r0 : Nat} (h1 : am_ob m r0 5) (k1 : ¬ ((m.1 r0 6) = 0) → Q (.inl (some (iV (0)))) m) (k2 : ((m.1 r0 6) = 0) → Q (.inl (some (iV (1)))) m)  : X G dp a b M6_isFine 0 [some (rV (some r0))] [] m Q := by
  refine X_aload_n dX6_isFine_0 rfl rfl ?_
  refine X_getI dX6_isFine_1 fl_6_31 (by decide) h1 ?_
  refine X_if_ne (tgt := 11) dX6_isFine_4 (by decide) (fun c1 => ?_) (fun c1 => ?_)
  · refine Y_iconst dX6_isFine_11 (by unfold i32; omega) ?_
    exact X_zret dX6_isFine_12 rfl (by decide) (k1 c1)
  · refine Y_iconst dX6_isFine_7 (by unfold i32; omega) ?_
    refine X_goto (tgt := 12) dX6_isFine_8 (by decide) ?_
    exact X_zret dX6_isFine_12 rfl (by decide) (k2 c1)

theorem s6_isEnd_0 {G : am_G} {dp a b : Nat} {m : am_M} {Q : am_Q} {r0 : Nat} (h1 : am_ob m r0 5) (k1 : ¬ ((m.1 r0 4) = 0) → Q (.inl (some (iV (0)))) m) (k2 : ((m.1 r0 4) = 0) → Q (.inl (some (iV (1)))) m)  : X G dp a b M6_isEnd 0 [some (rV (some r0))] [] m Q := by
  refine X_aload_n dX6_isEnd_0 rfl rfl ?_
  refine X_getI dX6_isEnd_1 fl_6_25 (by decide) h1 ?_
  refine X_if_ne (tgt := 11) dX6_isEnd_4 (by decide) (fun c1 => ?_) (fun c1 => ?_)
  · refine Y_iconst dX6_isEnd_11 (by unfold i32; omega) ?_
    exact X_zret dX6_isEnd_12 rfl (by decide) (k1 c1)
  · refine Y_iconst dX6_isEnd_7 (by unfold i32; omega) ?_
    refine X_goto (tgt := 12) dX6_isEnd_8 (by decide) ?_
    exact X_zret dX6_isEnd_12 rfl (by decide) (k2 c1)

theorem s6_fail_0 {G : am_G} {dp a b : Nat} {m : am_M} {Q : am_Q} {i1 : Int} {r0 : Nat} (h2 : am_obw m r0 5) (k1 : ¬ ((m.1 r0 6) = 0) → Q (.inl none) m) (k2 : ((m.1 r0 6) = 0) → Q (.inl none) ((u2 (u2 m.1 r0 6 (i1)) r0 7 ((u2 m.1 r0 6 (i1)) r0 2)), m.2.1, m.2.2))  : X G dp a b M6_fail 0 [some (rV (some r0)), some (iV (i1))] [] m Q := by
  refine X_aload_n dX6_fail_0 rfl rfl ?_
  refine X_getI dX6_fail_1 fl_6_31 (by decide) (am_ow h2) ?_
  refine X_if_ne (tgt := 20) dX6_fail_4 (by decide) (fun c1 => ?_) (fun c1 => ?_)
  · exact X_vret dX6_fail_20 rfl (k1 c1)
  · refine X_aload_n dX6_fail_7 rfl rfl ?_
    refine X_iload_n dX6_fail_8 rfl rfl ?_
    refine X_putI dX6_fail_9 fw_6_31 rfl h2 ?_
    refine X_aload_n dX6_fail_12 rfl rfl ?_
    refine X_aload_n dX6_fail_13 rfl rfl ?_
    refine X_getI dX6_fail_14 fl_6_19 (by decide) (am_ow h2) ?_
    refine X_putI dX6_fail_17 fw_6_34 rfl h2 ?_
    exact X_vret dX6_fail_20 rfl (k2 c1)

theorem s6_step_0 {G : am_G} {dp a b : Nat} {m : am_M} {Q : am_Q} {r0 : Nat} (h2 : am_obw m r0 5) (k1 : X G dp a b M6_step 8 [some (rV (some r0))] [] ((u2 m.1 r0 2 (m.1 r0 3)), m.2.1, m.2.2) Q)  : X G dp a b M6_step 0 [some (rV (some r0))] [] m Q := by
  refine X_aload_n dX6_step_0 rfl rfl ?_
  refine X_aload_n dX6_step_1 rfl rfl ?_
  refine X_getI dX6_step_2 fl_6_22 (by decide) (am_ow h2) ?_
  refine X_putI dX6_step_5 fw_6_19 rfl h2 ?_
  exact k1

theorem s6_step_8 {G : am_G} {dp a b : Nat} {m : am_M} {Q : am_Q} {r0 p1 : Nat} {n_p1 : Nat} (h2 : am_obw m r0 5) (h3 : m.2.1 r0 0 = some p1) (h4 : am_ar m p1 102 n_p1) (k1 : ((m.1 r0 1) ≤ (m.1 r0 2)) → X G dp a b M6_step 73 [some (rV (some r0))] [] ((u2 (u2 m.1 r0 3 (m.1 r0 2)) r0 4 (0)), m.2.1, m.2.2) Q) (k2 : ¬ ((m.1 r0 1) ≤ (m.1 r0 2)) → ((m.1 p1 (m.1 r0 2).toNat) = 32) → X G dp a b M6_step 8 [some (rV (some r0))] [] ((u2 m.1 r0 2 (wr ((m.1 r0 2) + 1))), m.2.1, m.2.2) Q) (k3 : ¬ ((m.1 r0 1) ≤ (m.1 r0 2)) → ¬ ((m.1 p1 (m.1 r0 2).toNat) = 32) → ¬ ((m.1 p1 (m.1 r0 2).toNat) = 10) → X G dp a b M6_step 73 [some (rV (some r0))] [] ((u2 (u2 m.1 r0 3 (m.1 r0 2)) r0 4 (0)), m.2.1, m.2.2) Q) (k4 : ¬ ((m.1 r0 1) ≤ (m.1 r0 2)) → ¬ ((m.1 p1 (m.1 r0 2).toNat) = 32) → ((m.1 p1 (m.1 r0 2).toNat) = 10) → X G dp a b M6_step 8 [some (rV (some r0))] [] ((u2 m.1 r0 2 (wr ((m.1 r0 2) + 1))), m.2.1, m.2.2) Q) (h5 : ¬ ((m.1 r0 1) ≤ (m.1 r0 2)) → 0 ≤ m.1 r0 2 := by intros; first | omega | (dsimp only at *; omega)) (h6 : ¬ ((m.1 r0 1) ≤ (m.1 r0 2)) → m.1 r0 2 < (n_p1 : Int) := by intros; first | omega | (dsimp only at *; omega)) : X G dp a b M6_step 8 [some (rV (some r0))] [] m Q := by
  refine X_aload_n dX6_step_8 rfl rfl ?_
  refine X_getI dX6_step_9 fl_6_19 (by decide) (am_ow h2) ?_
  refine X_aload_n dX6_step_12 rfl rfl ?_
  refine X_getI dX6_step_13 fl_6_15 (by decide) (am_ow h2) ?_
  refine X_icmp_ge (tgt := 60) dX6_step_16 (by decide) (fun c1 => ?_) (fun c1 => ?_)
  · refine X_aload_n dX6_step_60 rfl rfl ?_
    refine X_aload_n dX6_step_61 rfl rfl ?_
    refine X_getI dX6_step_62 fl_6_19 (by decide) (am_ow h2) ?_
    refine X_putI dX6_step_65 fw_6_22 rfl h2 ?_
    refine X_aload_n dX6_step_68 rfl rfl ?_
    refine Y_iconst dX6_step_69 (by unfold i32; omega) ?_
    refine X_putI dX6_step_70 fw_6_25 rfl h2 ?_
    exact (k1 c1)
  · refine X_aload_n dX6_step_19 rfl rfl ?_
    refine X_getP dX6_step_20 fl_6_9 rfl (am_ow h2) ?_
    refine am_ptr h3 ?_
    refine X_aload_n dX6_step_23 rfl rfl ?_
    refine X_getI dX6_step_24 fl_6_19 (by decide) (am_ow h2) ?_
    refine X_bald dX6_step_27 h4 (h5 c1) (h6 c1) ?_
    refine Y_bipush dX6_step_28 (by omega) ?_
    refine X_icmp_eq (tgt := 47) dX6_step_30 (by decide) (fun c2 => ?_) (fun c2 => ?_)
    · refine X_aload_n dX6_step_47 rfl rfl ?_
      refine X_dup dX6_step_48 rfl ?_
      refine X_getI dX6_step_49 fl_6_19 (by decide) (am_ow h2) ?_
      refine Y_iconst dX6_step_52 (by unfold i32; omega) ?_
      refine X_iadd dX6_step_53  ?_
      refine X_putI dX6_step_54 fw_6_19 rfl h2 ?_
      refine X_goto (tgt := 8) dX6_step_57 (by decide) ?_
      exact (k2 c1 c2)
    · refine X_aload_n dX6_step_33 rfl rfl ?_
      refine X_getP dX6_step_34 fl_6_9 rfl (am_ow h2) ?_
      refine am_ptr h3 ?_
      refine X_aload_n dX6_step_37 rfl rfl ?_
      refine X_getI dX6_step_38 fl_6_19 (by decide) (am_ow h2) ?_
      refine X_bald dX6_step_41 h4 (h5 c1) (h6 c1) ?_
      refine Y_bipush dX6_step_42 (by omega) ?_
      refine X_icmp_ne (tgt := 60) dX6_step_44 (by decide) (fun c3 => ?_) (fun c3 => ?_)
      · refine X_aload_n dX6_step_60 rfl rfl ?_
        refine X_aload_n dX6_step_61 rfl rfl ?_
        refine X_getI dX6_step_62 fl_6_19 (by decide) (am_ow h2) ?_
        refine X_putI dX6_step_65 fw_6_22 rfl h2 ?_
        refine X_aload_n dX6_step_68 rfl rfl ?_
        refine Y_iconst dX6_step_69 (by unfold i32; omega) ?_
        refine X_putI dX6_step_70 fw_6_25 rfl h2 ?_
        exact (k3 c1 c2 c3)
      · refine X_aload_n dX6_step_47 rfl rfl ?_
        refine X_dup dX6_step_48 rfl ?_
        refine X_getI dX6_step_49 fl_6_19 (by decide) (am_ow h2) ?_
        refine Y_iconst dX6_step_52 (by unfold i32; omega) ?_
        refine X_iadd dX6_step_53  ?_
        refine X_putI dX6_step_54 fw_6_19 rfl h2 ?_
        refine X_goto (tgt := 8) dX6_step_57 (by decide) ?_
        exact (k4 c1 c2 c3)

theorem s6_step_73 {G : am_G} {dp a b : Nat} {m : am_M} {Q : am_Q} {r0 p1 : Nat} {n_p1 : Nat} (h2 : am_obw m r0 5) (h3 : m.2.1 r0 0 = some p1) (h4 : am_ar m p1 102 n_p1) (k1 : ((m.1 r0 1) ≤ (m.1 r0 3)) → ¬ ((m.1 r0 4) = 1) → X G dp a b M6_step 144 [some (rV (some r0))] [] ((u2 m.1 r0 5 (0)), m.2.1, m.2.2) Q) (k2 : ((m.1 r0 1) ≤ (m.1 r0 3)) → ((m.1 r0 4) = 1) → Q (.inl none) m) (k3 : ¬ ((m.1 r0 1) ≤ (m.1 r0 3)) → ((m.1 p1 (m.1 r0 3).toNat) < 97) → ¬ ((m.1 r0 4) = 1) → X G dp a b M6_step 144 [some (rV (some r0))] [] ((u2 m.1 r0 5 (0)), m.2.1, m.2.2) Q) (k4 : ¬ ((m.1 r0 1) ≤ (m.1 r0 3)) → ((m.1 p1 (m.1 r0 3).toNat) < 97) → ((m.1 r0 4) = 1) → Q (.inl none) m) (k5 : ¬ ((m.1 r0 1) ≤ (m.1 r0 3)) → ¬ ((m.1 p1 (m.1 r0 3).toNat) < 97) → (122 < (m.1 p1 (m.1 r0 3).toNat)) → ¬ ((m.1 r0 4) = 1) → X G dp a b M6_step 144 [some (rV (some r0))] [] ((u2 m.1 r0 5 (0)), m.2.1, m.2.2) Q) (k6 : ¬ ((m.1 r0 1) ≤ (m.1 r0 3)) → ¬ ((m.1 p1 (m.1 r0 3).toNat) < 97) → (122 < (m.1 p1 (m.1 r0 3).toNat)) → ((m.1 r0 4) = 1) → Q (.inl none) m) (k7 : ¬ ((m.1 r0 1) ≤ (m.1 r0 3)) → ¬ ((m.1 p1 (m.1 r0 3).toNat) < 97) → ¬ (122 < (m.1 p1 (m.1 r0 3).toNat)) → X G dp a b M6_step 73 [some (rV (some r0))] [] ((u2 (u2 m.1 r0 4 (1)) r0 3 (wr (((u2 m.1 r0 4 (1)) r0 3) + 1))), m.2.1, m.2.2) Q) (h5 : ¬ ((m.1 r0 1) ≤ (m.1 r0 3)) → 0 ≤ m.1 r0 3 := by intros; first | omega | (dsimp only at *; omega)) (h6 : ¬ ((m.1 r0 1) ≤ (m.1 r0 3)) → m.1 r0 3 < (n_p1 : Int) := by intros; first | omega | (dsimp only at *; omega)) : X G dp a b M6_step 73 [some (rV (some r0))] [] m Q := by
  refine X_aload_n dX6_step_73 rfl rfl ?_
  refine X_getI dX6_step_74 fl_6_22 (by decide) (am_ow h2) ?_
  refine X_aload_n dX6_step_77 rfl rfl ?_
  refine X_getI dX6_step_78 fl_6_15 (by decide) (am_ow h2) ?_
  refine X_icmp_ge (tgt := 130) dX6_step_81 (by decide) (fun c1 => ?_) (fun c1 => ?_)
  · refine X_aload_n dX6_step_130 rfl rfl ?_
    refine X_getI dX6_step_131 fl_6_25 (by decide) (am_ow h2) ?_
    refine Y_iconst dX6_step_134 (by unfold i32; omega) ?_
    refine X_icmp_ne (tgt := 139) dX6_step_135 (by decide) (fun c2 => ?_) (fun c2 => ?_)
    · refine X_aload_n dX6_step_139 rfl rfl ?_
      refine Y_iconst dX6_step_140 (by unfold i32; omega) ?_
      refine X_putI dX6_step_141 fw_6_28 rfl h2 ?_
      exact (k1 c1 c2)
    · exact X_vret dX6_step_138 rfl (k2 c1 c2)
  · refine X_aload_n dX6_step_84 rfl rfl ?_
    refine X_getP dX6_step_85 fl_6_9 rfl (am_ow h2) ?_
    refine am_ptr h3 ?_
    refine X_aload_n dX6_step_88 rfl rfl ?_
    refine X_getI dX6_step_89 fl_6_22 (by decide) (am_ow h2) ?_
    refine X_bald dX6_step_92 h4 (h5 c1) (h6 c1) ?_
    refine Y_bipush dX6_step_93 (by omega) ?_
    refine X_icmp_lt (tgt := 130) dX6_step_95 (by decide) (fun c3 => ?_) (fun c3 => ?_)
    · refine X_aload_n dX6_step_130 rfl rfl ?_
      refine X_getI dX6_step_131 fl_6_25 (by decide) (am_ow h2) ?_
      refine Y_iconst dX6_step_134 (by unfold i32; omega) ?_
      refine X_icmp_ne (tgt := 139) dX6_step_135 (by decide) (fun c4 => ?_) (fun c4 => ?_)
      · refine X_aload_n dX6_step_139 rfl rfl ?_
        refine Y_iconst dX6_step_140 (by unfold i32; omega) ?_
        refine X_putI dX6_step_141 fw_6_28 rfl h2 ?_
        exact (k3 c1 c3 c4)
      · exact X_vret dX6_step_138 rfl (k4 c1 c3 c4)
    · refine X_aload_n dX6_step_98 rfl rfl ?_
      refine X_getP dX6_step_99 fl_6_9 rfl (am_ow h2) ?_
      refine am_ptr h3 ?_
      refine X_aload_n dX6_step_102 rfl rfl ?_
      refine X_getI dX6_step_103 fl_6_22 (by decide) (am_ow h2) ?_
      refine X_bald dX6_step_106 h4 (h5 c1) (h6 c1) ?_
      refine Y_bipush dX6_step_107 (by omega) ?_
      refine X_icmp_gt (tgt := 130) dX6_step_109 (by decide) (fun c5 => ?_) (fun c5 => ?_)
      · refine X_aload_n dX6_step_130 rfl rfl ?_
        refine X_getI dX6_step_131 fl_6_25 (by decide) (am_ow h2) ?_
        refine Y_iconst dX6_step_134 (by unfold i32; omega) ?_
        refine X_icmp_ne (tgt := 139) dX6_step_135 (by decide) (fun c6 => ?_) (fun c6 => ?_)
        · refine X_aload_n dX6_step_139 rfl rfl ?_
          refine Y_iconst dX6_step_140 (by unfold i32; omega) ?_
          refine X_putI dX6_step_141 fw_6_28 rfl h2 ?_
          exact (k5 c1 c3 c5 c6)
        · exact X_vret dX6_step_138 rfl (k6 c1 c3 c5 c6)
      · refine X_aload_n dX6_step_112 rfl rfl ?_
        refine Y_iconst dX6_step_113 (by unfold i32; omega) ?_
        refine X_putI dX6_step_114 fw_6_25 rfl h2 ?_
        refine X_aload_n dX6_step_117 rfl rfl ?_
        refine X_dup dX6_step_118 rfl ?_
        refine X_getI dX6_step_119 fl_6_22 (by decide) (am_ow h2) ?_
        refine Y_iconst dX6_step_122 (by unfold i32; omega) ?_
        refine X_iadd dX6_step_123  ?_
        refine X_putI dX6_step_124 fw_6_22 rfl h2 ?_
        refine X_goto (tgt := 73) dX6_step_127 (by decide) ?_
        exact (k7 c1 c3 c5)

theorem s6_step_144 {G : am_G} {dp a b : Nat} {m : am_M} {Q : am_Q} {r0 p1 : Nat} {n_p1 : Nat} (h2 : m.2.1 r0 0 = some p1) (h3 : am_ar m p1 102 n_p1) (h6 : am_obw m r0 5) (k1 : ((m.1 r0 1) ≤ (m.1 r0 3)) → X G dp a b M6_step 230 [some (rV (some r0))] [] m Q) (k2 : ¬ ((m.1 r0 1) ≤ (m.1 r0 3)) → ((m.1 p1 (m.1 r0 3).toNat) < 48) → X G dp a b M6_step 230 [some (rV (some r0))] [] m Q) (k3 : ¬ ((m.1 r0 1) ≤ (m.1 r0 3)) → ¬ ((m.1 p1 (m.1 r0 3).toNat) < 48) → (57 < (m.1 p1 (m.1 r0 3).toNat)) → X G dp a b M6_step 230 [some (rV (some r0))] [] m Q) (k4 : ¬ ((m.1 r0 1) ≤ (m.1 r0 3)) → ¬ ((m.1 p1 (m.1 r0 3).toNat) < 48) → ¬ (57 < (m.1 p1 (m.1 r0 3).toNat)) → X G dp a b M6_step 144 [some (rV (some r0))] [] ((u2 (u2 (u2 m.1 r0 4 (2)) r0 5 (min 100000000 (wr ((wr ((wr (((u2 m.1 r0 4 (2)) r0 5) * 10)) + ((u2 m.1 r0 4 (2)) p1 ((u2 m.1 r0 4 (2)) r0 3).toNat))) - 48)))) r0 3 (wr (((u2 (u2 m.1 r0 4 (2)) r0 5 (min 100000000 (wr ((wr ((wr (((u2 m.1 r0 4 (2)) r0 5) * 10)) + ((u2 m.1 r0 4 (2)) p1 ((u2 m.1 r0 4 (2)) r0 3).toNat))) - 48)))) r0 3) + 1))), m.2.1, m.2.2) Q) (h4 : ¬ ((m.1 r0 1) ≤ (m.1 r0 3)) → 0 ≤ m.1 r0 3 := by intros; first | omega | (dsimp only at *; omega)) (h5 : ¬ ((m.1 r0 1) ≤ (m.1 r0 3)) → m.1 r0 3 < (n_p1 : Int) := by intros; first | omega | (dsimp only at *; omega)) (h7 : ¬ ((m.1 r0 1) ≤ (m.1 r0 3)) → ¬ ((m.1 p1 (m.1 r0 3).toNat) < 48) → ¬ (57 < (m.1 p1 (m.1 r0 3).toNat)) → 0 ≤ (u2 m.1 r0 4 (2)) r0 3 := by intros; first | omega | (dsimp only at *; omega)) (h8 : ¬ ((m.1 r0 1) ≤ (m.1 r0 3)) → ¬ ((m.1 p1 (m.1 r0 3).toNat) < 48) → ¬ (57 < (m.1 p1 (m.1 r0 3).toNat)) → (u2 m.1 r0 4 (2)) r0 3 < (n_p1 : Int) := by intros; first | omega | (dsimp only at *; omega)) : X G dp a b M6_step 144 [some (rV (some r0))] [] m Q := by
  refine X_aload_n dX6_step_144 rfl rfl ?_
  refine X_getI dX6_step_145 fl_6_22 (by decide) (am_ow h6) ?_
  refine X_aload_n dX6_step_148 rfl rfl ?_
  refine X_getI dX6_step_149 fl_6_15 (by decide) (am_ow h6) ?_
  refine X_icmp_ge (tgt := 230) dX6_step_152 (by decide) (fun c1 => ?_) (fun c1 => ?_)
  · exact (k1 c1)
  · refine X_aload_n dX6_step_155 rfl rfl ?_
    refine X_getP dX6_step_156 fl_6_9 rfl (am_ow h6) ?_
    refine am_ptr h2 ?_
    refine X_aload_n dX6_step_159 rfl rfl ?_
    refine X_getI dX6_step_160 fl_6_22 (by decide) (am_ow h6) ?_
    refine X_bald dX6_step_163 h3 (h4 c1) (h5 c1) ?_
    refine Y_bipush dX6_step_164 (by omega) ?_
    refine X_icmp_lt (tgt := 230) dX6_step_166 (by decide) (fun c2 => ?_) (fun c2 => ?_)
    · exact (k2 c1 c2)
    · refine X_aload_n dX6_step_169 rfl rfl ?_
      refine X_getP dX6_step_170 fl_6_9 rfl (am_ow h6) ?_
      refine am_ptr h2 ?_
      refine X_aload_n dX6_step_173 rfl rfl ?_
      refine X_getI dX6_step_174 fl_6_22 (by decide) (am_ow h6) ?_
      refine X_bald dX6_step_177 h3 (h4 c1) (h5 c1) ?_
      refine Y_bipush dX6_step_178 (by omega) ?_
      refine X_icmp_gt (tgt := 230) dX6_step_180 (by decide) (fun c3 => ?_) (fun c3 => ?_)
      · exact (k3 c1 c2 c3)
      · refine X_aload_n dX6_step_183 rfl rfl ?_
        refine Y_iconst dX6_step_184 (by unfold i32; omega) ?_
        refine X_putI dX6_step_185 fw_6_25 rfl h6 ?_
        refine X_aload_n dX6_step_188 rfl rfl ?_
        refine X_ldcI dX6_step_189 kc_6_49 (by unfold i32; omega) ?_
        refine X_aload_n dX6_step_191 rfl rfl ?_
        refine X_getI dX6_step_192 fl_6_28 (by decide) (am_ow h6) ?_
        refine Y_bipush dX6_step_195 (by omega) ?_
        refine X_imul dX6_step_197  ?_
        refine X_aload_n dX6_step_198 rfl rfl ?_
        refine X_getP dX6_step_199 fl_6_9 rfl (am_ow h6) ?_
        refine am_ptr h2 ?_
        refine X_aload_n dX6_step_202 rfl rfl ?_
        refine X_getI dX6_step_203 fl_6_22 (by decide) (am_ow h6) ?_
        refine X_bald dX6_step_206 h3 (h7 c1 c2 c3) (h8 c1 c2 c3) ?_
        refine X_iadd dX6_step_207  ?_
        refine Y_bipush dX6_step_208 (by omega) ?_
        refine X_isub dX6_step_210  ?_
        refine X_minI dX6_step_211 ml_6_37 (Nat.le_of_ble_eq_true rfl) ?_
        refine X_putI dX6_step_214 fw_6_28 rfl h6 ?_
        refine X_aload_n dX6_step_217 rfl rfl ?_
        refine X_dup dX6_step_218 rfl ?_
        refine X_getI dX6_step_219 fl_6_22 (by decide) (am_ow h6) ?_
        refine Y_iconst dX6_step_222 (by unfold i32; omega) ?_
        refine X_iadd dX6_step_223  ?_
        refine X_putI dX6_step_224 fw_6_22 rfl h6 ?_
        refine X_goto (tgt := 144) dX6_step_227 (by decide) ?_
        exact (k4 c1 c2 c3)

theorem s6_step_230 {G : am_G} {dp a b : Nat} {m : am_M} {Q : am_Q} {r0 : Nat} (h2 : am_obw m r0 5) (k1 : ¬ ((m.1 r0 4) = 0) → Q (.inl none) m) (k2 : ((m.1 r0 4) = 0) → ((m.1 r0 1) ≤ (m.1 r0 3)) → Q (.inl none) m) (k3 : ((m.1 r0 4) = 0) → ¬ ((m.1 r0 1) ≤ (m.1 r0 3)) → Q (.inl none) ((u2 (u2 m.1 r0 4 (3)) r0 3 (wr (((u2 m.1 r0 4 (3)) r0 3) + 1))), m.2.1, m.2.2))  : X G dp a b M6_step 230 [some (rV (some r0))] [] m Q := by
  refine X_aload_n dX6_step_230 rfl rfl ?_
  refine X_getI dX6_step_231 fl_6_25 (by decide) (am_ow h2) ?_
  refine X_if_ne (tgt := 263) dX6_step_234 (by decide) (fun c1 => ?_) (fun c1 => ?_)
  · exact X_vret dX6_step_263 rfl (k1 c1)
  · refine X_aload_n dX6_step_237 rfl rfl ?_
    refine X_getI dX6_step_238 fl_6_22 (by decide) (am_ow h2) ?_
    refine X_aload_n dX6_step_241 rfl rfl ?_
    refine X_getI dX6_step_242 fl_6_15 (by decide) (am_ow h2) ?_
    refine X_icmp_ge (tgt := 263) dX6_step_245 (by decide) (fun c2 => ?_) (fun c2 => ?_)
    · exact X_vret dX6_step_263 rfl (k2 c1 c2)
    · refine X_aload_n dX6_step_248 rfl rfl ?_
      refine Y_iconst dX6_step_249 (by unfold i32; omega) ?_
      refine X_putI dX6_step_250 fw_6_25 rfl h2 ?_
      refine X_aload_n dX6_step_253 rfl rfl ?_
      refine X_dup dX6_step_254 rfl ?_
      refine X_getI dX6_step_255 fl_6_22 (by decide) (am_ow h2) ?_
      refine Y_iconst dX6_step_258 (by unfold i32; omega) ?_
      refine X_iadd dX6_step_259  ?_
      refine X_putI dX6_step_260 fw_6_22 rfl h2 ?_
      exact X_vret dX6_step_263 rfl (k3 c1 c2)

theorem s6_isSign_0 {G : am_G} {dp a b : Nat} {m : am_M} {Q : am_Q} {i1 : Int} {r0 p1 : Nat} {n_p1 : Nat} (h1 : am_ob m r0 5) (h2 : m.2.1 r0 0 = some p1) (h3 : am_ar m p1 102 n_p1) (k1 : ¬ ((m.1 r0 6) = 0) → Q (.inl (some (iV (0)))) m) (k2 : ((m.1 r0 6) = 0) → ¬ ((m.1 r0 4) = 3) → Q (.inl (some (iV (0)))) m) (k3 : ((m.1 r0 6) = 0) → ((m.1 r0 4) = 3) → ((m.1 r0 1) ≤ (m.1 r0 2)) → Q (.inl (some (iV (0)))) m) (k4 : ((m.1 r0 6) = 0) → ((m.1 r0 4) = 3) → ¬ ((m.1 r0 1) ≤ (m.1 r0 2)) → ¬ ((m.1 p1 (m.1 r0 2).toNat) = i1) → Q (.inl (some (iV (0)))) m) (k5 : ((m.1 r0 6) = 0) → ((m.1 r0 4) = 3) → ¬ ((m.1 r0 1) ≤ (m.1 r0 2)) → ((m.1 p1 (m.1 r0 2).toNat) = i1) → Q (.inl (some (iV (1)))) m) (h4 : (m.1 r0 6) = 0 → (m.1 r0 4) = 3 → ¬ ((m.1 r0 1) ≤ (m.1 r0 2)) → 0 ≤ m.1 r0 2 := by intros; first | omega | (dsimp only at *; omega)) (h5 : (m.1 r0 6) = 0 → (m.1 r0 4) = 3 → ¬ ((m.1 r0 1) ≤ (m.1 r0 2)) → m.1 r0 2 < (n_p1 : Int) := by intros; first | omega | (dsimp only at *; omega)) : X G dp a b M6_isSign 0 [some (rV (some r0)), some (iV (i1))] [] m Q := by
  refine X_aload_n dX6_isSign_0 rfl rfl ?_
  refine X_getI dX6_isSign_1 fl_6_31 (by decide) h1 ?_
  refine X_if_ne (tgt := 43) dX6_isSign_4 (by decide) (fun c1 => ?_) (fun c1 => ?_)
  · refine Y_iconst dX6_isSign_43 (by unfold i32; omega) ?_
    exact X_zret dX6_isSign_44 rfl (by decide) (k1 c1)
  · refine X_aload_n dX6_isSign_7 rfl rfl ?_
    refine X_getI dX6_isSign_8 fl_6_25 (by decide) h1 ?_
    refine Y_iconst dX6_isSign_11 (by unfold i32; omega) ?_
    refine X_icmp_ne (tgt := 43) dX6_isSign_12 (by decide) (fun c2 => ?_) (fun c2 => ?_)
    · refine Y_iconst dX6_isSign_43 (by unfold i32; omega) ?_
      exact X_zret dX6_isSign_44 rfl (by decide) (k2 c1 c2)
    · refine X_aload_n dX6_isSign_15 rfl rfl ?_
      refine X_getI dX6_isSign_16 fl_6_19 (by decide) h1 ?_
      refine X_aload_n dX6_isSign_19 rfl rfl ?_
      refine X_getI dX6_isSign_20 fl_6_15 (by decide) h1 ?_
      refine X_icmp_ge (tgt := 43) dX6_isSign_23 (by decide) (fun c3 => ?_) (fun c3 => ?_)
      · refine Y_iconst dX6_isSign_43 (by unfold i32; omega) ?_
        exact X_zret dX6_isSign_44 rfl (by decide) (k3 c1 c2 c3)
      · refine X_aload_n dX6_isSign_26 rfl rfl ?_
        refine X_getP dX6_isSign_27 fl_6_9 rfl h1 ?_
        refine am_ptr h2 ?_
        refine X_aload_n dX6_isSign_30 rfl rfl ?_
        refine X_getI dX6_isSign_31 fl_6_19 (by decide) h1 ?_
        refine X_bald dX6_isSign_34 h3 (h4 c1 c2 c3) (h5 c1 c2 c3) ?_
        refine X_iload_n dX6_isSign_35 rfl rfl ?_
        refine X_icmp_ne (tgt := 43) dX6_isSign_36 (by decide) (fun c4 => ?_) (fun c4 => ?_)
        · refine Y_iconst dX6_isSign_43 (by unfold i32; omega) ?_
          exact X_zret dX6_isSign_44 rfl (by decide) (k4 c1 c2 c3 c4)
        · refine Y_iconst dX6_isSign_39 (by unfold i32; omega) ?_
          refine X_goto (tgt := 44) dX6_isSign_40 (by decide) ?_
          exact X_zret dX6_isSign_44 rfl (by decide) (k5 c1 c2 c3 c4)

theorem s6_isNumber_0 {G : am_G} {dp a b : Nat} {m : am_M} {Q : am_Q} {r0 : Nat} (h1 : am_ob m r0 5) (k1 : ¬ ((m.1 r0 6) = 0) → Q (.inl (some (iV (0)))) m) (k2 : ((m.1 r0 6) = 0) → ¬ ((m.1 r0 4) = 2) → Q (.inl (some (iV (0)))) m) (k3 : ((m.1 r0 6) = 0) → ((m.1 r0 4) = 2) → Q (.inl (some (iV (1)))) m)  : X G dp a b M6_isNumber 0 [some (rV (some r0))] [] m Q := by
  refine X_aload_n dX6_isNumber_0 rfl rfl ?_
  refine X_getI dX6_isNumber_1 fl_6_31 (by decide) h1 ?_
  refine X_if_ne (tgt := 19) dX6_isNumber_4 (by decide) (fun c1 => ?_) (fun c1 => ?_)
  · refine Y_iconst dX6_isNumber_19 (by unfold i32; omega) ?_
    exact X_zret dX6_isNumber_20 rfl (by decide) (k1 c1)
  · refine X_aload_n dX6_isNumber_7 rfl rfl ?_
    refine X_getI dX6_isNumber_8 fl_6_25 (by decide) h1 ?_
    refine Y_iconst dX6_isNumber_11 (by unfold i32; omega) ?_
    refine X_icmp_ne (tgt := 19) dX6_isNumber_12 (by decide) (fun c2 => ?_) (fun c2 => ?_)
    · refine Y_iconst dX6_isNumber_19 (by unfold i32; omega) ?_
      exact X_zret dX6_isNumber_20 rfl (by decide) (k2 c1 c2)
    · refine Y_iconst dX6_isNumber_15 (by unfold i32; omega) ?_
      refine X_goto (tgt := 20) dX6_isNumber_16 (by decide) ?_
      exact X_zret dX6_isNumber_20 rfl (by decide) (k3 c1 c2)

theorem s6_skipWord_0 {G : am_G} {dp a b : Nat} {m : am_M} {Q : am_Q} {r0 j1 : Nat} {o2 : Option am_V} (hdp : 1 ≤ dp) (h1 : am_ob m r0 5) (k1 : ∀ Q' : am_Q, (∀ (z : Int) (m' : am_M), X G dp a b M6_skipWord 5 [some (rV (some r0)), some (sV (j1)), o2] [iV (z)] m' Q → Q' (.inl (some (iV (z)))) m') → T G (dp - 1) 0 0 M6_isWord [rV (some r0), sV (j1)] m Q')  : X G dp a b M6_skipWord 0 [some (rV (some r0)), some (sV (j1)), o2] [] m Q := by
  refine X_aload_n dX6_skipWord_0 rfl rfl ?_
  refine X_saload_n dX6_skipWord_1 rfl rfl ?_
  exact X_callV (As := [sV (j1)]) (rest := []) (a' := 0) (b' := 0) dX6_skipWord_2 t6_isWord ml_6_59 h1 rfl rfl (Nat.le_of_ble_eq_true rfl) rfl hdp (Nat.zero_le _) (Nat.zero_le _) (k1 _ (fun z m' h => h))

theorem s6_skipWord_5 {G : am_G} {dp a b : Nat} {m : am_M} {Q : am_Q} {i90 : Int} {r0 j1 : Nat} {o2 : Option am_V} (hdp : 1 ≤ dp) (h1 : am_ob m r0 5) (k1 : (i90 = 0) → X G dp a b M6_skipWord 14 [some (rV (some r0)), some (sV (j1)), some (iV (i90))] [] m Q) (k2 : ¬ (i90 = 0) → ∀ Q' : am_Q, (∀ (m' : am_M), X G dp a b M6_skipWord 14 [some (rV (some r0)), some (sV (j1)), some (iV (i90))] [] m' Q → Q' (.inl none) m') → T G (dp - 1) 0 0 M6_step [rV (some r0)] m Q')  : X G dp a b M6_skipWord 5 [some (rV (some r0)), some (sV (j1)), o2] [iV (i90)] m Q := by
  refine X_istore_n dX6_skipWord_5 rfl (Nat.le_of_ble_eq_true rfl) ?_
  refine X_iload_n dX6_skipWord_6 rfl rfl ?_
  refine X_if_eq (tgt := 14) dX6_skipWord_7 (by decide) (fun c1 => ?_) (fun c1 => ?_)
  · exact (k1 c1)
  · refine X_aload_n dX6_skipWord_10 rfl rfl ?_
    exact X_callV (As := []) (rest := []) (a' := 0) (b' := 0) dX6_skipWord_11 t6_step ml_6_46 h1 rfl rfl (Nat.le_of_ble_eq_true rfl) rfl hdp (Nat.zero_le _) (Nat.zero_le _) ((k2 c1) _ (fun m' h => h))

theorem s6_skipWord_14 {G : am_G} {dp a b : Nat} {m : am_M} {Q : am_Q} {i2 : Int} {r0 j1 : Nat}  (k1 : Q (.inl (some (iV (i2)))) m) (h1 : i2 = 0 ∨ i2 = 1 := by intros; first | omega | (dsimp only at *; omega)) : X G dp a b M6_skipWord 14 [some (rV (some r0)), some (sV (j1)), some (iV (i2))] [] m Q := by
  refine X_iload_n dX6_skipWord_14 rfl rfl ?_
  exact X_zret dX6_skipWord_15 rfl h1 k1

theorem s6_skipSign_0 {G : am_G} {dp a b : Nat} {m : am_M} {Q : am_Q} {i1 : Int} {r0 : Nat} {o2 : Option am_V} (hdp : 1 ≤ dp) (h1 : am_ob m r0 5) (k1 : ∀ Q' : am_Q, (∀ (z : Int) (m' : am_M), X G dp a b M6_skipSign 5 [some (rV (some r0)), some (iV (i1)), o2] [iV (z)] m' Q → Q' (.inl (some (iV (z)))) m') → T G (dp - 1) 0 0 M6_isSign [rV (some r0), iV (i1)] m Q')  : X G dp a b M6_skipSign 0 [some (rV (some r0)), some (iV (i1)), o2] [] m Q := by
  refine X_aload_n dX6_skipSign_0 rfl rfl ?_
  refine X_iload_n dX6_skipSign_1 rfl rfl ?_
  exact X_callV (As := [iV (i1)]) (rest := []) (a' := 0) (b' := 0) dX6_skipSign_2 t6_isSign ml_6_63 h1 rfl rfl (Nat.le_of_ble_eq_true rfl) rfl hdp (Nat.zero_le _) (Nat.zero_le _) (k1 _ (fun z m' h => h))

theorem s6_skipSign_5 {G : am_G} {dp a b : Nat} {m : am_M} {Q : am_Q} {i1 i90 : Int} {r0 : Nat} {o2 : Option am_V} (hdp : 1 ≤ dp) (h1 : am_ob m r0 5) (k1 : (i90 = 0) → X G dp a b M6_skipSign 14 [some (rV (some r0)), some (iV (i1)), some (iV (i90))] [] m Q) (k2 : ¬ (i90 = 0) → ∀ Q' : am_Q, (∀ (m' : am_M), X G dp a b M6_skipSign 14 [some (rV (some r0)), some (iV (i1)), some (iV (i90))] [] m' Q → Q' (.inl none) m') → T G (dp - 1) 0 0 M6_step [rV (some r0)] m Q')  : X G dp a b M6_skipSign 5 [some (rV (some r0)), some (iV (i1)), o2] [iV (i90)] m Q := by
  refine X_istore_n dX6_skipSign_5 rfl (Nat.le_of_ble_eq_true rfl) ?_
  refine X_iload_n dX6_skipSign_6 rfl rfl ?_
  refine X_if_eq (tgt := 14) dX6_skipSign_7 (by decide) (fun c1 => ?_) (fun c1 => ?_)
  · exact (k1 c1)
  · refine X_aload_n dX6_skipSign_10 rfl rfl ?_
    exact X_callV (As := []) (rest := []) (a' := 0) (b' := 0) dX6_skipSign_11 t6_step ml_6_46 h1 rfl rfl (Nat.le_of_ble_eq_true rfl) rfl hdp (Nat.zero_le _) (Nat.zero_le _) ((k2 c1) _ (fun m' h => h))

theorem s6_skipSign_14 {G : am_G} {dp a b : Nat} {m : am_M} {Q : am_Q} {i1 i2 : Int} {r0 : Nat}  (k1 : Q (.inl (some (iV (i2)))) m) (h1 : i2 = 0 ∨ i2 = 1 := by intros; first | omega | (dsimp only at *; omega)) : X G dp a b M6_skipSign 14 [some (rV (some r0)), some (iV (i1)), some (iV (i2))] [] m Q := by
  refine X_iload_n dX6_skipSign_14 rfl rfl ?_
  exact X_zret dX6_skipSign_15 rfl h1 k1

theorem s6_needSign_0 {G : am_G} {dp a b : Nat} {m : am_M} {Q : am_Q} {i1 : Int} {r0 : Nat} (hdp : 1 ≤ dp) (h1 : am_ob m r0 5) (k1 : ∀ Q' : am_Q, (∀ (z : Int) (m' : am_M), X G dp a b M6_needSign 5 [some (rV (some r0)), some (iV (i1))] [iV (z)] m' Q → Q' (.inl (some (iV (z)))) m') → T G (dp - 1) 0 0 M6_skipSign [rV (some r0), iV (i1)] m Q')  : X G dp a b M6_needSign 0 [some (rV (some r0)), some (iV (i1))] [] m Q := by
  refine X_aload_n dX6_needSign_0 rfl rfl ?_
  refine X_iload_n dX6_needSign_1 rfl rfl ?_
  exact X_callV (As := [iV (i1)]) (rest := []) (a' := 0) (b' := 0) dX6_needSign_2 t6_skipSign ml_6_67 h1 rfl rfl (Nat.le_of_ble_eq_true rfl) rfl hdp (Nat.zero_le _) (Nat.zero_le _) (k1 _ (fun z m' h => h))

theorem s6_needSign_5 {G : am_G} {dp a b : Nat} {m : am_M} {Q : am_Q} {i1 i90 : Int} {r0 : Nat} (hdp : 1 ≤ dp) (h1 : am_ob m r0 5) (k1 : ¬ (i90 = 0) → X G dp a b M6_needSign 13 [some (rV (some r0)), some (iV (i1))] [] m Q) (k2 : (i90 = 0) → ∀ Q' : am_Q, (∀ (m' : am_M), X G dp a b M6_needSign 13 [some (rV (some r0)), some (iV (i1))] [] m' Q → Q' (.inl none) m') → T G (dp - 1) 0 0 M6_fail [rV (some r0), iV (1)] m Q')  : X G dp a b M6_needSign 5 [some (rV (some r0)), some (iV (i1))] [iV (i90)] m Q := by
  refine X_if_ne (tgt := 13) dX6_needSign_5 (by decide) (fun c1 => ?_) (fun c1 => ?_)
  · exact (k1 c1)
  · refine X_aload_n dX6_needSign_8 rfl rfl ?_
    refine Y_iconst dX6_needSign_9 (by unfold i32; omega) ?_
    exact X_callV (As := [iV (1)]) (rest := []) (a' := 0) (b' := 0) dX6_needSign_10 t6_fail ml_6_70 h1 rfl rfl (Nat.le_of_ble_eq_true rfl) rfl hdp (Nat.zero_le _) (Nat.zero_le _) ((k2 c1) _ (fun m' h => h))

theorem s6_needSign_13 {G : am_G} {dp a b : Nat} {m : am_M} {Q : am_Q} {i1 : Int} {r0 : Nat}  (k1 : Q (.inl none) m)  : X G dp a b M6_needSign 13 [some (rV (some r0)), some (iV (i1))] [] m Q := by
  exact X_vret dX6_needSign_13 rfl k1

theorem s6_needNumber_0 {G : am_G} {dp a b : Nat} {m : am_M} {Q : am_Q} {i1 i2 i3 : Int} {r0 : Nat} {o4 : Option am_V} (hdp : 1 ≤ dp) (h1 : am_ob m r0 5) (k1 : ∀ Q' : am_Q, (∀ (z : Int) (m' : am_M), X G dp a b M6_needNumber 4 [some (rV (some r0)), some (iV (i1)), some (iV (i2)), some (iV (i3)), o4] [iV (z)] m' Q → Q' (.inl (some (iV (z)))) m') → T G (dp - 1) 0 0 M6_isNumber [rV (some r0)] m Q')  : X G dp a b M6_needNumber 0 [some (rV (some r0)), some (iV (i1)), some (iV (i2)), some (iV (i3)), o4] [] m Q := by
  refine X_aload_n dX6_needNumber_0 rfl rfl ?_
  exact X_callV (As := []) (rest := []) (a' := 0) (b' := 0) dX6_needNumber_1 t6_isNumber ml_6_74 h1 rfl rfl (Nat.le_of_ble_eq_true rfl) rfl hdp (Nat.zero_le _) (Nat.zero_le _) (k1 _ (fun z m' h => h))

theorem s6_needNumber_4 {G : am_G} {dp a b : Nat} {m : am_M} {Q : am_Q} {i1 i2 i3 i90 : Int} {r0 : Nat} {o4 : Option am_V} (hdp : 1 ≤ dp) (h1 : am_ob m r0 5) (k1 : ¬ (i90 = 0) → ((m.1 r0 5) < i1) → ∀ Q' : am_Q, (∀ (m' : am_M), X G dp a b M6_needNumber 36 [some (rV (some r0)), some (iV (i1)), some (iV (i2)), some (iV (i3)), o4] [] m' Q → Q' (.inl none) m') → T G (dp - 1) 0 0 M6_fail [rV (some r0), iV (2)] m Q') (k2 : ¬ (i90 = 0) → ¬ ((m.1 r0 5) < i1) → ((m.1 r0 5) ≤ i2) → ((m.1 r0 5) ≤ i3) → ∀ Q' : am_Q, (∀ (m' : am_M), X G dp a b M6_needNumber 65 [some (rV (some r0)), some (iV (i1)), some (iV (i2)), some (iV (i3)), some (iV (m.1 r0 5))] [] m' Q → Q' (.inl none) m') → T G (dp - 1) 0 0 M6_step [rV (some r0)] m Q') (k3 : ¬ (i90 = 0) → ¬ ((m.1 r0 5) < i1) → ((m.1 r0 5) ≤ i2) → ¬ ((m.1 r0 5) ≤ i3) → ∀ Q' : am_Q, (∀ (m' : am_M), X G dp a b M6_needNumber 52 [some (rV (some r0)), some (iV (i1)), some (iV (i2)), some (iV (i3)), o4] [] m' Q → Q' (.inl none) m') → T G (dp - 1) 0 0 M6_fail [rV (some r0), iV (3)] m Q') (k4 : ¬ (i90 = 0) → ¬ ((m.1 r0 5) < i1) → ¬ ((m.1 r0 5) ≤ i2) → ∀ Q' : am_Q, (∀ (m' : am_M), X G dp a b M6_needNumber 36 [some (rV (some r0)), some (iV (i1)), some (iV (i2)), some (iV (i3)), o4] [] m' Q → Q' (.inl none) m') → T G (dp - 1) 0 0 M6_fail [rV (some r0), iV (2)] m Q') (k5 : (i90 = 0) → ∀ Q' : am_Q, (∀ (m' : am_M), X G dp a b M6_needNumber 12 [some (rV (some r0)), some (iV (i1)), some (iV (i2)), some (iV (i3)), o4] [] m' Q → Q' (.inl none) m') → T G (dp - 1) 0 0 M6_fail [rV (some r0), iV (1)] m Q')  : X G dp a b M6_needNumber 4 [some (rV (some r0)), some (iV (i1)), some (iV (i2)), some (iV (i3)), o4] [iV (i90)] m Q := by
  refine X_if_ne (tgt := 15) dX6_needNumber_4 (by decide) (fun c1 => ?_) (fun c1 => ?_)
  · refine X_aload_n dX6_needNumber_15 rfl rfl ?_
    refine X_getI dX6_needNumber_16 fl_6_28 (by decide) h1 ?_
    refine X_iload_n dX6_needNumber_19 rfl rfl ?_
    refine X_icmp_lt (tgt := 31) dX6_needNumber_20 (by decide) (fun c2 => ?_) (fun c2 => ?_)
    · refine X_aload_n dX6_needNumber_31 rfl rfl ?_
      refine Y_iconst dX6_needNumber_32 (by unfold i32; omega) ?_
      exact X_callV (As := [iV (2)]) (rest := []) (a' := 0) (b' := 0) dX6_needNumber_33 t6_fail ml_6_70 h1 rfl rfl (Nat.le_of_ble_eq_true rfl) rfl hdp (Nat.zero_le _) (Nat.zero_le _) ((k1 c1 c2) _ (fun m' h => h))
    · refine X_aload_n dX6_needNumber_23 rfl rfl ?_
      refine X_getI dX6_needNumber_24 fl_6_28 (by decide) h1 ?_
      refine X_iload_n dX6_needNumber_27 rfl rfl ?_
      refine X_icmp_le (tgt := 39) dX6_needNumber_28 (by decide) (fun c3 => ?_) (fun c3 => ?_)
      · refine X_aload_n dX6_needNumber_39 rfl rfl ?_
        refine X_getI dX6_needNumber_40 fl_6_28 (by decide) h1 ?_
        refine X_iload_n dX6_needNumber_43 rfl rfl ?_
        refine X_icmp_le (tgt := 55) dX6_needNumber_44 (by decide) (fun c4 => ?_) (fun c4 => ?_)
        · refine X_aload_n dX6_needNumber_55 rfl rfl ?_
          refine X_getI dX6_needNumber_56 fl_6_28 (by decide) h1 ?_
          refine X_istore dX6_needNumber_59 (Nat.le_of_ble_eq_true rfl) ?_
          refine X_aload_n dX6_needNumber_61 rfl rfl ?_
          exact X_callV (As := []) (rest := []) (a' := 0) (b' := 0) dX6_needNumber_62 t6_step ml_6_46 h1 rfl rfl (Nat.le_of_ble_eq_true rfl) rfl hdp (Nat.zero_le _) (Nat.zero_le _) ((k2 c1 c2 c3 c4) _ (fun m' h => h))
        · refine X_aload_n dX6_needNumber_47 rfl rfl ?_
          refine Y_iconst dX6_needNumber_48 (by unfold i32; omega) ?_
          exact X_callV (As := [iV (3)]) (rest := []) (a' := 0) (b' := 0) dX6_needNumber_49 t6_fail ml_6_70 h1 rfl rfl (Nat.le_of_ble_eq_true rfl) rfl hdp (Nat.zero_le _) (Nat.zero_le _) ((k3 c1 c2 c3 c4) _ (fun m' h => h))
      · refine X_aload_n dX6_needNumber_31 rfl rfl ?_
        refine Y_iconst dX6_needNumber_32 (by unfold i32; omega) ?_
        exact X_callV (As := [iV (2)]) (rest := []) (a' := 0) (b' := 0) dX6_needNumber_33 t6_fail ml_6_70 h1 rfl rfl (Nat.le_of_ble_eq_true rfl) rfl hdp (Nat.zero_le _) (Nat.zero_le _) ((k4 c1 c2 c3) _ (fun m' h => h))
  · refine X_aload_n dX6_needNumber_7 rfl rfl ?_
    refine Y_iconst dX6_needNumber_8 (by unfold i32; omega) ?_
    exact X_callV (As := [iV (1)]) (rest := []) (a' := 0) (b' := 0) dX6_needNumber_9 t6_fail ml_6_70 h1 rfl rfl (Nat.le_of_ble_eq_true rfl) rfl hdp (Nat.zero_le _) (Nat.zero_le _) ((k5 c1) _ (fun m' h => h))

theorem s6_needNumber_12 {G : am_G} {dp a b : Nat} {m : am_M} {Q : am_Q} {i1 i2 i3 : Int} {r0 : Nat} {o4 : Option am_V}  (k1 : Q (.inl (some (iV (i1)))) m)  : X G dp a b M6_needNumber 12 [some (rV (some r0)), some (iV (i1)), some (iV (i2)), some (iV (i3)), o4] [] m Q := by
  refine X_goto (tgt := 68) dX6_needNumber_12 (by decide) ?_
  refine X_iload_n dX6_needNumber_68 rfl rfl ?_
  exact X_iret dX6_needNumber_69 rfl k1

theorem s6_needNumber_36 {G : am_G} {dp a b : Nat} {m : am_M} {Q : am_Q} {i1 i2 i3 : Int} {r0 : Nat} {o4 : Option am_V}  (k1 : Q (.inl (some (iV (i1)))) m)  : X G dp a b M6_needNumber 36 [some (rV (some r0)), some (iV (i1)), some (iV (i2)), some (iV (i3)), o4] [] m Q := by
  refine X_goto (tgt := 68) dX6_needNumber_36 (by decide) ?_
  refine X_iload_n dX6_needNumber_68 rfl rfl ?_
  exact X_iret dX6_needNumber_69 rfl k1

theorem s6_needNumber_52 {G : am_G} {dp a b : Nat} {m : am_M} {Q : am_Q} {i1 i2 i3 : Int} {r0 : Nat} {o4 : Option am_V}  (k1 : Q (.inl (some (iV (i1)))) m)  : X G dp a b M6_needNumber 52 [some (rV (some r0)), some (iV (i1)), some (iV (i2)), some (iV (i3)), o4] [] m Q := by
  refine X_goto (tgt := 68) dX6_needNumber_52 (by decide) ?_
  refine X_iload_n dX6_needNumber_68 rfl rfl ?_
  exact X_iret dX6_needNumber_69 rfl k1

theorem s6_needNumber_65 {G : am_G} {dp a b : Nat} {m : am_M} {Q : am_Q} {i1 i2 i3 i4 : Int} {r0 : Nat}  (k1 : Q (.inl (some (iV (i4)))) m)  : X G dp a b M6_needNumber 65 [some (rV (some r0)), some (iV (i1)), some (iV (i2)), some (iV (i3)), some (iV (i4))] [] m Q := by
  refine X_iload dX6_needNumber_65 rfl ?_
  exact X_iret dX6_needNumber_67 rfl k1

