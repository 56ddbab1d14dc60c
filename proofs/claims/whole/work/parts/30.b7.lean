/-! TREES of bytecode, by program: X7_* -/
theorem s7_fallSilent_0 {G : am_G} {dp a b : Nat} {m : am_M} {Q : am_Q} {r0 : Nat} (h1 : am_obw m r0 6) (k1 : Q (.inl none) ((u2 m.1 r0 1 (0)), m.2.1, m.2.2))  : X G dp a b M7_fallSilent 0 [some (rV (some r0))] [] m Q := by
  refine X_aload_n dX7_fallSilent_0 rfl rfl ?_
  refine Y_iconst dX7_fallSilent_1 (by unfold i32; omega) ?_
  refine X_putI dX7_fallSilent_2 fw_7_13 rfl h1 ?_
  exact X_vret dX7_fallSilent_5 rfl k1

theorem s7_put_0 {G : am_G} {dp a b : Nat} {m : am_M} {Q : am_Q} {i1 : Int} {r0 p1 : Nat} {n_p1 : Nat} (h2 : m.2.1 r0 0 = some p1) (h5 : am_arw m p1 100 n_p1) (h8 : am_obw m r0 6) (k1 : ((n_p1 : Int) ≤ (m.1 r0 1)) → Q (.inl none) m) (k2 : ¬ ((n_p1 : Int) ≤ (m.1 r0 1)) → Q (.inl none) ((u2 (u2 m.1 p1 (m.1 r0 1).toNat (i1)) r0 1 (wr (((u2 m.1 p1 (m.1 r0 1).toNat (i1)) r0 1) + 1))), m.2.1, m.2.2)) (h6 : ¬ ((n_p1 : Int) ≤ (m.1 r0 1)) → 0 ≤ m.1 r0 1 := by intros; first | omega | (dsimp only at *; omega)) (h7 : ¬ ((n_p1 : Int) ≤ (m.1 r0 1)) → m.1 r0 1 < (n_p1 : Int) := by intros; first | omega | (dsimp only at *; omega)) : X G dp a b M7_put 0 [some (rV (some r0)), some (iV (i1))] [] m Q := by
  refine X_aload_n dX7_put_0 rfl rfl ?_
  refine X_getI dX7_put_1 fl_7_13 (by decide) (am_ow h8) ?_
  refine X_aload_n dX7_put_4 rfl rfl ?_
  refine X_getP dX7_put_5 fl_7_7 rfl (am_ow h8) ?_
  refine am_ptr h2 ?_
  refine X_alen dX7_put_8 (by decide) (am_rw h5) ?_
  refine X_icmp_ge (tgt := 32) dX7_put_9 (by decide) (fun c1 => ?_) (fun c1 => ?_)
  · exact X_vret dX7_put_32 rfl (k1 c1)
  · refine X_aload_n dX7_put_12 rfl rfl ?_
    refine X_getP dX7_put_13 fl_7_7 rfl (am_ow h8) ?_
    refine am_ptr h2 ?_
    refine X_aload_n dX7_put_16 rfl rfl ?_
    refine X_getI dX7_put_17 fl_7_13 (by decide) (am_ow h8) ?_
    refine X_iload_n dX7_put_20 rfl rfl ?_
    refine X_iast dX7_put_21 h5 (h6 c1) (h7 c1) ?_
    refine X_aload_n dX7_put_22 rfl rfl ?_
    refine X_dup dX7_put_23 rfl ?_
    refine X_getI dX7_put_24 fl_7_13 (by decide) (am_ow h8) ?_
    refine Y_iconst dX7_put_27 (by unfold i32; omega) ?_
    refine X_iadd dX7_put_28  ?_
    refine X_putI dX7_put_29 fw_7_13 rfl h8 ?_
    exact X_vret dX7_put_32 rfl (k2 c1)

theorem s7_putNumber_0 {G : am_G} {dp a b : Nat} {m : am_M} {Q : am_Q} {l1 : Int} {r0 : Nat} {o3 o4 o5 o6 : Option am_V}  (k1 : X G dp a b M7_putNumber 5 [some (rV (some r0)), some (lV (l1)), none, some (lV (1)), none, some (iV (0)), o6] [] m Q)  : X G dp a b M7_putNumber 0 [some (rV (some r0)), some (lV (l1)), none, o3, o4, o5, o6] [] m Q := by
  refine Y_lconst1 dX7_putNumber_0 ?_
  refine X_lstore_n dX7_putNumber_1 rfl (Nat.le_of_ble_eq_true rfl) ?_
  refine Y_iconst dX7_putNumber_2 (by unfold i32; omega) ?_
  refine X_istore dX7_putNumber_3 (Nat.le_of_ble_eq_true rfl) ?_
  exact k1

theorem s7_putNumber_5 {G : am_G} {dp a b : Nat} {m : am_M} {Q : am_Q} {i5 l1 l3 : Int} {r0 : Nat} {o6 : Option am_V}  (k1 : (17 ≤ i5) → X G dp a b M7_putNumber 37 [some (rV (some r0)), some (lV (l1)), none, some (lV (l3)), none, some (lV (l3)), none] [] m Q) (k2 : ¬ (17 ≤ i5) → ((lc (wrl (Int.tdiv l1 10)) l3) < 0) → X G dp a b M7_putNumber 37 [some (rV (some r0)), some (lV (l1)), none, some (lV (l3)), none, some (lV (l3)), none] [] m Q) (k3 : ¬ (17 ≤ i5) → ¬ ((lc (wrl (Int.tdiv l1 10)) l3) < 0) → X G dp a b M7_putNumber 5 [some (rV (some r0)), some (lV (l1)), none, some (lV (wrl (l3 * 10))), none, some (iV (wr (i5 + 1))), o6] [] m Q)  : X G dp a b M7_putNumber 5 [some (rV (some r0)), some (lV (l1)), none, some (lV (l3)), none, some (iV (i5)), o6] [] m Q := by
  refine X_iload dX7_putNumber_5 rfl ?_
  refine Y_bipush dX7_putNumber_7 (by omega) ?_
  refine X_icmp_ge (tgt := 34) dX7_putNumber_9 (by decide) (fun c1 => ?_) (fun c1 => ?_)
  · refine X_lload_n dX7_putNumber_34 rfl rfl ?_
    refine X_lstore dX7_putNumber_35 (Nat.le_of_ble_eq_true rfl) ?_
    exact (k1 c1)
  · refine X_lload_n dX7_putNumber_12 rfl rfl ?_
    refine X_ldc2 dX7_putNumber_13 kc_7_17 (by unfold i64; omega) ?_
    refine X_ldiv dX7_putNumber_16 (by decide) ?_
    refine X_lload_n dX7_putNumber_17 rfl rfl ?_
    refine X_lcmp dX7_putNumber_18 ?_
    refine X_if_lt (tgt := 34) dX7_putNumber_19 (by decide) (fun c2 => ?_) (fun c2 => ?_)
    · refine X_lload_n dX7_putNumber_34 rfl rfl ?_
      refine X_lstore dX7_putNumber_35 (Nat.le_of_ble_eq_true rfl) ?_
      exact (k2 c1 c2)
    · refine X_lload_n dX7_putNumber_22 rfl rfl ?_
      refine X_ldc2 dX7_putNumber_23 kc_7_17 (by unfold i64; omega) ?_
      refine X_lmul dX7_putNumber_26  ?_
      refine X_lstore_n dX7_putNumber_27 rfl (Nat.le_of_ble_eq_true rfl) ?_
      refine X_iinc dX7_putNumber_28 rfl ?_
      refine X_goto (tgt := 5) dX7_putNumber_31 (by decide) ?_
      exact (k3 c1 c2)

theorem s7_putNumber_37 {G : am_G} {dp a b : Nat} {m : am_M} {Q : am_Q} {l1 l3 l5 : Int} {r0 : Nat} (hdp : 1 ≤ dp) (h2 : am_ob m r0 6) (k1 : ((lc l5 0) ≤ 0) → Q (.inl none) m) (k2 : ¬ ((lc l5 0) ≤ 0) → ∀ Q' : am_Q, (∀ (m' : am_M), X G dp a b M7_putNumber 60 [some (rV (some r0)), some (lV (l1)), none, some (lV (l3)), none, some (lV (l5)), none] [] m' Q → Q' (.inl none) m') → T G (dp - 1) 0 0 M7_put [rV (some r0), iV (wr (48 + (wr (Int.tmod (wrl (Int.tdiv l1 l5)) 10))))] m Q') (h1 : ¬ ((lc l5 0) ≤ 0) → l5 ≠ 0 := by intros; first | omega | (dsimp only at *; omega)) : X G dp a b M7_putNumber 37 [some (rV (some r0)), some (lV (l1)), none, some (lV (l3)), none, some (lV (l5)), none] [] m Q := by
  refine X_lload dX7_putNumber_37 rfl ?_
  refine Y_lconst0 dX7_putNumber_39 ?_
  refine X_lcmp dX7_putNumber_40 ?_
  refine X_if_le (tgt := 71) dX7_putNumber_41 (by decide) (fun c1 => ?_) (fun c1 => ?_)
  · exact X_vret dX7_putNumber_71 rfl (k1 c1)
  · refine X_aload_n dX7_putNumber_44 rfl rfl ?_
    refine Y_bipush dX7_putNumber_45 (by omega) ?_
    refine X_lload_n dX7_putNumber_47 rfl rfl ?_
    refine X_lload dX7_putNumber_48 rfl ?_
    refine X_ldiv dX7_putNumber_50 (h1 c1) ?_
    refine X_ldc2 dX7_putNumber_51 kc_7_17 (by unfold i64; omega) ?_
    refine X_lrem dX7_putNumber_54 (by decide) ?_
    refine X_l2i dX7_putNumber_55 ?_
    refine X_iadd dX7_putNumber_56  ?_
    exact X_callV (As := [iV (wr (48 + (wr (Int.tmod (wrl (Int.tdiv l1 l5)) 10))))]) (rest := []) (a' := 0) (b' := 0) dX7_putNumber_57 t7_put ml_7_19 h2 rfl rfl (Nat.le_of_ble_eq_true rfl) rfl hdp (Nat.zero_le _) (Nat.zero_le _) ((k2 c1) _ (fun m' h => h))

theorem s7_putNumber_60 {G : am_G} {dp a b : Nat} {m : am_M} {Q : am_Q} {l1 l3 l5 : Int} {r0 : Nat}  (k1 : X G dp a b M7_putNumber 37 [some (rV (some r0)), some (lV (l1)), none, some (lV (l3)), none, some (lV (wrl (Int.tdiv l5 10))), none] [] m Q)  : X G dp a b M7_putNumber 60 [some (rV (some r0)), some (lV (l1)), none, some (lV (l3)), none, some (lV (l5)), none] [] m Q := by
  refine X_lload dX7_putNumber_60 rfl ?_
  refine X_ldc2 dX7_putNumber_62 kc_7_17 (by unfold i64; omega) ?_
  refine X_ldiv dX7_putNumber_65 (by decide) ?_
  refine X_lstore dX7_putNumber_66 (Nat.le_of_ble_eq_true rfl) ?_
  refine X_goto (tgt := 37) dX7_putNumber_68 (by decide) ?_
  exact k1

