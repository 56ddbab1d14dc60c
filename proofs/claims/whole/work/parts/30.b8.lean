/-! TREES of bytecode, by program: X8_* -/
theorem s8_feed_0 {G : am_G} {dp a b : Nat} {m : am_M} {Q : am_Q} {i1 i2 i3 i4 i5 : Int} {r0 : Nat} (hdp : 1 ≤ dp) (h1 : am_ob m r0 7) (k1 : ((wr ((m.1 r0 1) + 20)) ≤ 600) → ∀ Q' : am_Q, (∀ (m' : am_M), X G dp a b M8_feed 20 [some (rV (some r0)), some (iV (i1)), some (iV (i2)), some (iV (i3)), some (iV (i4)), some (iV (i5))] [] m' Q → Q' (.inl none) m') → T G (dp - 1) 0 0 M8_putOnTape [rV (some r0), iV (i1)] m Q') (k2 : ¬ ((wr ((m.1 r0 1) + 20)) ≤ 600) → Q (.inl (some (iV ((-1))))) m)  : X G dp a b M8_feed 0 [some (rV (some r0)), some (iV (i1)), some (iV (i2)), some (iV (i3)), some (iV (i4)), some (iV (i5))] [] m Q := by
  refine X_aload_n dX8_feed_0 rfl rfl ?_
  refine X_getI dX8_feed_1 fl_8_13 (by decide) h1 ?_
  refine Y_bipush dX8_feed_4 (by omega) ?_
  refine X_iadd dX8_feed_6  ?_
  refine Y_sipush dX8_feed_7 (by omega) ?_
  refine X_icmp_le (tgt := 15) dX8_feed_10 (by decide) (fun c1 => ?_) (fun c1 => ?_)
  · refine X_aload_n dX8_feed_15 rfl rfl ?_
    refine X_iload_n dX8_feed_16 rfl rfl ?_
    exact X_callV (As := [iV (i1)]) (rest := []) (a' := 0) (b' := 0) dX8_feed_17 t8_putOnTape ml_8_75 h1 rfl rfl (Nat.le_of_ble_eq_true rfl) rfl hdp (Nat.zero_le _) (Nat.zero_le _) ((k1 c1) _ (fun m' h => h))
  · refine Y_iconst dX8_feed_13 (by unfold i32; omega) ?_
    exact X_iret dX8_feed_14 rfl (k2 c1)

theorem s8_feed_20 {G : am_G} {dp a b : Nat} {m : am_M} {Q : am_Q} {i1 i2 i3 i4 i5 : Int} {r0 : Nat} (hdp : 1 ≤ dp) (h1 : am_ob m r0 7) (k1 : ∀ Q' : am_Q, (∀ (m' : am_M), X G dp a b M8_feed 25 [some (rV (some r0)), some (iV (i1)), some (iV (i2)), some (iV (i3)), some (iV (i4)), some (iV (i5))] [] m' Q → Q' (.inl none) m') → T G (dp - 1) 0 0 M8_putOnTape [rV (some r0), iV (i2)] m Q')  : X G dp a b M8_feed 20 [some (rV (some r0)), some (iV (i1)), some (iV (i2)), some (iV (i3)), some (iV (i4)), some (iV (i5))] [] m Q := by
  refine X_aload_n dX8_feed_20 rfl rfl ?_
  refine X_iload_n dX8_feed_21 rfl rfl ?_
  exact X_callV (As := [iV (i2)]) (rest := []) (a' := 0) (b' := 0) dX8_feed_22 t8_putOnTape ml_8_75 h1 rfl rfl (Nat.le_of_ble_eq_true rfl) rfl hdp (Nat.zero_le _) (Nat.zero_le _) (k1 _ (fun m' h => h))

theorem s8_feed_25 {G : am_G} {dp a b : Nat} {m : am_M} {Q : am_Q} {i1 i2 i3 i4 i5 : Int} {r0 : Nat} (hdp : 1 ≤ dp) (h1 : am_ob m r0 7) (k1 : ∀ Q' : am_Q, (∀ (m' : am_M), X G dp a b M8_feed 30 [some (rV (some r0)), some (iV (i1)), some (iV (i2)), some (iV (i3)), some (iV (i4)), some (iV (i5))] [] m' Q → Q' (.inl none) m') → T G (dp - 1) 0 0 M8_putOnTape [rV (some r0), iV (i3)] m Q')  : X G dp a b M8_feed 25 [some (rV (some r0)), some (iV (i1)), some (iV (i2)), some (iV (i3)), some (iV (i4)), some (iV (i5))] [] m Q := by
  refine X_aload_n dX8_feed_25 rfl rfl ?_
  refine X_iload_n dX8_feed_26 rfl rfl ?_
  exact X_callV (As := [iV (i3)]) (rest := []) (a' := 0) (b' := 0) dX8_feed_27 t8_putOnTape ml_8_75 h1 rfl rfl (Nat.le_of_ble_eq_true rfl) rfl hdp (Nat.zero_le _) (Nat.zero_le _) (k1 _ (fun m' h => h))

theorem s8_feed_30 {G : am_G} {dp a b : Nat} {m : am_M} {Q : am_Q} {i1 i2 i3 i4 i5 : Int} {r0 : Nat} (hdp : 1 ≤ dp) (h1 : am_ob m r0 7) (k1 : ∀ Q' : am_Q, (∀ (m' : am_M), X G dp a b M8_feed 36 [some (rV (some r0)), some (iV (i1)), some (iV (i2)), some (iV (i3)), some (iV (i4)), some (iV (i5))] [] m' Q → Q' (.inl none) m') → T G (dp - 1) 0 0 M8_putOnTape [rV (some r0), iV (i4)] m Q')  : X G dp a b M8_feed 30 [some (rV (some r0)), some (iV (i1)), some (iV (i2)), some (iV (i3)), some (iV (i4)), some (iV (i5))] [] m Q := by
  refine X_aload_n dX8_feed_30 rfl rfl ?_
  refine X_iload dX8_feed_31 rfl ?_
  exact X_callV (As := [iV (i4)]) (rest := []) (a' := 0) (b' := 0) dX8_feed_33 t8_putOnTape ml_8_75 h1 rfl rfl (Nat.le_of_ble_eq_true rfl) rfl hdp (Nat.zero_le _) (Nat.zero_le _) (k1 _ (fun m' h => h))

theorem s8_feed_36 {G : am_G} {dp a b : Nat} {m : am_M} {Q : am_Q} {i1 i2 i3 i4 i5 : Int} {r0 : Nat} (hdp : 1 ≤ dp) (h1 : am_ob m r0 7) (k1 : ∀ Q' : am_Q, (∀ (m' : am_M), X G dp a b M8_feed 42 [some (rV (some r0)), some (iV (i1)), some (iV (i2)), some (iV (i3)), some (iV (i4)), some (iV (i5))] [] m' Q → Q' (.inl none) m') → T G (dp - 1) 0 0 M8_putOnTape [rV (some r0), iV (i5)] m Q')  : X G dp a b M8_feed 36 [some (rV (some r0)), some (iV (i1)), some (iV (i2)), some (iV (i3)), some (iV (i4)), some (iV (i5))] [] m Q := by
  refine X_aload_n dX8_feed_36 rfl rfl ?_
  refine X_iload dX8_feed_37 rfl ?_
  exact X_callV (As := [iV (i5)]) (rest := []) (a' := 0) (b' := 0) dX8_feed_39 t8_putOnTape ml_8_75 h1 rfl rfl (Nat.le_of_ble_eq_true rfl) rfl hdp (Nat.zero_le _) (Nat.zero_le _) (k1 _ (fun m' h => h))

theorem s8_feed_42 {G : am_G} {dp a b : Nat} {m : am_M} {Q : am_Q} {i1 i2 i3 i4 i5 : Int} {r0 : Nat} (h1 : am_ob m r0 7) (k1 : Q (.inl (some (iV (m.1 r0 1)))) m)  : X G dp a b M8_feed 42 [some (rV (some r0)), some (iV (i1)), some (iV (i2)), some (iV (i3)), some (iV (i4)), some (iV (i5))] [] m Q := by
  refine X_aload_n dX8_feed_42 rfl rfl ?_
  refine X_getI dX8_feed_43 fl_8_13 (by decide) h1 ?_
  exact X_iret dX8_feed_46 rfl k1

theorem s8_putOnTape_0 {G : am_G} {dp a b : Nat} {m : am_M} {Q : am_Q} {i1 : Int} {r0 : Nat} {o2 : Option am_V}  (k1 : X G dp a b M8_putOnTape 3 [some (rV (some r0)), some (iV (i1)), some (iV (24))] [] m Q)  : X G dp a b M8_putOnTape 0 [some (rV (some r0)), some (iV (i1)), o2] [] m Q := by
  refine Y_bipush dX8_putOnTape_0 (by omega) ?_
  refine X_istore_n dX8_putOnTape_2 rfl (Nat.le_of_ble_eq_true rfl) ?_
  exact k1

theorem s8_putOnTape_3 {G : am_G} {dp a b : Nat} {m : am_M} {Q : am_Q} {i1 i2 : Int} {r0 p1 : Nat} {n_p1 : Nat} (h2 : m.2.1 r0 0 = some p1) (h3 : am_arw m p1 102 n_p1) (h6 : am_obw m r0 7) (k1 : (i2 < 0) → Q (.inl none) m) (k2 : ¬ (i2 < 0) → (600 ≤ (m.1 r0 1)) → Q (.inl none) m) (k3 : ¬ (i2 < 0) → ¬ (600 ≤ (m.1 r0 1)) → X G dp a b M8_putOnTape 3 [some (rV (some r0)), some (iV (i1)), some (iV (wr (i2 + (-8))))] [] ((u2 (u2 m.1 p1 (m.1 r0 1).toNat (ib8 (ib8 (iushx i1 i2)))) r0 1 (wr (((u2 m.1 p1 (m.1 r0 1).toNat (ib8 (ib8 (iushx i1 i2)))) r0 1) + 1))), m.2.1, m.2.2) Q) (h4 : ¬ (i2 < 0) → ¬ (600 ≤ (m.1 r0 1)) → 0 ≤ m.1 r0 1 := by intros; first | omega | (dsimp only at *; omega)) (h5 : ¬ (i2 < 0) → ¬ (600 ≤ (m.1 r0 1)) → m.1 r0 1 < (n_p1 : Int) := by intros; first | omega | (dsimp only at *; omega)) : X G dp a b M8_putOnTape 3 [some (rV (some r0)), some (iV (i1)), some (iV (i2))] [] m Q := by
  refine X_iload_n dX8_putOnTape_3 rfl rfl ?_
  refine X_if_lt (tgt := 46) dX8_putOnTape_4 (by decide) (fun c1 => ?_) (fun c1 => ?_)
  · exact X_vret dX8_putOnTape_46 rfl (k1 c1)
  · refine X_aload_n dX8_putOnTape_7 rfl rfl ?_
    refine X_getI dX8_putOnTape_8 fl_8_13 (by decide) (am_ow h6) ?_
    refine Y_sipush dX8_putOnTape_11 (by omega) ?_
    refine X_icmp_ge (tgt := 46) dX8_putOnTape_14 (by decide) (fun c2 => ?_) (fun c2 => ?_)
    · exact X_vret dX8_putOnTape_46 rfl (k2 c1 c2)
    · refine X_aload_n dX8_putOnTape_17 rfl rfl ?_
      refine X_getP dX8_putOnTape_18 fl_8_9 rfl (am_ow h6) ?_
      refine am_ptr h2 ?_
      refine X_aload_n dX8_putOnTape_21 rfl rfl ?_
      refine X_getI dX8_putOnTape_22 fl_8_13 (by decide) (am_ow h6) ?_
      refine X_iload_n dX8_putOnTape_25 rfl rfl ?_
      refine X_iload_n dX8_putOnTape_26 rfl rfl ?_
      refine X_iushr dX8_putOnTape_27  ?_
      refine X_i2b dX8_putOnTape_28 ?_
      refine X_bast dX8_putOnTape_29 h3 (h4 c1 c2) (h5 c1 c2) ?_
      refine X_aload_n dX8_putOnTape_30 rfl rfl ?_
      refine X_dup dX8_putOnTape_31 rfl ?_
      refine X_getI dX8_putOnTape_32 fl_8_13 (by decide) (am_ow h6) ?_
      refine Y_iconst dX8_putOnTape_35 (by unfold i32; omega) ?_
      refine X_iadd dX8_putOnTape_36  ?_
      refine X_putI dX8_putOnTape_37 fw_8_13 rfl h6 ?_
      refine X_iinc dX8_putOnTape_40 rfl ?_
      refine X_goto (tgt := 3) dX8_putOnTape_43 (by decide) ?_
      exact (k3 c1 c2)

theorem s8_election_0 {G : am_G} {dp a b : Nat} {m : am_M} {Q : am_Q} {i1 : Int} {r0 : Nat} {o2 : Option am_V} (hdp : 1 ≤ dp) (ha : 1 ≤ a) (hb : 6 ≤ b) (h1 : am_ob m r0 7) (k1 : (i1 < 0) → Q (.inr 0) (am_nx m)) (k2 : ¬ (i1 < 0) → (i1 ≤ (m.1 r0 1)) → ∀ Q' : am_Q, (∀ (m' : am_M), X G dp a b M8_election 27 [some (rV (some r0)), some (iV (i1)), o2] [] m' Q → Q' (.inl none) m') → T G (dp - 1) 0 0 M8_takeTape [rV (some r0), iV (i1)] m Q') (k3 : ¬ (i1 < 0) → ¬ (i1 ≤ (m.1 r0 1)) → Q (.inr 0) (am_nx m))  : X G dp a b M8_election 0 [some (rV (some r0)), some (iV (i1)), o2] [] m Q := by
  refine X_iload_n dX8_election_0 rfl rfl ?_
  refine X_if_lt (tgt := 12) dX8_election_1 (by decide) (fun c1 => ?_) (fun c1 => ?_)
  · exact X_throw (k := 0) (j := 0) (tx := "the tape has not so many bytes") (by decide) rfl rfl dX8_election_12 dX8_election_15 dX8_election_16 dX8_election_18 dX8_election_21 rfl (Nat.le_of_ble_eq_true rfl) ha hb (k1 c1)
  · refine X_iload_n dX8_election_4 rfl rfl ?_
    refine X_aload_n dX8_election_5 rfl rfl ?_
    refine X_getI dX8_election_6 fl_8_13 (by decide) h1 ?_
    refine X_icmp_le (tgt := 22) dX8_election_9 (by decide) (fun c2 => ?_) (fun c2 => ?_)
    · refine X_aload_n dX8_election_22 rfl rfl ?_
      refine X_iload_n dX8_election_23 rfl rfl ?_
      exact X_callV (As := [iV (i1)]) (rest := []) (a' := 0) (b' := 0) dX8_election_24 t8_takeTape ml_8_86 h1 rfl rfl (Nat.le_of_ble_eq_true rfl) rfl hdp (Nat.zero_le _) (Nat.zero_le _) ((k2 c1 c2) _ (fun m' h => h))
    · exact X_throw (k := 0) (j := 0) (tx := "the tape has not so many bytes") (by decide) rfl rfl dX8_election_12 dX8_election_15 dX8_election_16 dX8_election_18 dX8_election_21 rfl (Nat.le_of_ble_eq_true rfl) ha hb (k3 c1 c2)

theorem s8_election_27 {G : am_G} {dp a b : Nat} {m : am_M} {Q : am_Q} {i1 : Int} {r0 p1 p2 : Nat} {o2 : Option am_V} (hdp : 1 ≤ dp) (h1 : am_ob m r0 7) (h2 : m.2.1 r0 9 = some p1) (h3 : m.2.1 r0 5 = some p2) (k1 : ∀ Q' : am_Q, (∀ (m' : am_M), X G dp a b M8_election 38 [some (rV (some r0)), some (iV (i1)), o2] [] m' Q → Q' (.inl none) m') → T G (dp - 1) 0 0 M4_tell [rV (some p1), rV (some p2)] m Q')  : X G dp a b M8_election 27 [some (rV (some r0)), some (iV (i1)), o2] [] m Q := by
  refine X_aload_n dX8_election_27 rfl rfl ?_
  refine X_getP dX8_election_28 fl_8_57 rfl h1 ?_
  refine am_ptr h2 ?_
  refine X_aload_n dX8_election_31 rfl rfl ?_
  refine X_getP dX8_election_32 fl_8_34 rfl h1 ?_
  refine am_ptr h3 ?_
  exact X_callS (As := [rV (some p1), rV (some p2)]) (rest := []) (a' := 0) (b' := 0) dX8_election_35 t4_tell ml_8_89 rfl rfl (Nat.le_of_ble_eq_true rfl) rfl hdp (Nat.zero_le _) (Nat.zero_le _) (k1 _ (fun m' h => h))

theorem s8_election_38 {G : am_G} {dp a b : Nat} {m : am_M} {Q : am_Q} {i1 : Int} {r0 p1 p2 p3 p4 : Nat} {o2 : Option am_V} (hdp : 1 ≤ dp) (h2 : m.2.1 r0 9 = some p1) (h3 : am_ob m p1 5) (h4 : am_obw m r0 7) (h5 : m.2.1 r0 5 = some p2) (h6 : m.2.1 r0 4 = some p3) (h7 : (u2 (u2 m.2.1 r0 5 (some p3)) r0 4 (some p2)) r0 8 = some p4) (h8 : am_ob m p4 0) (k1 : (((u2 m.1 r0 2 (m.1 p1 7)) p1 6) = 0) → ∀ Q' : am_Q, (∀ (m' : am_M), X G dp a b M8_election 95 [some (rV (some r0)), some (iV (i1)), some (rV (some p2))] [] m' Q → Q' (.inl none) m') → T G (dp - 1) 0 0 M0_forget [rV (some p4)] ((u2 m.1 r0 2 (m.1 p1 7)), (u2 (u2 m.2.1 r0 5 (some p3)) r0 4 (some p2)), m.2.2) Q') (k2 : ¬ (((u2 m.1 r0 2 (m.1 p1 7)) p1 6) = 0) → Q (.inl (some (iV (wr ((-10) - ((u2 m.1 r0 2 (m.1 p1 7)) p1 6)))))) ((u2 m.1 r0 2 (m.1 p1 7)), m.2.1, m.2.2))  : X G dp a b M8_election 38 [some (rV (some r0)), some (iV (i1)), o2] [] m Q := by
  refine X_aload_n dX8_election_38 rfl rfl ?_
  refine X_aload_n dX8_election_39 rfl rfl ?_
  refine X_getP dX8_election_40 fl_8_57 rfl (am_ow h4) ?_
  refine am_ptr h2 ?_
  refine X_getI dX8_election_43 fl_8_95 (by decide) h3 ?_
  refine X_putI dX8_election_46 fw_8_17 rfl h4 ?_
  refine X_aload_n dX8_election_49 rfl rfl ?_
  refine X_getP dX8_election_50 fl_8_57 rfl (am_ow h4) ?_
  refine am_ptr h2 ?_
  refine X_getI dX8_election_53 fl_8_98 (by decide) h3 ?_
  refine X_if_eq (tgt := 70) dX8_election_56 (by decide) (fun c1 => ?_) (fun c1 => ?_)
  · refine X_aload_n dX8_election_70 rfl rfl ?_
    refine X_getP dX8_election_71 fl_8_34 rfl (am_ow h4) ?_
    refine am_ptr h5 ?_
    refine X_astore_n dX8_election_74 rfl (Nat.le_of_ble_eq_true rfl) ?_
    refine X_aload_n dX8_election_75 rfl rfl ?_
    refine X_aload_n dX8_election_76 rfl rfl ?_
    refine X_getP dX8_election_77 fl_8_30 rfl (am_ow h4) ?_
    refine am_ptr h6 ?_
    refine X_putP dX8_election_80 fw_8_34 rfl h4 ?_
    refine X_aload_n dX8_election_83 rfl rfl ?_
    refine X_aload_n dX8_election_84 rfl rfl ?_
    refine X_putP dX8_election_85 fw_8_30 rfl h4 ?_
    refine X_aload_n dX8_election_88 rfl rfl ?_
    refine X_getP dX8_election_89 fl_8_50 rfl (am_ow h4) ?_
    refine am_ptr h7 ?_
    exact X_callV (As := []) (rest := []) (a' := 0) (b' := 0) dX8_election_92 t0_forget ml_8_101 h8 rfl rfl (Nat.le_of_ble_eq_true rfl) rfl hdp (Nat.zero_le _) (Nat.zero_le _) ((k1 c1) _ (fun m' h => h))
  · refine Y_bipush dX8_election_59 (by omega) ?_
    refine X_aload_n dX8_election_61 rfl rfl ?_
    refine X_getP dX8_election_62 fl_8_57 rfl (am_ow h4) ?_
    refine am_ptr h2 ?_
    refine X_getI dX8_election_65 fl_8_98 (by decide) h3 ?_
    refine X_isub dX8_election_68  ?_
    exact X_iret dX8_election_69 rfl (k2 c1)

theorem s8_election_95 {G : am_G} {dp a b : Nat} {m : am_M} {Q : am_Q} {i1 : Int} {r0 r2 : Nat} (hdp : 1 ≤ dp) (h1 : am_ob m r0 7) (k1 : ∀ Q' : am_Q, (∀ (m' : am_M), X G dp a b M8_election 99 [some (rV (some r0)), some (iV (i1)), some (rV (some r2))] [] m' Q → Q' (.inl none) m') → T G (dp - 1) 0 0 M8_replay [rV (some r0)] m Q')  : X G dp a b M8_election 95 [some (rV (some r0)), some (iV (i1)), some (rV (some r2))] [] m Q := by
  refine X_aload_n dX8_election_95 rfl rfl ?_
  exact X_callV (As := []) (rest := []) (a' := 0) (b' := 0) dX8_election_96 t8_replay ml_8_104 h1 rfl rfl (Nat.le_of_ble_eq_true rfl) rfl hdp (Nat.zero_le _) (Nat.zero_le _) (k1 _ (fun m' h => h))

theorem s8_election_99 {G : am_G} {dp a b : Nat} {m : am_M} {Q : am_Q} {i1 : Int} {r0 r2 p1 : Nat} (h1 : am_ob m r0 7) (h2 : m.2.1 r0 4 = some p1) (h3 : am_ob m p1 3) (k1 : Q (.inl (some (iV (m.1 p1 3)))) m)  : X G dp a b M8_election 99 [some (rV (some r0)), some (iV (i1)), some (rV (some r2))] [] m Q := by
  refine X_aload_n dX8_election_99 rfl rfl ?_
  refine X_getP dX8_election_100 fl_8_30 rfl h1 ?_
  refine am_ptr h2 ?_
  refine X_getI dX8_election_103 fl_8_107 (by decide) h3 ?_
  exact X_iret dX8_election_106 rfl k1

theorem s8_takeTape_0 {G : am_G} {dp a b : Nat} {m : am_M} {Q : am_Q} {i1 : Int} {r0 p1 p2 : Nat} (hdp : 1 ≤ dp) (h1 : am_ob m r0 7) (h2 : m.2.1 r0 9 = some p1) (h3 : m.2.1 r0 0 = some p2) (h4 : am_ob m p1 5) (k1 : ∀ Q' : am_Q, (∀ (m' : am_M), X G dp a b M8_takeTape 12 [some (rV (some r0)), some (iV (i1))] [] m' Q → Q' (.inl none) m') → T G (dp - 1) 0 0 M6_open [rV (some p1), rV (some p2), iV (i1)] m Q')  : X G dp a b M8_takeTape 0 [some (rV (some r0)), some (iV (i1))] [] m Q := by
  refine X_aload_n dX8_takeTape_0 rfl rfl ?_
  refine X_getP dX8_takeTape_1 fl_8_57 rfl h1 ?_
  refine am_ptr h2 ?_
  refine X_aload_n dX8_takeTape_4 rfl rfl ?_
  refine X_getP dX8_takeTape_5 fl_8_9 rfl h1 ?_
  refine am_ptr h3 ?_
  refine X_iload_n dX8_takeTape_8 rfl rfl ?_
  exact X_callV (As := [rV (some p2), iV (i1)]) (rest := []) (a' := 0) (b' := 0) dX8_takeTape_9 t6_open ml_8_110 h4 rfl rfl (Nat.le_of_ble_eq_true rfl) rfl hdp (Nat.zero_le _) (Nat.zero_le _) (k1 _ (fun m' h => h))

theorem s8_takeTape_12 {G : am_G} {dp a b : Nat} {m : am_M} {Q : am_Q} {i1 : Int} {r0 : Nat} (h1 : am_obw m r0 7) (k1 : Q (.inl none) ((u2 m.1 r0 1 (0)), m.2.1, m.2.2))  : X G dp a b M8_takeTape 12 [some (rV (some r0)), some (iV (i1))] [] m Q := by
  refine X_aload_n dX8_takeTape_12 rfl rfl ?_
  refine Y_iconst dX8_takeTape_13 (by unfold i32; omega) ?_
  refine X_putI dX8_takeTape_14 fw_8_13 rfl h1 ?_
  exact X_vret dX8_takeTape_17 rfl k1

theorem s8_fault_0 {G : am_G} {dp a b : Nat} {m : am_M} {Q : am_Q} {r0 : Nat} (h1 : am_ob m r0 7) (k1 : Q (.inl (some (iV (m.1 r0 2)))) m)  : X G dp a b M8_fault 0 [some (rV (some r0))] [] m Q := by
  refine X_aload_n dX8_fault_0 rfl rfl ?_
  refine X_getI dX8_fault_1 fl_8_17 (by decide) h1 ?_
  exact X_iret dX8_fault_4 rfl k1

theorem s8_count_0 {G : am_G} {dp a b : Nat} {m : am_M} {Q : am_Q} {i1 : Int} {r0 p1 p2 p3 p4 p5 p6 p7 p8 p9 p10 p11 p12 p13 p14 p15 p16 : Nat} {n_p4 n_p6 n_p8 : Nat} (hdp : 1 ≤ dp) (ha : 1 ≤ a) (hb : 6 ≤ b) (h1 : am_ob m r0 7) (h2 : m.2.1 r0 4 = some p1) (h3 : am_ob m p1 3) (h4 : m.2.1 r0 4 = some p2) (h5 : am_ob m p2 3) (h6 : m.2.1 r0 4 = some p3) (h7 : am_ob m p3 3) (h8 : m.2.1 p3 1 = some p4) (h9 : am_ar m p4 100 n_p4) (h11 : m.2.1 r0 4 = some p5) (h12 : am_ob m p5 3) (h13 : m.2.1 p5 1 = some p6) (h14 : am_ar m p6 100 n_p6) (h16 : m.2.1 r0 4 = some p7) (h17 : am_ob m p7 3) (h18 : m.2.1 p7 1 = some p8) (h19 : am_ar m p8 100 n_p8) (h21 : m.2.1 r0 6 = some p9) (h22 : am_ob m p9 1) (h23 : m.2.1 r0 6 = some p10) (h24 : am_ob m p10 1) (h25 : m.2.1 r0 4 = some p11) (h26 : am_ob m p11 3) (h27 : m.2.1 r0 6 = some p12) (h28 : am_ob m p12 1) (h29 : m.2.1 r0 6 = some p13) (h30 : am_ob m p13 1) (h31 : m.2.1 r0 6 = some p14) (h32 : m.2.1 r0 4 = some p15) (h33 : am_ob m p14 1) (h34 : m.2.1 r0 8 = some p16) (h35 : am_ob m p16 0) (k1 : (i1 = 0) → Q (.inl (some (iV (m.1 p1 2)))) m) (k2 : (i1 = 1) → Q (.inl (some (iV (m.1 p2 3)))) m) (k3 : (i1 = 2) → Q (.inl (some (iV (m.1 p4 ((0 : Int)).toNat)))) m) (k4 : (i1 = 3) → Q (.inl (some (iV (m.1 p6 ((1 : Int)).toNat)))) m) (k5 : (i1 = 4) → Q (.inl (some (iV (m.1 p8 ((2 : Int)).toNat)))) m) (k6 : (i1 = 5) → Q (.inl (some (iV (m.1 p9 5)))) m) (k7 : (i1 = 6) → Q (.inl (some (iV (m.1 p10 6)))) m) (k8 : (i1 = 7) → Q (.inl (some (iV (wr ((m.1 p11 2) - (m.1 p12 7)))))) m) (k9 : (i1 = 8) → ∀ Q' : am_Q, (∀ (z : Int) (m' : am_M), X G dp a b M8_count 149 [some (rV (some r0)), some (iV (i1))] [iV (z)] m' Q → Q' (.inl (some (iV (z)))) m') → T G (dp - 1) 0 0 M1_isOver [rV (some p13)] m Q') (k10 : (i1 = 9) → ∀ Q' : am_Q, (∀ (z : Int) (m' : am_M), X G dp a b M8_count 169 [some (rV (some r0)), some (iV (i1))] [iV (z)] m' Q → Q' (.inl (some (iV (z)))) m') → T G (dp - 1) 0 0 M1_isByHand [rV (some p14), rV (some p15)] m Q') (k11 : (i1 = 10) → Q (.inl (some (iV (m.1 p16 4)))) m) (k12 : (i1 = 11) → Q (.inl (some (iV (m.1 r0 1)))) m) (k13 : ¬ (i1 = 0) → ¬ (i1 = 1) → ¬ (i1 = 2) → ¬ (i1 = 3) → ¬ (i1 = 4) → ¬ (i1 = 5) → ¬ (i1 = 6) → ¬ (i1 = 7) → ¬ (i1 = 8) → ¬ (i1 = 9) → ¬ (i1 = 10) → ¬ (i1 = 11) → Q (.inr 1) (am_nx m)) (h10 : i1 = 2 → 0 < (n_p4 : Int) := by intros; first | omega | (dsimp only at *; omega)) (h15 : i1 = 3 → 1 < (n_p6 : Int) := by intros; first | omega | (dsimp only at *; omega)) (h20 : i1 = 4 → 2 < (n_p8 : Int) := by intros; first | omega | (dsimp only at *; omega)) : X G dp a b M8_count 0 [some (rV (some r0)), some (iV (i1))] [] m Q := by
  refine X_iload_n dX8_count_0 rfl rfl ?_
  by_cases c1 : i1 = 0
  · refine X_tableIn (tgt := 64) dX8_count_1 (by rw [c1]; decide) (by rw [c1]; decide) (by rw [c1]; rfl) (by decide) ?_
    refine X_aload_n dX8_count_64 rfl rfl ?_
    refine X_getP dX8_count_65 fl_8_30 rfl h1 ?_
    refine am_ptr h2 ?_
    refine X_getI dX8_count_68 fl_8_114 (by decide) h3 ?_
    exact X_iret dX8_count_71 rfl (k1 c1)
  by_cases c2 : i1 = 1
  · refine X_tableIn (tgt := 72) dX8_count_1 (by rw [c2]; decide) (by rw [c2]; decide) (by rw [c2]; rfl) (by decide) ?_
    refine X_aload_n dX8_count_72 rfl rfl ?_
    refine X_getP dX8_count_73 fl_8_30 rfl h1 ?_
    refine am_ptr h4 ?_
    refine X_getI dX8_count_76 fl_8_107 (by decide) h5 ?_
    exact X_iret dX8_count_79 rfl (k2 c2)
  by_cases c3 : i1 = 2
  · refine X_tableIn (tgt := 80) dX8_count_1 (by rw [c3]; decide) (by rw [c3]; decide) (by rw [c3]; rfl) (by decide) ?_
    refine X_aload_n dX8_count_80 rfl rfl ?_
    refine X_getP dX8_count_81 fl_8_30 rfl h1 ?_
    refine am_ptr h6 ?_
    refine X_getP dX8_count_84 fl_8_117 rfl h7 ?_
    refine am_ptr h8 ?_
    refine Y_iconst dX8_count_87 (by unfold i32; omega) ?_
    refine X_iald dX8_count_88 h9 (by decide) (h10 c3) ?_
    exact X_iret dX8_count_89 rfl (k3 c3)
  by_cases c4 : i1 = 3
  · refine X_tableIn (tgt := 90) dX8_count_1 (by rw [c4]; decide) (by rw [c4]; decide) (by rw [c4]; rfl) (by decide) ?_
    refine X_aload_n dX8_count_90 rfl rfl ?_
    refine X_getP dX8_count_91 fl_8_30 rfl h1 ?_
    refine am_ptr h11 ?_
    refine X_getP dX8_count_94 fl_8_117 rfl h12 ?_
    refine am_ptr h13 ?_
    refine Y_iconst dX8_count_97 (by unfold i32; omega) ?_
    refine X_iald dX8_count_98 h14 (by decide) (h15 c4) ?_
    exact X_iret dX8_count_99 rfl (k4 c4)
  by_cases c5 : i1 = 4
  · refine X_tableIn (tgt := 100) dX8_count_1 (by rw [c5]; decide) (by rw [c5]; decide) (by rw [c5]; rfl) (by decide) ?_
    refine X_aload_n dX8_count_100 rfl rfl ?_
    refine X_getP dX8_count_101 fl_8_30 rfl h1 ?_
    refine am_ptr h16 ?_
    refine X_getP dX8_count_104 fl_8_117 rfl h17 ?_
    refine am_ptr h18 ?_
    refine Y_iconst dX8_count_107 (by unfold i32; omega) ?_
    refine X_iald dX8_count_108 h19 (by decide) (h20 c5) ?_
    exact X_iret dX8_count_109 rfl (k5 c5)
  by_cases c6 : i1 = 5
  · refine X_tableIn (tgt := 110) dX8_count_1 (by rw [c6]; decide) (by rw [c6]; decide) (by rw [c6]; rfl) (by decide) ?_
    refine X_aload_n dX8_count_110 rfl rfl ?_
    refine X_getP dX8_count_111 fl_8_40 rfl h1 ?_
    refine am_ptr h21 ?_
    refine X_getI dX8_count_114 fl_8_121 (by decide) h22 ?_
    exact X_iret dX8_count_117 rfl (k6 c6)
  by_cases c7 : i1 = 6
  · refine X_tableIn (tgt := 118) dX8_count_1 (by rw [c7]; decide) (by rw [c7]; decide) (by rw [c7]; rfl) (by decide) ?_
    refine X_aload_n dX8_count_118 rfl rfl ?_
    refine X_getP dX8_count_119 fl_8_40 rfl h1 ?_
    refine am_ptr h23 ?_
    refine X_getI dX8_count_122 fl_8_124 (by decide) h24 ?_
    exact X_iret dX8_count_125 rfl (k7 c7)
  by_cases c8 : i1 = 7
  · refine X_tableIn (tgt := 126) dX8_count_1 (by rw [c8]; decide) (by rw [c8]; decide) (by rw [c8]; rfl) (by decide) ?_
    refine X_aload_n dX8_count_126 rfl rfl ?_
    refine X_getP dX8_count_127 fl_8_30 rfl h1 ?_
    refine am_ptr h25 ?_
    refine X_getI dX8_count_130 fl_8_114 (by decide) h26 ?_
    refine X_aload_n dX8_count_133 rfl rfl ?_
    refine X_getP dX8_count_134 fl_8_40 rfl h1 ?_
    refine am_ptr h27 ?_
    refine X_getI dX8_count_137 fl_8_127 (by decide) h28 ?_
    refine X_isub dX8_count_140  ?_
    exact X_iret dX8_count_141 rfl (k8 c8)
  by_cases c9 : i1 = 8
  · refine X_tableIn (tgt := 142) dX8_count_1 (by rw [c9]; decide) (by rw [c9]; decide) (by rw [c9]; rfl) (by decide) ?_
    refine X_aload_n dX8_count_142 rfl rfl ?_
    refine X_getP dX8_count_143 fl_8_40 rfl h1 ?_
    refine am_ptr h29 ?_
    exact X_callV (As := []) (rest := []) (a' := 0) (b' := 0) dX8_count_146 t1_isOver ml_8_130 h30 rfl rfl (Nat.le_of_ble_eq_true rfl) rfl hdp (Nat.zero_le _) (Nat.zero_le _) ((k9 c9) _ (fun z m' h => h))
  by_cases c10 : i1 = 9
  · refine X_tableIn (tgt := 158) dX8_count_1 (by rw [c10]; decide) (by rw [c10]; decide) (by rw [c10]; rfl) (by decide) ?_
    refine X_aload_n dX8_count_158 rfl rfl ?_
    refine X_getP dX8_count_159 fl_8_40 rfl h1 ?_
    refine am_ptr h31 ?_
    refine X_aload_n dX8_count_162 rfl rfl ?_
    refine X_getP dX8_count_163 fl_8_30 rfl h1 ?_
    refine am_ptr h32 ?_
    exact X_callV (As := [rV (some p15)]) (rest := []) (a' := 0) (b' := 0) dX8_count_166 t1_isByHand ml_8_134 h33 rfl rfl (Nat.le_of_ble_eq_true rfl) rfl hdp (Nat.zero_le _) (Nat.zero_le _) ((k10 c10) _ (fun z m' h => h))
  by_cases c11 : i1 = 10
  · refine X_tableIn (tgt := 178) dX8_count_1 (by rw [c11]; decide) (by rw [c11]; decide) (by rw [c11]; rfl) (by decide) ?_
    refine X_aload_n dX8_count_178 rfl rfl ?_
    refine X_getP dX8_count_179 fl_8_50 rfl h1 ?_
    refine am_ptr h34 ?_
    refine X_getI dX8_count_182 fl_8_138 (by decide) h35 ?_
    exact X_iret dX8_count_185 rfl (k11 c11)
  by_cases c12 : i1 = 11
  · refine X_tableIn (tgt := 186) dX8_count_1 (by rw [c12]; decide) (by rw [c12]; decide) (by rw [c12]; rfl) (by decide) ?_
    refine X_aload_n dX8_count_186 rfl rfl ?_
    refine X_getI dX8_count_187 fl_8_13 (by decide) h1 ?_
    exact X_iret dX8_count_190 rfl (k12 c12)
  refine X_tableOut (tgt := 191) dX8_count_1 (by omega) (by decide) ?_
  exact X_throw (k := 1) (j := 12) (tx := "no such count") (by decide) rfl rfl dX8_count_191 dX8_count_194 dX8_count_195 dX8_count_197 dX8_count_200 rfl (Nat.le_of_ble_eq_true rfl) ha hb (k13 c1 c2 c3 c4 c5 c6 c7 c8 c9 c10 c11 c12)

theorem s8_count_149 {G : am_G} {dp a b : Nat} {m : am_M} {Q : am_Q} {i1 i90 : Int} {r0 : Nat}  (k1 : (i90 = 0) → Q (.inl (some (iV (0)))) m) (k2 : ¬ (i90 = 0) → Q (.inl (some (iV (1)))) m)  : X G dp a b M8_count 149 [some (rV (some r0)), some (iV (i1))] [iV (i90)] m Q := by
  refine X_if_eq (tgt := 156) dX8_count_149 (by decide) (fun c1 => ?_) (fun c1 => ?_)
  · refine Y_iconst dX8_count_156 (by unfold i32; omega) ?_
    exact X_iret dX8_count_157 rfl (k1 c1)
  · refine Y_iconst dX8_count_152 (by unfold i32; omega) ?_
    refine X_goto (tgt := 157) dX8_count_153 (by decide) ?_
    exact X_iret dX8_count_157 rfl (k2 c1)

theorem s8_count_169 {G : am_G} {dp a b : Nat} {m : am_M} {Q : am_Q} {i1 i90 : Int} {r0 : Nat}  (k1 : (i90 = 0) → Q (.inl (some (iV (0)))) m) (k2 : ¬ (i90 = 0) → Q (.inl (some (iV (1)))) m)  : X G dp a b M8_count 169 [some (rV (some r0)), some (iV (i1))] [iV (i90)] m Q := by
  refine X_if_eq (tgt := 176) dX8_count_169 (by decide) (fun c1 => ?_) (fun c1 => ?_)
  · refine Y_iconst dX8_count_176 (by unfold i32; omega) ?_
    exact X_iret dX8_count_177 rfl (k1 c1)
  · refine Y_iconst dX8_count_172 (by unfold i32; omega) ?_
    refine X_goto (tgt := 177) dX8_count_173 (by decide) ?_
    exact X_iret dX8_count_177 rfl (k2 c1)

theorem s8_race_0 {G : am_G} {dp a b : Nat} {m : am_M} {Q : am_Q} {i1 i2 : Int} {r0 : Nat} {o3 : Option am_V} (hdp : 1 ≤ dp) (ha : 1 ≤ a) (hb : 6 ≤ b) (h1 : am_ob m r0 7) (k1 : ∀ Q' : am_Q, (∀ (z : Nat) (m' : am_M), X G dp (a - 1) (b - 6) M8_race 5 [some (rV (some r0)), some (iV (i1)), some (iV (i2)), o3] [rV (some z)] m' Q → Q' (.inl (some (rV (some z)))) m') → (∀ (k : Nat) (m' : am_M), Q (.inr k) m' → Q' (.inr k) m') → T G (dp - 1) 1 6 M8_contestOf [rV (some r0), iV (i1)] m Q')  : X G dp a b M8_race 0 [some (rV (some r0)), some (iV (i1)), some (iV (i2)), o3] [] m Q := by
  refine X_aload_n dX8_race_0 rfl rfl ?_
  refine X_iload_n dX8_race_1 rfl rfl ?_
  exact X_callV (As := [iV (i1)]) (rest := []) (a' := 1) (b' := 6) dX8_race_2 t8_contestOf ml_8_146 h1 rfl rfl (Nat.le_of_ble_eq_true rfl) rfl hdp ha hb (k1 _ (fun z m' h => h) (fun _ _ h => h))

theorem s8_race_5 {G : am_G} {dp a b : Nat} {m : am_M} {Q : am_Q} {i1 i2 : Int} {r0 r90 p1 p2 p3 : Nat} {o3 : Option am_V} {n_p3 : Nat} (hdp : 1 ≤ dp) (ha : 1 ≤ a) (hb : 6 ≤ b) (h1 : am_ob m r90 2) (h2 : am_ob m r0 7) (h3 : m.2.1 r0 6 = some p1) (h4 : am_ob m p1 1) (h5 : m.2.1 r0 6 = some p2) (h6 : am_ob m p2 1) (h7 : m.2.1 p2 2 = some p3) (h8 : am_ar m p3 100 n_p3) (k1 : (i2 = 0) → Q (.inl (some (iV (m.1 r90 5)))) m) (k2 : (i2 = 1) → Q (.inl (some (iV (m.1 r90 6)))) m) (k3 : (i2 = 2) → Q (.inl (some (iV (m.1 r90 7)))) m) (k4 : (i2 = 3) → Q (.inl (some (iV (m.1 r90 8)))) m) (k5 : (i2 = 4) → Q (.inl (some (iV (m.1 r90 9)))) m) (k6 : (i2 = 5) → ∀ Q' : am_Q, (∀ (z : Int) (m' : am_M), X G dp a b M8_race 85 [some (rV (some r0)), some (iV (i1)), some (iV (i2)), some (rV (some r90))] [iV (z)] m' Q → Q' (.inl (some (iV (z)))) m') → T G (dp - 1) 0 0 M1_isDone [rV (some p1), iV (i1)] m Q') (k7 : (i2 = 6) → Q (.inl (some (iV (m.1 p3 (i1).toNat)))) m) (k8 : (i2 = 7) → ∀ Q' : am_Q, (∀ (z : Int) (m' : am_M), X G dp a b M8_race 110 [some (rV (some r0)), some (iV (i1)), some (iV (i2)), some (rV (some r90))] [iV (z)] m' Q → Q' (.inl (some (iV (z)))) m') → T G (dp - 1) 0 0 M8_wins [rV (some r0), iV (i1), rV (some r90)] m Q') (k9 : ¬ (i2 = 0) → ¬ (i2 = 1) → ¬ (i2 = 2) → ¬ (i2 = 3) → ¬ (i2 = 4) → ¬ (i2 = 5) → ¬ (i2 = 6) → ¬ (i2 = 7) → Q (.inr 1) (am_nx m)) (h9 : i2 = 6 → 0 ≤ i1 := by intros; first | omega | (dsimp only at *; omega)) (h10 : i2 = 6 → i1 < (n_p3 : Int) := by intros; first | omega | (dsimp only at *; omega)) : X G dp a b M8_race 5 [some (rV (some r0)), some (iV (i1)), some (iV (i2)), o3] [rV (some r90)] m Q := by
  refine X_astore_n dX8_race_5 rfl (Nat.le_of_ble_eq_true rfl) ?_
  refine X_iload_n dX8_race_6 rfl rfl ?_
  by_cases c1 : i2 = 0
  · refine X_tableIn (tgt := 52) dX8_race_7 (by rw [c1]; decide) (by rw [c1]; decide) (by rw [c1]; rfl) (by decide) ?_
    refine X_aload_n dX8_race_52 rfl rfl ?_
    refine X_getI dX8_race_53 fl_8_150 (by decide) h1 ?_
    exact X_iret dX8_race_56 rfl (k1 c1)
  by_cases c2 : i2 = 1
  · refine X_tableIn (tgt := 57) dX8_race_7 (by rw [c2]; decide) (by rw [c2]; decide) (by rw [c2]; rfl) (by decide) ?_
    refine X_aload_n dX8_race_57 rfl rfl ?_
    refine X_getI dX8_race_58 fl_8_155 (by decide) h1 ?_
    exact X_iret dX8_race_61 rfl (k2 c2)
  by_cases c3 : i2 = 2
  · refine X_tableIn (tgt := 62) dX8_race_7 (by rw [c3]; decide) (by rw [c3]; decide) (by rw [c3]; rfl) (by decide) ?_
    refine X_aload_n dX8_race_62 rfl rfl ?_
    refine X_getI dX8_race_63 fl_8_158 (by decide) h1 ?_
    exact X_iret dX8_race_66 rfl (k3 c3)
  by_cases c4 : i2 = 3
  · refine X_tableIn (tgt := 67) dX8_race_7 (by rw [c4]; decide) (by rw [c4]; decide) (by rw [c4]; rfl) (by decide) ?_
    refine X_aload_n dX8_race_67 rfl rfl ?_
    refine X_getI dX8_race_68 fl_8_161 (by decide) h1 ?_
    exact X_iret dX8_race_71 rfl (k4 c4)
  by_cases c5 : i2 = 4
  · refine X_tableIn (tgt := 72) dX8_race_7 (by rw [c5]; decide) (by rw [c5]; decide) (by rw [c5]; rfl) (by decide) ?_
    refine X_aload_n dX8_race_72 rfl rfl ?_
    refine X_getI dX8_race_73 fl_8_164 (by decide) h1 ?_
    exact X_iret dX8_race_76 rfl (k5 c5)
  by_cases c6 : i2 = 5
  · refine X_tableIn (tgt := 77) dX8_race_7 (by rw [c6]; decide) (by rw [c6]; decide) (by rw [c6]; rfl) (by decide) ?_
    refine X_aload_n dX8_race_77 rfl rfl ?_
    refine X_getP dX8_race_78 fl_8_40 rfl h2 ?_
    refine am_ptr h3 ?_
    refine X_iload_n dX8_race_81 rfl rfl ?_
    exact X_callV (As := [iV (i1)]) (rest := []) (a' := 0) (b' := 0) dX8_race_82 t1_isDone ml_8_167 h4 rfl rfl (Nat.le_of_ble_eq_true rfl) rfl hdp (Nat.zero_le _) (Nat.zero_le _) ((k6 c6) _ (fun z m' h => h))
  by_cases c7 : i2 = 6
  · refine X_tableIn (tgt := 94) dX8_race_7 (by rw [c7]; decide) (by rw [c7]; decide) (by rw [c7]; rfl) (by decide) ?_
    refine X_aload_n dX8_race_94 rfl rfl ?_
    refine X_getP dX8_race_95 fl_8_40 rfl h2 ?_
    refine am_ptr h5 ?_
    refine X_getP dX8_race_98 fl_8_171 rfl h6 ?_
    refine am_ptr h7 ?_
    refine X_iload_n dX8_race_101 rfl rfl ?_
    refine X_iald dX8_race_102 h8 (h9 c7) (h10 c7) ?_
    exact X_iret dX8_race_103 rfl (k7 c7)
  by_cases c8 : i2 = 7
  · refine X_tableIn (tgt := 104) dX8_race_7 (by rw [c8]; decide) (by rw [c8]; decide) (by rw [c8]; rfl) (by decide) ?_
    refine X_aload_n dX8_race_104 rfl rfl ?_
    refine X_iload_n dX8_race_105 rfl rfl ?_
    refine X_aload_n dX8_race_106 rfl rfl ?_
    exact X_callV (As := [iV (i1), rV (some r90)]) (rest := []) (a' := 0) (b' := 0) dX8_race_107 t8_wins ml_8_174 h2 rfl rfl (Nat.le_of_ble_eq_true rfl) rfl hdp (Nat.zero_le _) (Nat.zero_le _) ((k8 c8) _ (fun z m' h => h))
  refine X_tableOut (tgt := 111) dX8_race_7 (by omega) (by decide) ?_
  exact X_throw (k := 1) (j := 14) (tx := "nothing such of a race") (by decide) rfl rfl dX8_race_111 dX8_race_114 dX8_race_115 dX8_race_117 dX8_race_120 rfl (Nat.le_of_ble_eq_true rfl) ha hb (k9 c1 c2 c3 c4 c5 c6 c7 c8)

theorem s8_race_85 {G : am_G} {dp a b : Nat} {m : am_M} {Q : am_Q} {i1 i2 i90 : Int} {r0 r3 : Nat}  (k1 : (i90 = 0) → Q (.inl (some (iV (0)))) m) (k2 : ¬ (i90 = 0) → Q (.inl (some (iV (1)))) m)  : X G dp a b M8_race 85 [some (rV (some r0)), some (iV (i1)), some (iV (i2)), some (rV (some r3))] [iV (i90)] m Q := by
  refine X_if_eq (tgt := 92) dX8_race_85 (by decide) (fun c1 => ?_) (fun c1 => ?_)
  · refine Y_iconst dX8_race_92 (by unfold i32; omega) ?_
    exact X_iret dX8_race_93 rfl (k1 c1)
  · refine Y_iconst dX8_race_88 (by unfold i32; omega) ?_
    refine X_goto (tgt := 93) dX8_race_89 (by decide) ?_
    exact X_iret dX8_race_93 rfl (k2 c1)

theorem s8_race_110 {G : am_G} {dp a b : Nat} {m : am_M} {Q : am_Q} {i1 i2 i90 : Int} {r0 r3 : Nat}  (k1 : Q (.inl (some (iV (i90)))) m)  : X G dp a b M8_race 110 [some (rV (some r0)), some (iV (i1)), some (iV (i2)), some (rV (some r3))] [iV (i90)] m Q := by
  exact X_iret dX8_race_110 rfl k1

theorem s8_wins_0 {G : am_G} {dp a b : Nat} {m : am_M} {Q : am_Q} {i1 : Int} {r0 r2 p1 : Nat} (hdp : 1 ≤ dp) (h1 : am_ob m r0 7) (h2 : m.2.1 r0 6 = some p1) (h3 : am_ob m p1 1) (k1 : ∀ Q' : am_Q, (∀ (z : Int) (m' : am_M), X G dp a b M8_wins 8 [some (rV (some r0)), some (iV (i1)), some (rV (some r2))] [iV (z)] m' Q → Q' (.inl (some (iV (z)))) m') → T G (dp - 1) 0 0 M1_isDone [rV (some p1), iV (i1)] m Q')  : X G dp a b M8_wins 0 [some (rV (some r0)), some (iV (i1)), some (rV (some r2))] [] m Q := by
  refine X_aload_n dX8_wins_0 rfl rfl ?_
  refine X_getP dX8_wins_1 fl_8_40 rfl h1 ?_
  refine am_ptr h2 ?_
  refine X_iload_n dX8_wins_4 rfl rfl ?_
  exact X_callV (As := [iV (i1)]) (rest := []) (a' := 0) (b' := 0) dX8_wins_5 t1_isDone ml_8_167 h3 rfl rfl (Nat.le_of_ble_eq_true rfl) rfl hdp (Nat.zero_le _) (Nat.zero_le _) (k1 _ (fun z m' h => h))

theorem s8_wins_8 {G : am_G} {dp a b : Nat} {m : am_M} {Q : am_Q} {i1 i90 : Int} {r0 r2 p1 p2 : Nat} (hdp : 1 ≤ dp) (h1 : am_ob m r0 7) (h2 : m.2.1 r0 6 = some p1) (h3 : m.2.1 r0 4 = some p2) (h4 : am_ob m p1 1) (h5 : am_ob m r2 2) (k1 : (i90 = 0) → ∀ Q' : am_Q, (∀ (z : Int) (m' : am_M), X G dp a b M8_wins 27 [some (rV (some r0)), some (iV (i1)), some (rV (some r2))] [iV (z)] m' Q → Q' (.inl (some (iV (z)))) m') → T G (dp - 1) 0 0 M1_isByHand [rV (some p1), rV (some p2)] m Q') (k2 : ¬ (i90 = 0) → Q (.inl (some (iV (m.1 r2 7)))) m)  : X G dp a b M8_wins 8 [some (rV (some r0)), some (iV (i1)), some (rV (some r2))] [iV (i90)] m Q := by
  refine X_if_eq (tgt := 16) dX8_wins_8 (by decide) (fun c1 => ?_) (fun c1 => ?_)
  · refine X_aload_n dX8_wins_16 rfl rfl ?_
    refine X_getP dX8_wins_17 fl_8_40 rfl h1 ?_
    refine am_ptr h2 ?_
    refine X_aload_n dX8_wins_20 rfl rfl ?_
    refine X_getP dX8_wins_21 fl_8_30 rfl h1 ?_
    refine am_ptr h3 ?_
    exact X_callV (As := [rV (some p2)]) (rest := []) (a' := 0) (b' := 0) dX8_wins_24 t1_isByHand ml_8_134 h4 rfl rfl (Nat.le_of_ble_eq_true rfl) rfl hdp (Nat.zero_le _) (Nat.zero_le _) ((k1 c1) _ (fun z m' h => h))
  · refine X_aload_n dX8_wins_11 rfl rfl ?_
    refine X_getI dX8_wins_12 fl_8_158 (by decide) h5 ?_
    exact X_iret dX8_wins_15 rfl (k2 c1)

theorem s8_wins_27 {G : am_G} {dp a b : Nat} {m : am_M} {Q : am_Q} {i1 i90 : Int} {r0 r2 : Nat} (h1 : am_ob m r2 2) (k1 : (i90 = 0) → Q (.inl (some (iV ((-1))))) m) (k2 : ¬ (i90 = 0) → Q (.inl (some (iV (m.1 r2 8)))) m)  : X G dp a b M8_wins 27 [some (rV (some r0)), some (iV (i1)), some (rV (some r2))] [iV (i90)] m Q := by
  refine X_if_eq (tgt := 37) dX8_wins_27 (by decide) (fun c1 => ?_) (fun c1 => ?_)
  · refine Y_iconst dX8_wins_37 (by unfold i32; omega) ?_
    exact X_iret dX8_wins_38 rfl (k1 c1)
  · refine X_aload_n dX8_wins_30 rfl rfl ?_
    refine X_getI dX8_wins_31 fl_8_161 (by decide) h1 ?_
    refine X_goto (tgt := 38) dX8_wins_34 (by decide) ?_
    exact X_iret dX8_wins_38 rfl (k2 c1)

theorem s8_contestOf_0 {G : am_G} {dp a b : Nat} {m : am_M} {Q : am_Q} {i1 : Int} {r0 p1 p2 p3 : Nat} {t_p2 n_p2 : Nat} (ha : 1 ≤ a) (hb : 6 ≤ b) (h1 : am_ob m r0 7) (h2 : m.2.1 r0 4 = some p1) (h3 : am_ob m p1 3) (h4 : m.2.1 p1 0 = some p2) (h5 : t_p2 = 103 ∨ t_p2 = 104) (h6 : am_ar m p2 t_p2 n_p2) (h9 : ¬ (i1 < 0) → ¬ ((m.1 p1 2) ≤ i1) → i1 < 3 → m.2.1 p2 (i1).toNat = some p3) (k1 : (i1 < 0) → Q (.inr 1) (am_nx m)) (k2 : ¬ (i1 < 0) → ((m.1 p1 2) ≤ i1) → Q (.inr 1) (am_nx m)) (k3 : ¬ (i1 < 0) → ¬ ((m.1 p1 2) ≤ i1) → (i1 < 3) → Q (.inl (some (rV (some p3)))) m) (k4 : ¬ (i1 < 0) → ¬ ((m.1 p1 2) ≤ i1) → ¬ (i1 < 3) → Q (.inr 1) (am_nx m)) (h7 : ¬ (i1 < 0) → ¬ ((m.1 p1 2) ≤ i1) → i1 < 3 → 0 ≤ i1 := by intros; first | omega | (dsimp only at *; omega)) (h8 : ¬ (i1 < 0) → ¬ ((m.1 p1 2) ≤ i1) → i1 < 3 → i1 < (n_p2 : Int) := by intros; first | omega | (dsimp only at *; omega)) : X G dp a b M8_contestOf 0 [some (rV (some r0)), some (iV (i1))] [] m Q := by
  refine X_iload_n dX8_contestOf_0 rfl rfl ?_
  refine X_if_lt (tgt := 20) dX8_contestOf_1 (by decide) (fun c1 => ?_) (fun c1 => ?_)
  · exact X_throw (k := 1) (j := 13) (tx := "no such race") (by decide) rfl rfl dX8_contestOf_20 dX8_contestOf_23 dX8_contestOf_24 dX8_contestOf_26 dX8_contestOf_29 rfl (Nat.le_of_ble_eq_true rfl) ha hb (k1 c1)
  · refine X_iload_n dX8_contestOf_4 rfl rfl ?_
    refine X_aload_n dX8_contestOf_5 rfl rfl ?_
    refine X_getP dX8_contestOf_6 fl_8_30 rfl h1 ?_
    refine am_ptr h2 ?_
    refine X_getI dX8_contestOf_9 fl_8_114 (by decide) h3 ?_
    refine X_icmp_ge (tgt := 20) dX8_contestOf_12 (by decide) (fun c2 => ?_) (fun c2 => ?_)
    · exact X_throw (k := 1) (j := 13) (tx := "no such race") (by decide) rfl rfl dX8_contestOf_20 dX8_contestOf_23 dX8_contestOf_24 dX8_contestOf_26 dX8_contestOf_29 rfl (Nat.le_of_ble_eq_true rfl) ha hb (k2 c1 c2)
    · refine X_iload_n dX8_contestOf_15 rfl rfl ?_
      refine Y_iconst dX8_contestOf_16 (by unfold i32; omega) ?_
      refine X_icmp_lt (tgt := 30) dX8_contestOf_17 (by decide) (fun c3 => ?_) (fun c3 => ?_)
      · refine X_aload_n dX8_contestOf_30 rfl rfl ?_
        refine X_getP dX8_contestOf_31 fl_8_30 rfl h1 ?_
        refine am_ptr h2 ?_
        refine X_getP dX8_contestOf_34 fl_8_182 rfl h3 ?_
        refine am_ptr h4 ?_
        refine X_iload_n dX8_contestOf_37 rfl rfl ?_
        refine X_aald dX8_contestOf_38 h5 h6 (h7 c1 c2 c3) (h8 c1 c2 c3) ?_
        refine am_ptr (h9 c1 c2 c3) ?_
        exact X_aret dX8_contestOf_39 rfl (k3 c1 c2 c3)
      · exact X_throw (k := 1) (j := 13) (tx := "no such race") (by decide) rfl rfl dX8_contestOf_20 dX8_contestOf_23 dX8_contestOf_24 dX8_contestOf_26 dX8_contestOf_29 rfl (Nat.le_of_ble_eq_true rfl) ha hb (k4 c1 c2 c3)

theorem s8_seekCandidate_0 {G : am_G} {dp a b : Nat} {m : am_M} {Q : am_Q} {i2 : Int} {r0 r1 : Nat} (ha : 1 ≤ a) (hb : 6 ≤ b) (h1 : am_ob m r1 2) (k1 : (i2 < 0) → Q (.inr 1) (am_nx m)) (k2 : ¬ (i2 < 0) → ((m.1 r1 5) ≤ i2) → Q (.inr 1) (am_nx m)) (k3 : ¬ (i2 < 0) → ¬ ((m.1 r1 5) ≤ i2) → (i2 < 4) → Q (.inl none) m) (k4 : ¬ (i2 < 0) → ¬ ((m.1 r1 5) ≤ i2) → ¬ (i2 < 4) → Q (.inr 1) (am_nx m))  : X G dp a b M8_seekCandidate 0 [some (rV (some r0)), some (rV (some r1)), some (iV (i2))] [] m Q := by
  refine X_iload_n dX8_seekCandidate_0 rfl rfl ?_
  refine X_if_lt (tgt := 17) dX8_seekCandidate_1 (by decide) (fun c1 => ?_) (fun c1 => ?_)
  · exact X_throw (k := 1) (j := 15) (tx := "no such candidate") (by decide) rfl rfl dX8_seekCandidate_17 dX8_seekCandidate_20 dX8_seekCandidate_21 dX8_seekCandidate_23 dX8_seekCandidate_26 rfl (Nat.le_of_ble_eq_true rfl) ha hb (k1 c1)
  · refine X_iload_n dX8_seekCandidate_4 rfl rfl ?_
    refine X_aload_n dX8_seekCandidate_5 rfl rfl ?_
    refine X_getI dX8_seekCandidate_6 fl_8_150 (by decide) h1 ?_
    refine X_icmp_ge (tgt := 17) dX8_seekCandidate_9 (by decide) (fun c2 => ?_) (fun c2 => ?_)
    · exact X_throw (k := 1) (j := 15) (tx := "no such candidate") (by decide) rfl rfl dX8_seekCandidate_17 dX8_seekCandidate_20 dX8_seekCandidate_21 dX8_seekCandidate_23 dX8_seekCandidate_26 rfl (Nat.le_of_ble_eq_true rfl) ha hb (k2 c1 c2)
    · refine X_iload_n dX8_seekCandidate_12 rfl rfl ?_
      refine Y_iconst dX8_seekCandidate_13 (by unfold i32; omega) ?_
      refine X_icmp_lt (tgt := 27) dX8_seekCandidate_14 (by decide) (fun c3 => ?_) (fun c3 => ?_)
      · exact X_vret dX8_seekCandidate_27 rfl (k3 c1 c2 c3)
      · exact X_throw (k := 1) (j := 15) (tx := "no such candidate") (by decide) rfl rfl dX8_seekCandidate_17 dX8_seekCandidate_20 dX8_seekCandidate_21 dX8_seekCandidate_23 dX8_seekCandidate_26 rfl (Nat.le_of_ble_eq_true rfl) ha hb (k4 c1 c2 c3)

theorem s8_seekBallot_0 {G : am_G} {dp a b : Nat} {m : am_M} {Q : am_Q} {i1 : Int} {r0 p1 : Nat} (ha : 1 ≤ a) (hb : 6 ≤ b) (h1 : am_ob m r0 7) (h2 : m.2.1 r0 4 = some p1) (h3 : am_ob m p1 3) (k1 : (i1 < 0) → Q (.inr 1) (am_nx m)) (k2 : ¬ (i1 < 0) → ((m.1 p1 3) ≤ i1) → Q (.inr 1) (am_nx m)) (k3 : ¬ (i1 < 0) → ¬ ((m.1 p1 3) ≤ i1) → (i1 < 200) → Q (.inl none) m) (k4 : ¬ (i1 < 0) → ¬ ((m.1 p1 3) ≤ i1) → ¬ (i1 < 200) → Q (.inr 1) (am_nx m))  : X G dp a b M8_seekBallot 0 [some (rV (some r0)), some (iV (i1))] [] m Q := by
  refine X_iload_n dX8_seekBallot_0 rfl rfl ?_
  refine X_if_lt (tgt := 22) dX8_seekBallot_1 (by decide) (fun c1 => ?_) (fun c1 => ?_)
  · exact X_throw (k := 1) (j := 18) (tx := "no such ballot") (by decide) rfl rfl dX8_seekBallot_22 dX8_seekBallot_25 dX8_seekBallot_26 dX8_seekBallot_28 dX8_seekBallot_31 rfl (Nat.le_of_ble_eq_true rfl) ha hb (k1 c1)
  · refine X_iload_n dX8_seekBallot_4 rfl rfl ?_
    refine X_aload_n dX8_seekBallot_5 rfl rfl ?_
    refine X_getP dX8_seekBallot_6 fl_8_30 rfl h1 ?_
    refine am_ptr h2 ?_
    refine X_getI dX8_seekBallot_9 fl_8_107 (by decide) h3 ?_
    refine X_icmp_ge (tgt := 22) dX8_seekBallot_12 (by decide) (fun c2 => ?_) (fun c2 => ?_)
    · exact X_throw (k := 1) (j := 18) (tx := "no such ballot") (by decide) rfl rfl dX8_seekBallot_22 dX8_seekBallot_25 dX8_seekBallot_26 dX8_seekBallot_28 dX8_seekBallot_31 rfl (Nat.le_of_ble_eq_true rfl) ha hb (k2 c1 c2)
    · refine X_iload_n dX8_seekBallot_15 rfl rfl ?_
      refine Y_sipush dX8_seekBallot_16 (by omega) ?_
      refine X_icmp_lt (tgt := 32) dX8_seekBallot_19 (by decide) (fun c3 => ?_) (fun c3 => ?_)
      · exact X_vret dX8_seekBallot_32 rfl (k3 c1 c2 c3)
      · exact X_throw (k := 1) (j := 18) (tx := "no such ballot") (by decide) rfl rfl dX8_seekBallot_22 dX8_seekBallot_25 dX8_seekBallot_26 dX8_seekBallot_28 dX8_seekBallot_31 rfl (Nat.le_of_ble_eq_true rfl) ha hb (k4 c1 c2 c3)

theorem s8_risk_0 {G : am_G} {dp a b : Nat} {m : am_M} {Q : am_Q} {i1 : Int} {r0 : Nat} (hdp : 1 ≤ dp) (ha : 1 ≤ a) (hb : 6 ≤ b) (h1 : am_ob m r0 7) (k1 : ∀ Q' : am_Q, (∀ (z : Nat) (m' : am_M), X G dp (a - 1) (b - 6) M8_risk 5 [some (rV (some r0)), some (iV (i1))] [rV (some z)] m' Q → Q' (.inl (some (rV (some z)))) m') → (∀ (k : Nat) (m' : am_M), Q (.inr k) m' → Q' (.inr k) m') → T G (dp - 1) 1 6 M8_contestOf [rV (some r0), iV (i1)] m Q')  : X G dp a b M8_risk 0 [some (rV (some r0)), some (iV (i1))] [] m Q := by
  refine X_aload_n dX8_risk_0 rfl rfl ?_
  refine X_iload_n dX8_risk_1 rfl rfl ?_
  exact X_callV (As := [iV (i1)]) (rest := []) (a' := 1) (b' := 6) dX8_risk_2 t8_contestOf ml_8_146 h1 rfl rfl (Nat.le_of_ble_eq_true rfl) rfl hdp ha hb (k1 _ (fun z m' h => h) (fun _ _ h => h))

theorem s8_risk_5 {G : am_G} {dp a b : Nat} {m : am_M} {Q : am_Q} {i1 : Int} {r0 r90 p1 : Nat} (hdp : 1 ≤ dp) (h1 : am_ob m r0 7) (h2 : m.2.1 r0 6 = some p1) (h3 : am_ob m p1 1) (k1 : ∀ Q' : am_Q, (∀ (z : Int) (m' : am_M), X G dp a b M8_risk 14 [some (rV (some r0)), some (iV (i1))] [lV (z)] m' Q → Q' (.inl (some (lV (z)))) m') → T G (dp - 1) 0 0 M1_latestRisk [rV (some p1), iV (i1)] m Q')  : X G dp a b M8_risk 5 [some (rV (some r0)), some (iV (i1))] [rV (some r90)] m Q := by
  refine X_pop dX8_risk_5 rfl ?_
  refine X_aload_n dX8_risk_6 rfl rfl ?_
  refine X_getP dX8_risk_7 fl_8_40 rfl h1 ?_
  refine am_ptr h2 ?_
  refine X_iload_n dX8_risk_10 rfl rfl ?_
  exact X_callV (As := [iV (i1)]) (rest := []) (a' := 0) (b' := 0) dX8_risk_11 t1_latestRisk ml_8_190 h3 rfl rfl (Nat.le_of_ble_eq_true rfl) rfl hdp (Nat.zero_le _) (Nat.zero_le _) (k1 _ (fun z m' h => h))

theorem s8_risk_14 {G : am_G} {dp a b : Nat} {m : am_M} {Q : am_Q} {i1 l90 : Int} {r0 : Nat}  (k1 : Q (.inl (some (lV (l90)))) m)  : X G dp a b M8_risk 14 [some (rV (some r0)), some (iV (i1))] [lV (l90)] m Q := by
  exact X_lret dX8_risk_14 rfl k1

theorem s8_riskOf_0 {G : am_G} {dp a b : Nat} {m : am_M} {Q : am_Q} {i1 i2 : Int} {r0 : Nat} {o3 : Option am_V} (hdp : 1 ≤ dp) (ha : 1 ≤ a) (hb : 6 ≤ b) (h1 : am_ob m r0 7) (k1 : ∀ Q' : am_Q, (∀ (z : Nat) (m' : am_M), X G dp (a - 1) (b - 6) M8_riskOf 5 [some (rV (some r0)), some (iV (i1)), some (iV (i2)), o3] [rV (some z)] m' Q → Q' (.inl (some (rV (some z)))) m') → (∀ (k : Nat) (m' : am_M), Q (.inr k) m' → Q' (.inr k) m') → T G (dp - 1) 1 6 M8_contestOf [rV (some r0), iV (i1)] m Q')  : X G dp a b M8_riskOf 0 [some (rV (some r0)), some (iV (i1)), some (iV (i2)), o3] [] m Q := by
  refine X_aload_n dX8_riskOf_0 rfl rfl ?_
  refine X_iload_n dX8_riskOf_1 rfl rfl ?_
  exact X_callV (As := [iV (i1)]) (rest := []) (a' := 1) (b' := 6) dX8_riskOf_2 t8_contestOf ml_8_146 h1 rfl rfl (Nat.le_of_ble_eq_true rfl) rfl hdp ha hb (k1 _ (fun z m' h => h) (fun _ _ h => h))

theorem s8_riskOf_5 {G : am_G} {dp a b : Nat} {m : am_M} {Q : am_Q} {i1 i2 : Int} {r0 r90 : Nat} {o3 : Option am_V} (hdp : 1 ≤ dp) (ha : 1 ≤ a) (hb : 6 ≤ b) (h1 : am_ob m r0 7) (k1 : ∀ Q' : am_Q, (∀ (m' : am_M), X G dp (a - 1) (b - 6) M8_riskOf 12 [some (rV (some r0)), some (iV (i1)), some (iV (i2)), some (rV (some r90))] [] m' Q → Q' (.inl none) m') → (∀ (k : Nat) (m' : am_M), Q (.inr k) m' → Q' (.inr k) m') → T G (dp - 1) 1 6 M8_seekCandidate [rV (some r0), rV (some r90), iV (i2)] m Q')  : X G dp a b M8_riskOf 5 [some (rV (some r0)), some (iV (i1)), some (iV (i2)), o3] [rV (some r90)] m Q := by
  refine X_astore_n dX8_riskOf_5 rfl (Nat.le_of_ble_eq_true rfl) ?_
  refine X_aload_n dX8_riskOf_6 rfl rfl ?_
  refine X_aload_n dX8_riskOf_7 rfl rfl ?_
  refine X_iload_n dX8_riskOf_8 rfl rfl ?_
  exact X_callV (As := [rV (some r90), iV (i2)]) (rest := []) (a' := 1) (b' := 6) dX8_riskOf_9 t8_seekCandidate ml_8_194 h1 rfl rfl (Nat.le_of_ble_eq_true rfl) rfl hdp ha hb (k1 _ (fun m' h => h) (fun _ _ h => h))

theorem s8_riskOf_12 {G : am_G} {dp a b : Nat} {m : am_M} {Q : am_Q} {i1 i2 : Int} {r0 r3 p1 p2 p3 p4 : Nat} {t_p2 n_p2 n_p3 : Nat} (hdp : 1 ≤ dp) (h1 : am_ob m r3 2) (h2 : am_ob m r0 7) (h3 : m.2.1 r0 6 = some p1) (h4 : am_ob m p1 1) (h5 : m.2.1 p1 0 = some p2) (h6 : t_p2 = 103 ∨ t_p2 = 104) (h7 : am_ar m p2 t_p2 n_p2) (h10 : ¬ (i2 = (m.1 r3 7)) → ¬ ((m.1 r3 6) = 0) → m.2.1 p2 (i1).toNat = some p3) (h11 : ¬ (i2 = (m.1 r3 7)) → ¬ ((m.1 r3 6) = 0) → am_ar m p3 101 n_p3) (h14 : m.2.1 r0 6 = some p4) (h15 : am_ob m p4 1) (k1 : ¬ (i2 = (m.1 r3 7)) → ¬ ((m.1 r3 6) = 0) → Q (.inl (some (lV (m.1 p3 (i2).toNat)))) m) (k2 : ¬ (i2 = (m.1 r3 7)) → ((m.1 r3 6) = 0) → ∀ Q' : am_Q, (∀ (z : Int) (m' : am_M), X G dp a b M8_riskOf 37 [some (rV (some r0)), some (iV (i1)), some (iV (i2)), some (rV (some r3))] [lV (z)] m' Q → Q' (.inl (some (lV (z)))) m') → T G (dp - 1) 0 0 M1_latestRisk [rV (some p4), iV (i1)] m Q') (k3 : (i2 = (m.1 r3 7)) → Q (.inl (some (lV (0)))) m) (h8 : ¬ (i2 = (m.1 r3 7)) → ¬ ((m.1 r3 6) = 0) → 0 ≤ i1 := by intros; first | omega | (dsimp only at *; omega)) (h9 : ¬ (i2 = (m.1 r3 7)) → ¬ ((m.1 r3 6) = 0) → i1 < (n_p2 : Int) := by intros; first | omega | (dsimp only at *; omega)) (h12 : ¬ (i2 = (m.1 r3 7)) → ¬ ((m.1 r3 6) = 0) → 0 ≤ i2 := by intros; first | omega | (dsimp only at *; omega)) (h13 : ¬ (i2 = (m.1 r3 7)) → ¬ ((m.1 r3 6) = 0) → i2 < (n_p3 : Int) := by intros; first | omega | (dsimp only at *; omega)) : X G dp a b M8_riskOf 12 [some (rV (some r0)), some (iV (i1)), some (iV (i2)), some (rV (some r3))] [] m Q := by
  refine X_iload_n dX8_riskOf_12 rfl rfl ?_
  refine X_aload_n dX8_riskOf_13 rfl rfl ?_
  refine X_getI dX8_riskOf_14 fl_8_158 (by decide) h1 ?_
  refine X_icmp_ne (tgt := 22) dX8_riskOf_17 (by decide) (fun c1 => ?_) (fun c1 => ?_)
  · refine X_aload_n dX8_riskOf_22 rfl rfl ?_
    refine X_getI dX8_riskOf_23 fl_8_155 (by decide) h1 ?_
    refine X_if_ne (tgt := 40) dX8_riskOf_26 (by decide) (fun c2 => ?_) (fun c2 => ?_)
    · refine X_aload_n dX8_riskOf_40 rfl rfl ?_
      refine X_getP dX8_riskOf_41 fl_8_40 rfl h2 ?_
      refine am_ptr h3 ?_
      refine X_getP dX8_riskOf_44 fl_8_198 rfl h4 ?_
      refine am_ptr h5 ?_
      refine X_iload_n dX8_riskOf_47 rfl rfl ?_
      refine X_aald dX8_riskOf_48 h6 h7 (h8 c1 c2) (h9 c1 c2) ?_
      refine am_ptr (h10 c1 c2) ?_
      refine X_iload_n dX8_riskOf_49 rfl rfl ?_
      refine X_lald dX8_riskOf_50 (h11 c1 c2) (h12 c1 c2) (h13 c1 c2) ?_
      exact X_lret dX8_riskOf_51 rfl (k1 c1 c2)
    · refine X_aload_n dX8_riskOf_29 rfl rfl ?_
      refine X_getP dX8_riskOf_30 fl_8_40 rfl h2 ?_
      refine am_ptr h14 ?_
      refine X_iload_n dX8_riskOf_33 rfl rfl ?_
      exact X_callV (As := [iV (i1)]) (rest := []) (a' := 0) (b' := 0) dX8_riskOf_34 t1_latestRisk ml_8_190 h15 rfl rfl (Nat.le_of_ble_eq_true rfl) rfl hdp (Nat.zero_le _) (Nat.zero_le _) ((k2 c1 c2) _ (fun z m' h => h))
  · refine Y_lconst0 dX8_riskOf_20 ?_
    exact X_lret dX8_riskOf_21 rfl (k3 c1)

theorem s8_riskOf_37 {G : am_G} {dp a b : Nat} {m : am_M} {Q : am_Q} {i1 i2 l90 : Int} {r0 r3 : Nat}  (k1 : Q (.inl (some (lV (l90)))) m)  : X G dp a b M8_riskOf 37 [some (rV (some r0)), some (iV (i1)), some (iV (i2)), some (rV (some r3))] [lV (l90)] m Q := by
  refine X_goto (tgt := 51) dX8_riskOf_37 (by decide) ?_
  exact X_lret dX8_riskOf_51 rfl k1

theorem s8_worst_0 {G : am_G} {dp a b : Nat} {m : am_M} {Q : am_Q} {i1 : Int} {r0 : Nat} {o2 o3 o4 o5 o6 o7 : Option am_V} (hdp : 1 ≤ dp) (ha : 1 ≤ a) (hb : 6 ≤ b) (h1 : am_ob m r0 7) (k1 : ∀ Q' : am_Q, (∀ (z : Nat) (m' : am_M), X G dp (a - 1) (b - 6) M8_worst 5 [some (rV (some r0)), some (iV (i1)), o2, o3, o4, o5, o6, o7] [rV (some z)] m' Q → Q' (.inl (some (rV (some z)))) m') → (∀ (k : Nat) (m' : am_M), Q (.inr k) m' → Q' (.inr k) m') → T G (dp - 1) 1 6 M8_contestOf [rV (some r0), iV (i1)] m Q')  : X G dp a b M8_worst 0 [some (rV (some r0)), some (iV (i1)), o2, o3, o4, o5, o6, o7] [] m Q := by
  refine X_aload_n dX8_worst_0 rfl rfl ?_
  refine X_iload_n dX8_worst_1 rfl rfl ?_
  exact X_callV (As := [iV (i1)]) (rest := []) (a' := 1) (b' := 6) dX8_worst_2 t8_contestOf ml_8_146 h1 rfl rfl (Nat.le_of_ble_eq_true rfl) rfl hdp ha hb (k1 _ (fun z m' h => h) (fun _ _ h => h))

theorem s8_worst_5 {G : am_G} {dp a b : Nat} {m : am_M} {Q : am_Q} {i1 : Int} {r0 r90 : Nat} {o2 o3 o4 o5 o6 o7 : Option am_V}  (k1 : X G dp a b M8_worst 13 [some (rV (some r0)), some (iV (i1)), some (iV ((-1))), some (lV (0)), none, some (iV (0)), o6, o7] [] m Q)  : X G dp a b M8_worst 5 [some (rV (some r0)), some (iV (i1)), o2, o3, o4, o5, o6, o7] [rV (some r90)] m Q := by
  refine X_pop dX8_worst_5 rfl ?_
  refine Y_iconst dX8_worst_6 (by unfold i32; omega) ?_
  refine X_istore_n dX8_worst_7 rfl (Nat.le_of_ble_eq_true rfl) ?_
  refine Y_lconst0 dX8_worst_8 ?_
  refine X_lstore_n dX8_worst_9 rfl (Nat.le_of_ble_eq_true rfl) ?_
  refine Y_iconst dX8_worst_10 (by unfold i32; omega) ?_
  refine X_istore dX8_worst_11 (Nat.le_of_ble_eq_true rfl) ?_
  exact k1

theorem s8_worst_13 {G : am_G} {dp a b : Nat} {m : am_M} {Q : am_Q} {i1 i2 i5 l3 : Int} {r0 p1 p2 : Nat} {o6 o7 : Option am_V} (hdp : 1 ≤ dp) (h1 : am_ob m r0 7) (h2 : m.2.1 r0 4 = some p1) (h3 : am_ob m p1 3) (h4 : m.2.1 r0 6 = some p2) (h5 : am_ob m p2 1) (k1 : ((m.1 p1 3) ≤ i5) → Q (.inl (some (iV (i2)))) m) (k2 : ¬ ((m.1 p1 3) ≤ i5) → (200 ≤ i5) → Q (.inl (some (iV (i2)))) m) (k3 : ¬ ((m.1 p1 3) ≤ i5) → ¬ (200 ≤ i5) → ∀ Q' : am_Q, (∀ (z : Int) (m' : am_M), X G dp a b M8_worst 47 [some (rV (some r0)), some (iV (i1)), some (iV (i2)), some (lV (l3)), none, some (iV (i5)), o6, o7] [lV (z)] m' Q → Q' (.inl (some (lV (z)))) m') → T G (dp - 1) 0 0 M1_riskWith [rV (some p2), rV (some p1), iV (i1), iV (i5)] m Q')  : X G dp a b M8_worst 13 [some (rV (some r0)), some (iV (i1)), some (iV (i2)), some (lV (l3)), none, some (iV (i5)), o6, o7] [] m Q := by
  refine X_iload dX8_worst_13 rfl ?_
  refine X_aload_n dX8_worst_15 rfl rfl ?_
  refine X_getP dX8_worst_16 fl_8_30 rfl h1 ?_
  refine am_ptr h2 ?_
  refine X_getI dX8_worst_19 fl_8_107 (by decide) h3 ?_
  refine X_icmp_ge (tgt := 68) dX8_worst_22 (by decide) (fun c1 => ?_) (fun c1 => ?_)
  · refine X_iload_n dX8_worst_68 rfl rfl ?_
    exact X_iret dX8_worst_69 rfl (k1 c1)
  · refine X_iload dX8_worst_25 rfl ?_
    refine Y_sipush dX8_worst_27 (by omega) ?_
    refine X_icmp_ge (tgt := 68) dX8_worst_30 (by decide) (fun c2 => ?_) (fun c2 => ?_)
    · refine X_iload_n dX8_worst_68 rfl rfl ?_
      exact X_iret dX8_worst_69 rfl (k2 c1 c2)
    · refine X_aload_n dX8_worst_33 rfl rfl ?_
      refine X_getP dX8_worst_34 fl_8_40 rfl h1 ?_
      refine am_ptr h4 ?_
      refine X_aload_n dX8_worst_37 rfl rfl ?_
      refine X_getP dX8_worst_38 fl_8_30 rfl h1 ?_
      refine am_ptr h2 ?_
      refine X_iload_n dX8_worst_41 rfl rfl ?_
      refine X_iload dX8_worst_42 rfl ?_
      exact X_callV (As := [rV (some p1), iV (i1), iV (i5)]) (rest := []) (a' := 0) (b' := 0) dX8_worst_44 t1_riskWith ml_8_202 h5 rfl rfl (Nat.le_of_ble_eq_true rfl) rfl hdp (Nat.zero_le _) (Nat.zero_le _) ((k3 c1 c2) _ (fun z m' h => h))

theorem s8_worst_47 {G : am_G} {dp a b : Nat} {m : am_M} {Q : am_Q} {i1 i2 i5 l3 l90 : Int} {r0 : Nat} {o6 o7 : Option am_V}  (k1 : ((lc l90 l3) ≤ 0) → X G dp a b M8_worst 13 [some (rV (some r0)), some (iV (i1)), some (iV (i2)), some (lV (l3)), none, some (iV (wr (i5 + 1))), some (lV (l90)), none] [] m Q) (k2 : ¬ ((lc l90 l3) ≤ 0) → X G dp a b M8_worst 13 [some (rV (some r0)), some (iV (i1)), some (iV (i5)), some (lV (l90)), none, some (iV (wr (i5 + 1))), some (lV (l90)), none] [] m Q)  : X G dp a b M8_worst 47 [some (rV (some r0)), some (iV (i1)), some (iV (i2)), some (lV (l3)), none, some (iV (i5)), o6, o7] [lV (l90)] m Q := by
  refine X_lstore dX8_worst_47 (Nat.le_of_ble_eq_true rfl) ?_
  refine X_lload dX8_worst_49 rfl ?_
  refine X_lload_n dX8_worst_51 rfl rfl ?_
  refine X_lcmp dX8_worst_52 ?_
  refine X_if_le (tgt := 62) dX8_worst_53 (by decide) (fun c1 => ?_) (fun c1 => ?_)
  · refine X_iinc dX8_worst_62 rfl ?_
    refine X_goto (tgt := 13) dX8_worst_65 (by decide) ?_
    exact (k1 c1)
  · refine X_lload dX8_worst_56 rfl ?_
    refine X_lstore_n dX8_worst_58 rfl (Nat.le_of_ble_eq_true rfl) ?_
    refine X_iload dX8_worst_59 rfl ?_
    refine X_istore_n dX8_worst_61 rfl (Nat.le_of_ble_eq_true rfl) ?_
    refine X_iinc dX8_worst_62 rfl ?_
    refine X_goto (tgt := 13) dX8_worst_65 (by decide) ?_
    exact (k2 c1)

theorem s8_chance_0 {G : am_G} {dp a b : Nat} {m : am_M} {Q : am_Q} {i1 i2 : Int} {r0 : Nat} {o3 o4 o5 o6 o7 : Option am_V} (hdp : 1 ≤ dp) (ha : 1 ≤ a) (hb : 6 ≤ b) (h1 : am_ob m r0 7) (k1 : ∀ Q' : am_Q, (∀ (z : Nat) (m' : am_M), X G dp (a - 1) (b - 6) M8_chance 5 [some (rV (some r0)), some (iV (i1)), some (iV (i2)), o3, o4, o5, o6, o7] [rV (some z)] m' Q → Q' (.inl (some (rV (some z)))) m') → (∀ (k : Nat) (m' : am_M), Q (.inr k) m' → Q' (.inr k) m') → T G (dp - 1) 1 6 M8_contestOf [rV (some r0), iV (i1)] m Q')  : X G dp a b M8_chance 0 [some (rV (some r0)), some (iV (i1)), some (iV (i2)), o3, o4, o5, o6, o7] [] m Q := by
  refine X_aload_n dX8_chance_0 rfl rfl ?_
  refine X_iload_n dX8_chance_1 rfl rfl ?_
  exact X_callV (As := [iV (i1)]) (rest := []) (a' := 1) (b' := 6) dX8_chance_2 t8_contestOf ml_8_146 h1 rfl rfl (Nat.le_of_ble_eq_true rfl) rfl hdp ha hb (k1 _ (fun z m' h => h) (fun _ _ h => h))

theorem s8_chance_5 {G : am_G} {dp a b : Nat} {m : am_M} {Q : am_Q} {i1 i2 : Int} {r0 r90 p1 : Nat} {o3 o4 o5 o6 o7 : Option am_V} (hdp : 1 ≤ dp) (ha : 1 ≤ a) (hb : 6 ≤ b) (h1 : am_ob m r0 7) (h2 : m.2.1 r0 4 = some p1) (h3 : am_ob m p1 3) (h4 : am_ob m r90 2) (k1 : (i2 < 0) → Q (.inr 0) (am_nx m)) (k2 : ¬ (i2 < 0) → (i2 ≤ 300) → ∀ Q' : am_Q, (∀ (z : Int) (m' : am_M), X G dp a b M8_chance 45 [some (rV (some r0)), some (iV (i1)), some (iV (i2)), some (rV (some r90)), o4, o5, o6, o7] [iV (z), iV (m.1 p1 3)] m' Q → Q' (.inl (some (iV (z)))) m') → T G (dp - 1) 0 0 M2_mistaken [rV (some r90), iV (m.1 p1 3)] m Q') (k3 : ¬ (i2 < 0) → ¬ (i2 ≤ 300) → Q (.inr 0) (am_nx m))  : X G dp a b M8_chance 5 [some (rV (some r0)), some (iV (i1)), some (iV (i2)), o3, o4, o5, o6, o7] [rV (some r90)] m Q := by
  refine X_astore_n dX8_chance_5 rfl (Nat.le_of_ble_eq_true rfl) ?_
  refine X_iload_n dX8_chance_6 rfl rfl ?_
  refine X_if_lt (tgt := 17) dX8_chance_7 (by decide) (fun c1 => ?_) (fun c1 => ?_)
  · exact X_throw (k := 0) (j := 16) (tx := "no such number of draws") (by decide) rfl rfl dX8_chance_17 dX8_chance_20 dX8_chance_21 dX8_chance_23 dX8_chance_26 rfl (Nat.le_of_ble_eq_true rfl) ha hb (k1 c1)
  · refine X_iload_n dX8_chance_10 rfl rfl ?_
    refine Y_sipush dX8_chance_11 (by omega) ?_
    refine X_icmp_le (tgt := 27) dX8_chance_14 (by decide) (fun c2 => ?_) (fun c2 => ?_)
    · refine X_aload_n dX8_chance_27 rfl rfl ?_
      refine X_getP dX8_chance_28 fl_8_30 rfl h1 ?_
      refine am_ptr h2 ?_
      refine X_getI dX8_chance_31 fl_8_107 (by decide) h3 ?_
      refine X_aload_n dX8_chance_34 rfl rfl ?_
      refine X_aload_n dX8_chance_35 rfl rfl ?_
      refine X_getP dX8_chance_36 fl_8_30 rfl h1 ?_
      refine am_ptr h2 ?_
      refine X_getI dX8_chance_39 fl_8_107 (by decide) h3 ?_
      exact X_callV (As := [iV (m.1 p1 3)]) (rest := [iV (m.1 p1 3)]) (a' := 0) (b' := 0) dX8_chance_42 t2_mistaken ml_8_208 h4 rfl rfl (Nat.le_of_ble_eq_true rfl) rfl hdp (Nat.zero_le _) (Nat.zero_le _) ((k2 c1 c2) _ (fun z m' h => h))
    · exact X_throw (k := 0) (j := 16) (tx := "no such number of draws") (by decide) rfl rfl dX8_chance_17 dX8_chance_20 dX8_chance_21 dX8_chance_23 dX8_chance_26 rfl (Nat.le_of_ble_eq_true rfl) ha hb (k3 c1 c2)

theorem s8_chance_45 {G : am_G} {dp a b : Nat} {m : am_M} {Q : am_Q} {i1 i2 i90 i91 : Int} {r0 r3 : Nat} {o4 o5 o6 o7 : Option am_V}  (k1 : X G dp a b M8_chance 56 [some (rV (some r0)), some (iV (i1)), some (iV (i2)), some (rV (some r3)), some (iV (wr (i91 - i90))), some (lV (1000000000)), none, some (iV (0))] [] m Q)  : X G dp a b M8_chance 45 [some (rV (some r0)), some (iV (i1)), some (iV (i2)), some (rV (some r3)), o4, o5, o6, o7] [iV (i90), iV (i91)] m Q := by
  refine X_isub dX8_chance_45  ?_
  refine X_istore dX8_chance_46 (Nat.le_of_ble_eq_true rfl) ?_
  refine X_ldc2 dX8_chance_48 kc_8_212 (by unfold i64; omega) ?_
  refine X_lstore dX8_chance_51 (Nat.le_of_ble_eq_true rfl) ?_
  refine Y_iconst dX8_chance_53 (by unfold i32; omega) ?_
  refine X_istore dX8_chance_54 (Nat.le_of_ble_eq_true rfl) ?_
  exact k1

theorem s8_chance_56 {G : am_G} {dp a b : Nat} {m : am_M} {Q : am_Q} {i1 i2 i4 i7 l5 : Int} {r0 r3 : Nat} (hdp : 1 ≤ dp) (h1 : am_ob m r0 7) (k1 : (i2 ≤ i7) → Q (.inl (some (lV (l5)))) m) (k2 : ¬ (i2 ≤ i7) → ∀ Q' : am_Q, (∀ (z : Int) (m' : am_M), X G dp a b M8_chance 70 [some (rV (some r0)), some (iV (i1)), some (iV (i2)), some (rV (some r3)), some (iV (i4)), some (lV (l5)), none, some (iV (i7))] [lV (z)] m' Q → Q' (.inl (some (lV (z)))) m') → T G (dp - 1) 0 0 M8_rarer [rV (some r0), lV (l5), iV (i4)] m Q')  : X G dp a b M8_chance 56 [some (rV (some r0)), some (iV (i1)), some (iV (i2)), some (rV (some r3)), some (iV (i4)), some (lV (l5)), none, some (iV (i7))] [] m Q := by
  refine X_iload dX8_chance_56 rfl ?_
  refine X_iload_n dX8_chance_58 rfl rfl ?_
  refine X_icmp_ge (tgt := 78) dX8_chance_59 (by decide) (fun c1 => ?_) (fun c1 => ?_)
  · refine X_lload dX8_chance_78 rfl ?_
    exact X_lret dX8_chance_80 rfl (k1 c1)
  · refine X_aload_n dX8_chance_62 rfl rfl ?_
    refine X_lload dX8_chance_63 rfl ?_
    refine X_iload dX8_chance_65 rfl ?_
    exact X_callV (As := [lV (l5), iV (i4)]) (rest := []) (a' := 0) (b' := 0) dX8_chance_67 t8_rarer ml_8_214 h1 rfl rfl (Nat.le_of_ble_eq_true rfl) rfl hdp (Nat.zero_le _) (Nat.zero_le _) ((k2 c1) _ (fun z m' h => h))

theorem s8_chance_70 {G : am_G} {dp a b : Nat} {m : am_M} {Q : am_Q} {i1 i2 i4 i7 l5 l90 : Int} {r0 r3 : Nat}  (k1 : X G dp a b M8_chance 56 [some (rV (some r0)), some (iV (i1)), some (iV (i2)), some (rV (some r3)), some (iV (i4)), some (lV (l90)), none, some (iV (wr (i7 + 1)))] [] m Q)  : X G dp a b M8_chance 70 [some (rV (some r0)), some (iV (i1)), some (iV (i2)), some (rV (some r3)), some (iV (i4)), some (lV (l5)), none, some (iV (i7))] [lV (l90)] m Q := by
  refine X_lstore dX8_chance_70 (Nat.le_of_ble_eq_true rfl) ?_
  refine X_iinc dX8_chance_72 rfl ?_
  refine X_goto (tgt := 56) dX8_chance_75 (by decide) ?_
  exact k1

theorem s8_enough_0 {G : am_G} {dp a b : Nat} {m : am_M} {Q : am_Q} {i1 : Int} {r0 : Nat} {o2 o3 o4 o5 o6 o7 o8 o9 o10 : Option am_V} (hdp : 1 ≤ dp) (ha : 1 ≤ a) (hb : 6 ≤ b) (h1 : am_ob m r0 7) (k1 : ∀ Q' : am_Q, (∀ (z : Nat) (m' : am_M), X G dp (a - 1) (b - 6) M8_enough 5 [some (rV (some r0)), some (iV (i1)), o2, o3, o4, o5, o6, o7, o8, o9, o10] [rV (some z)] m' Q → Q' (.inl (some (rV (some z)))) m') → (∀ (k : Nat) (m' : am_M), Q (.inr k) m' → Q' (.inr k) m') → T G (dp - 1) 1 6 M8_contestOf [rV (some r0), iV (i1)] m Q')  : X G dp a b M8_enough 0 [some (rV (some r0)), some (iV (i1)), o2, o3, o4, o5, o6, o7, o8, o9, o10] [] m Q := by
  refine X_aload_n dX8_enough_0 rfl rfl ?_
  refine X_iload_n dX8_enough_1 rfl rfl ?_
  exact X_callV (As := [iV (i1)]) (rest := []) (a' := 1) (b' := 6) dX8_enough_2 t8_contestOf ml_8_146 h1 rfl rfl (Nat.le_of_ble_eq_true rfl) rfl hdp ha hb (k1 _ (fun z m' h => h) (fun _ _ h => h))

theorem s8_enough_5 {G : am_G} {dp a b : Nat} {m : am_M} {Q : am_Q} {i1 : Int} {r0 r90 p1 : Nat} {o2 o3 o4 o5 o6 o7 o8 o9 o10 : Option am_V} (hdp : 1 ≤ dp) (h1 : am_ob m r0 7) (h2 : m.2.1 r0 4 = some p1) (h3 : am_ob m p1 3) (h4 : am_ob m r90 2) (k1 : ∀ Q' : am_Q, (∀ (z : Int) (m' : am_M), X G dp a b M8_enough 24 [some (rV (some r0)), some (iV (i1)), some (rV (some r90)), o3, o4, o5, o6, o7, o8, o9, o10] [iV (z), iV (m.1 p1 3)] m' Q → Q' (.inl (some (iV (z)))) m') → T G (dp - 1) 0 0 M2_mistaken [rV (some r90), iV (m.1 p1 3)] m Q')  : X G dp a b M8_enough 5 [some (rV (some r0)), some (iV (i1)), o2, o3, o4, o5, o6, o7, o8, o9, o10] [rV (some r90)] m Q := by
  refine X_astore_n dX8_enough_5 rfl (Nat.le_of_ble_eq_true rfl) ?_
  refine X_aload_n dX8_enough_6 rfl rfl ?_
  refine X_getP dX8_enough_7 fl_8_30 rfl h1 ?_
  refine am_ptr h2 ?_
  refine X_getI dX8_enough_10 fl_8_107 (by decide) h3 ?_
  refine X_aload_n dX8_enough_13 rfl rfl ?_
  refine X_aload_n dX8_enough_14 rfl rfl ?_
  refine X_getP dX8_enough_15 fl_8_30 rfl h1 ?_
  refine am_ptr h2 ?_
  refine X_getI dX8_enough_18 fl_8_107 (by decide) h3 ?_
  exact X_callV (As := [iV (m.1 p1 3)]) (rest := [iV (m.1 p1 3)]) (a' := 0) (b' := 0) dX8_enough_21 t2_mistaken ml_8_208 h4 rfl rfl (Nat.le_of_ble_eq_true rfl) rfl hdp (Nat.zero_le _) (Nat.zero_le _) (k1 _ (fun z m' h => h))

theorem s8_enough_24 {G : am_G} {dp a b : Nat} {m : am_M} {Q : am_Q} {i1 i90 i91 : Int} {r0 r2 p1 : Nat} {o3 o4 o5 o6 o7 o8 o9 o10 : Option am_V} (hdp : 1 ≤ dp) (h1 : am_ob m r0 7) (h2 : m.2.1 r0 4 = some p1) (h3 : am_ob m p1 3) (k1 : ∀ Q' : am_Q, (∀ (z : Int) (m' : am_M), X G dp a b M8_enough 33 [some (rV (some r0)), some (iV (i1)), some (rV (some r2)), some (iV (wr (i91 - i90))), o4, o5, o6, o7, o8, o9, o10] [lV (z)] m' Q → Q' (.inl (some (lV (z)))) m') → T G (dp - 1) 0 0 M3_goal [rV (some p1)] m Q')  : X G dp a b M8_enough 24 [some (rV (some r0)), some (iV (i1)), some (rV (some r2)), o3, o4, o5, o6, o7, o8, o9, o10] [iV (i90), iV (i91)] m Q := by
  refine X_isub dX8_enough_24  ?_
  refine X_istore_n dX8_enough_25 rfl (Nat.le_of_ble_eq_true rfl) ?_
  refine X_aload_n dX8_enough_26 rfl rfl ?_
  refine X_getP dX8_enough_27 fl_8_30 rfl h1 ?_
  refine am_ptr h2 ?_
  exact X_callV (As := []) (rest := []) (a' := 0) (b' := 0) dX8_enough_30 t3_goal ml_8_218 h3 rfl rfl (Nat.le_of_ble_eq_true rfl) rfl hdp (Nat.zero_le _) (Nat.zero_le _) (k1 _ (fun z m' h => h))

theorem s8_enough_33 {G : am_G} {dp a b : Nat} {m : am_M} {Q : am_Q} {i1 i3 l90 : Int} {r0 r2 : Nat} {o4 o5 o6 o7 o8 o9 o10 : Option am_V}  (k1 : X G dp a b M8_enough 43 [some (rV (some r0)), some (iV (i1)), some (rV (some r2)), some (iV (i3)), some (lV (l90)), none, some (lV (1000000000)), none, some (iV (1)), o9, o10] [] m Q)  : X G dp a b M8_enough 33 [some (rV (some r0)), some (iV (i1)), some (rV (some r2)), some (iV (i3)), o4, o5, o6, o7, o8, o9, o10] [lV (l90)] m Q := by
  refine X_lstore dX8_enough_33 (Nat.le_of_ble_eq_true rfl) ?_
  refine X_ldc2 dX8_enough_35 kc_8_212 (by unfold i64; omega) ?_
  refine X_lstore dX8_enough_38 (Nat.le_of_ble_eq_true rfl) ?_
  refine Y_iconst dX8_enough_40 (by unfold i32; omega) ?_
  refine X_istore dX8_enough_41 (Nat.le_of_ble_eq_true rfl) ?_
  exact k1

theorem s8_enough_43 {G : am_G} {dp a b : Nat} {m : am_M} {Q : am_Q} {i1 i3 i8 l4 l6 : Int} {r0 r2 : Nat} {o9 o10 : Option am_V} (hdp : 1 ≤ dp) (h1 : am_ob m r0 7) (k1 : (5000 < i8) → Q (.inl (some (iV ((-1))))) m) (k2 : ¬ (5000 < i8) → ∀ Q' : am_Q, (∀ (z : Int) (m' : am_M), X G dp a b M8_enough 58 [some (rV (some r0)), some (iV (i1)), some (rV (some r2)), some (iV (i3)), some (lV (l4)), none, some (lV (l6)), none, some (iV (i8)), o9, o10] [lV (z)] m' Q → Q' (.inl (some (lV (z)))) m') → T G (dp - 1) 0 0 M8_rarer [rV (some r0), lV (l6), iV (i3)] m Q')  : X G dp a b M8_enough 43 [some (rV (some r0)), some (iV (i1)), some (rV (some r2)), some (iV (i3)), some (lV (l4)), none, some (lV (l6)), none, some (iV (i8)), o9, o10] [] m Q := by
  refine X_iload dX8_enough_43 rfl ?_
  refine Y_sipush dX8_enough_45 (by omega) ?_
  refine X_icmp_gt (tgt := 91) dX8_enough_48 (by decide) (fun c1 => ?_) (fun c1 => ?_)
  · refine Y_iconst dX8_enough_91 (by unfold i32; omega) ?_
    exact X_iret dX8_enough_92 rfl (k1 c1)
  · refine X_aload_n dX8_enough_51 rfl rfl ?_
    refine X_lload dX8_enough_52 rfl ?_
    refine X_iload_n dX8_enough_54 rfl rfl ?_
    exact X_callV (As := [lV (l6), iV (i3)]) (rest := []) (a' := 0) (b' := 0) dX8_enough_55 t8_rarer ml_8_214 h1 rfl rfl (Nat.le_of_ble_eq_true rfl) rfl hdp (Nat.zero_le _) (Nat.zero_le _) ((k2 c1) _ (fun z m' h => h))

theorem s8_enough_58 {G : am_G} {dp a b : Nat} {m : am_M} {Q : am_Q} {i1 i3 i8 l4 l6 l90 : Int} {r0 r2 : Nat} {o9 o10 : Option am_V}  (k1 : (0 < (lc l90 l4)) → ¬ ((lc l90 l6) = 0) → X G dp a b M8_enough 43 [some (rV (some r0)), some (iV (i1)), some (rV (some r2)), some (iV (i3)), some (lV (l4)), none, some (lV (l90)), none, some (iV (wr (i8 + 1))), some (lV (l90)), none] [] m Q) (k2 : (0 < (lc l90 l4)) → ((lc l90 l6) = 0) → Q (.inl (some (iV ((-1))))) m) (k3 : ¬ (0 < (lc l90 l4)) → Q (.inl (some (iV (i8)))) m)  : X G dp a b M8_enough 58 [some (rV (some r0)), some (iV (i1)), some (rV (some r2)), some (iV (i3)), some (lV (l4)), none, some (lV (l6)), none, some (iV (i8)), o9, o10] [lV (l90)] m Q := by
  refine X_lstore dX8_enough_58 (Nat.le_of_ble_eq_true rfl) ?_
  refine X_lload dX8_enough_60 rfl ?_
  refine X_lload dX8_enough_62 rfl ?_
  refine X_lcmp dX8_enough_64 ?_
  refine X_if_gt (tgt := 71) dX8_enough_65 (by decide) (fun c1 => ?_) (fun c1 => ?_)
  · refine X_lload dX8_enough_71 rfl ?_
    refine X_lload dX8_enough_73 rfl ?_
    refine X_lcmp dX8_enough_75 ?_
    refine X_if_ne (tgt := 81) dX8_enough_76 (by decide) (fun c2 => ?_) (fun c2 => ?_)
    · refine X_lload dX8_enough_81 rfl ?_
      refine X_lstore dX8_enough_83 (Nat.le_of_ble_eq_true rfl) ?_
      refine X_iinc dX8_enough_85 rfl ?_
      refine X_goto (tgt := 43) dX8_enough_88 (by decide) ?_
      exact (k1 c1 c2)
    · refine Y_iconst dX8_enough_79 (by unfold i32; omega) ?_
      exact X_iret dX8_enough_80 rfl (k2 c1 c2)
  · refine X_iload dX8_enough_68 rfl ?_
    exact X_iret dX8_enough_70 rfl (k3 c1)

theorem s8_rarer_0 {G : am_G} {dp a b : Nat} {m : am_M} {Q : am_Q} {i3 l1 : Int} {r0 p1 : Nat} {o4 : Option am_V} (h1 : am_ob m r0 7) (h2 : m.2.1 r0 4 = some p1) (h3 : am_ob m p1 3) (k1 : (0 < (m.1 p1 3)) → Q (.inl (some (lV (wrl (Int.tdiv (wrl ((wrl ((wrl (l1 * i3)) + (m.1 p1 3))) - 1)) (m.1 p1 3)))))) m) (k2 : ¬ (0 < (m.1 p1 3)) → Q (.inl (some (lV (l1)))) m) (h4 : 0 < (m.1 p1 3) → (m.1 p1 3) ≠ 0 := by intros; first | omega | (dsimp only at *; omega)) : X G dp a b M8_rarer 0 [some (rV (some r0)), some (lV (l1)), none, some (iV (i3)), o4] [] m Q := by
  refine X_aload_n dX8_rarer_0 rfl rfl ?_
  refine X_getP dX8_rarer_1 fl_8_30 rfl h1 ?_
  refine am_ptr h2 ?_
  refine X_getI dX8_rarer_4 fl_8_107 (by decide) h3 ?_
  refine X_istore dX8_rarer_7 (Nat.le_of_ble_eq_true rfl) ?_
  refine X_iload dX8_rarer_9 rfl ?_
  refine X_if_gt (tgt := 18) dX8_rarer_11 (by decide) (fun c1 => ?_) (fun c1 => ?_)
  · refine X_lload_n dX8_rarer_18 rfl rfl ?_
    refine X_iload_n dX8_rarer_19 rfl rfl ?_
    refine X_i2l dX8_rarer_20 ?_
    refine X_lmul dX8_rarer_21  ?_
    refine X_iload dX8_rarer_22 rfl ?_
    refine X_i2l dX8_rarer_24 ?_
    refine X_ladd dX8_rarer_25  ?_
    refine Y_lconst1 dX8_rarer_26 ?_
    refine X_lsub dX8_rarer_27  ?_
    refine X_iload dX8_rarer_28 rfl ?_
    refine X_i2l dX8_rarer_30 ?_
    refine X_ldiv dX8_rarer_31 (h4 c1) ?_
    exact X_lret dX8_rarer_32 rfl (k1 c1)
  · refine X_lload_n dX8_rarer_14 rfl rfl ?_
    refine X_goto (tgt := 32) dX8_rarer_15 (by decide) ?_
    exact X_lret dX8_rarer_32 rfl (k2 c1)

theorem s8_flips_0 {G : am_G} {dp a b : Nat} {m : am_M} {Q : am_Q} {i1 i2 : Int} {r0 : Nat} {o3 o4 o5 o6 o7 : Option am_V} (hdp : 1 ≤ dp) (ha : 1 ≤ a) (hb : 6 ≤ b) (h1 : am_ob m r0 7) (k1 : ∀ Q' : am_Q, (∀ (z : Nat) (m' : am_M), X G dp (a - 1) (b - 6) M8_flips 5 [some (rV (some r0)), some (iV (i1)), some (iV (i2)), o3, o4, o5, o6, o7] [rV (some z)] m' Q → Q' (.inl (some (rV (some z)))) m') → (∀ (k : Nat) (m' : am_M), Q (.inr k) m' → Q' (.inr k) m') → T G (dp - 1) 1 6 M8_contestOf [rV (some r0), iV (i1)] m Q')  : X G dp a b M8_flips 0 [some (rV (some r0)), some (iV (i1)), some (iV (i2)), o3, o4, o5, o6, o7] [] m Q := by
  refine X_aload_n dX8_flips_0 rfl rfl ?_
  refine X_iload_n dX8_flips_1 rfl rfl ?_
  exact X_callV (As := [iV (i1)]) (rest := []) (a' := 1) (b' := 6) dX8_flips_2 t8_contestOf ml_8_146 h1 rfl rfl (Nat.le_of_ble_eq_true rfl) rfl hdp ha hb (k1 _ (fun z m' h => h) (fun _ _ h => h))

theorem s8_flips_5 {G : am_G} {dp a b : Nat} {m : am_M} {Q : am_Q} {i1 i2 : Int} {r0 r90 : Nat} {o3 o4 o5 o6 o7 : Option am_V} (ha : 1 ≤ a) (hb : 6 ≤ b)  (k1 : (i2 < 0) → Q (.inr 1) (am_nx m)) (k2 : ¬ (i2 < 0) → (i2 ≤ 1) → X G dp a b M8_flips 34 [some (rV (some r0)), some (iV (i1)), some (iV (i2)), some (rV (some r90)), some (iV ((-1))), some (iV ((-1))), some (iV (0)), o7] [] m Q) (k3 : ¬ (i2 < 0) → ¬ (i2 ≤ 1) → Q (.inr 1) (am_nx m))  : X G dp a b M8_flips 5 [some (rV (some r0)), some (iV (i1)), some (iV (i2)), o3, o4, o5, o6, o7] [rV (some r90)] m Q := by
  refine X_astore_n dX8_flips_5 rfl (Nat.le_of_ble_eq_true rfl) ?_
  refine X_iload_n dX8_flips_6 rfl rfl ?_
  refine X_if_lt (tgt := 15) dX8_flips_7 (by decide) (fun c1 => ?_) (fun c1 => ?_)
  · exact X_throw (k := 1) (j := 17) (tx := "nothing such of flips") (by decide) rfl rfl dX8_flips_15 dX8_flips_18 dX8_flips_19 dX8_flips_21 dX8_flips_24 rfl (Nat.le_of_ble_eq_true rfl) ha hb (k1 c1)
  · refine X_iload_n dX8_flips_10 rfl rfl ?_
    refine Y_iconst dX8_flips_11 (by unfold i32; omega) ?_
    refine X_icmp_le (tgt := 25) dX8_flips_12 (by decide) (fun c2 => ?_) (fun c2 => ?_)
    · refine Y_iconst dX8_flips_25 (by unfold i32; omega) ?_
      refine X_istore dX8_flips_26 (Nat.le_of_ble_eq_true rfl) ?_
      refine Y_iconst dX8_flips_28 (by unfold i32; omega) ?_
      refine X_istore dX8_flips_29 (Nat.le_of_ble_eq_true rfl) ?_
      refine Y_iconst dX8_flips_31 (by unfold i32; omega) ?_
      refine X_istore dX8_flips_32 (Nat.le_of_ble_eq_true rfl) ?_
      exact (k2 c1 c2)
    · exact X_throw (k := 1) (j := 17) (tx := "nothing such of flips") (by decide) rfl rfl dX8_flips_15 dX8_flips_18 dX8_flips_19 dX8_flips_21 dX8_flips_24 rfl (Nat.le_of_ble_eq_true rfl) ha hb (k3 c1 c2)

theorem s8_flips_34 {G : am_G} {dp a b : Nat} {m : am_M} {Q : am_Q} {i1 i2 i4 i5 i6 : Int} {r0 r3 : Nat} {o7 : Option am_V} (hdp : 1 ≤ dp) (h1 : am_ob m r3 2) (k1 : ((m.1 r3 5) ≤ i6) → ¬ (i2 = 0) → Q (.inl (some (iV (i5)))) m) (k2 : ((m.1 r3 5) ≤ i6) → (i2 = 0) → Q (.inl (some (iV (i4)))) m) (k3 : ¬ ((m.1 r3 5) ≤ i6) → (4 ≤ i6) → ¬ (i2 = 0) → Q (.inl (some (iV (i5)))) m) (k4 : ¬ ((m.1 r3 5) ≤ i6) → (4 ≤ i6) → (i2 = 0) → Q (.inl (some (iV (i4)))) m) (k5 : ¬ ((m.1 r3 5) ≤ i6) → ¬ (4 ≤ i6) → ¬ (i6 = (m.1 r3 8)) → ∀ Q' : am_Q, (∀ (z : Int) (m' : am_M), X G dp a b M8_flips 67 [some (rV (some r0)), some (iV (i1)), some (iV (i2)), some (rV (some r3)), some (iV (i4)), some (iV (i5)), some (iV (i6)), o7] [iV (z)] m' Q → Q' (.inl (some (iV (z)))) m') → T G (dp - 1) 0 0 M2_flipsFor [rV (some r3), iV (i6)] m Q') (k6 : ¬ ((m.1 r3 5) ≤ i6) → ¬ (4 ≤ i6) → (i6 = (m.1 r3 8)) → X G dp a b M8_flips 34 [some (rV (some r0)), some (iV (i1)), some (iV (i2)), some (rV (some r3)), some (iV (i4)), some (iV (i5)), some (iV (wr (i6 + 1))), o7] [] m Q)  : X G dp a b M8_flips 34 [some (rV (some r0)), some (iV (i1)), some (iV (i2)), some (rV (some r3)), some (iV (i4)), some (iV (i5)), some (iV (i6)), o7] [] m Q := by
  refine X_iload dX8_flips_34 rfl ?_
  refine X_aload_n dX8_flips_36 rfl rfl ?_
  refine X_getI dX8_flips_37 fl_8_150 (by decide) h1 ?_
  refine X_icmp_ge (tgt := 96) dX8_flips_40 (by decide) (fun c1 => ?_) (fun c1 => ?_)
  · refine X_iload_n dX8_flips_96 rfl rfl ?_
    refine X_if_ne (tgt := 105) dX8_flips_97 (by decide) (fun c2 => ?_) (fun c2 => ?_)
    · refine X_iload dX8_flips_105 rfl ?_
      exact X_iret dX8_flips_107 rfl (k1 c1 c2)
    · refine X_iload dX8_flips_100 rfl ?_
      refine X_goto (tgt := 107) dX8_flips_102 (by decide) ?_
      exact X_iret dX8_flips_107 rfl (k2 c1 c2)
  · refine X_iload dX8_flips_43 rfl ?_
    refine Y_iconst dX8_flips_45 (by unfold i32; omega) ?_
    refine X_icmp_ge (tgt := 96) dX8_flips_46 (by decide) (fun c3 => ?_) (fun c3 => ?_)
    · refine X_iload_n dX8_flips_96 rfl rfl ?_
      refine X_if_ne (tgt := 105) dX8_flips_97 (by decide) (fun c4 => ?_) (fun c4 => ?_)
      · refine X_iload dX8_flips_105 rfl ?_
        exact X_iret dX8_flips_107 rfl (k3 c1 c3 c4)
      · refine X_iload dX8_flips_100 rfl ?_
        refine X_goto (tgt := 107) dX8_flips_102 (by decide) ?_
        exact X_iret dX8_flips_107 rfl (k4 c1 c3 c4)
    · refine X_iload dX8_flips_49 rfl ?_
      refine X_aload_n dX8_flips_51 rfl rfl ?_
      refine X_getI dX8_flips_52 fl_8_161 (by decide) h1 ?_
      refine X_icmp_ne (tgt := 61) dX8_flips_55 (by decide) (fun c5 => ?_) (fun c5 => ?_)
      · refine X_aload_n dX8_flips_61 rfl rfl ?_
        refine X_iload dX8_flips_62 rfl ?_
        exact X_callV (As := [iV (i6)]) (rest := []) (a' := 0) (b' := 0) dX8_flips_64 t2_flipsFor ml_8_224 h1 rfl rfl (Nat.le_of_ble_eq_true rfl) rfl hdp (Nat.zero_le _) (Nat.zero_le _) ((k5 c1 c3 c5) _ (fun z m' h => h))
      · refine X_goto (tgt := 90) dX8_flips_58 (by decide) ?_
        refine X_iinc dX8_flips_90 rfl ?_
        refine X_goto (tgt := 34) dX8_flips_93 (by decide) ?_
        exact (k6 c1 c3 c5)

theorem s8_flips_67 {G : am_G} {dp a b : Nat} {m : am_M} {Q : am_Q} {i1 i2 i4 i5 i6 i90 : Int} {r0 r3 : Nat} {o7 : Option am_V}  (k1 : (i5 = (-1)) → X G dp a b M8_flips 34 [some (rV (some r0)), some (iV (i1)), some (iV (i2)), some (rV (some r3)), some (iV (i90)), some (iV (i6)), some (iV (wr (i6 + 1))), some (iV (i90))] [] m Q) (k2 : ¬ (i5 = (-1)) → (i4 ≤ i90) → X G dp a b M8_flips 34 [some (rV (some r0)), some (iV (i1)), some (iV (i2)), some (rV (some r3)), some (iV (i4)), some (iV (i5)), some (iV (wr (i6 + 1))), some (iV (i90))] [] m Q) (k3 : ¬ (i5 = (-1)) → ¬ (i4 ≤ i90) → X G dp a b M8_flips 34 [some (rV (some r0)), some (iV (i1)), some (iV (i2)), some (rV (some r3)), some (iV (i90)), some (iV (i6)), some (iV (wr (i6 + 1))), some (iV (i90))] [] m Q)  : X G dp a b M8_flips 67 [some (rV (some r0)), some (iV (i1)), some (iV (i2)), some (rV (some r3)), some (iV (i4)), some (iV (i5)), some (iV (i6)), o7] [iV (i90)] m Q := by
  refine X_istore dX8_flips_67 (Nat.le_of_ble_eq_true rfl) ?_
  refine X_iload dX8_flips_69 rfl ?_
  refine Y_iconst dX8_flips_71 (by unfold i32; omega) ?_
  refine X_icmp_eq (tgt := 82) dX8_flips_72 (by decide) (fun c1 => ?_) (fun c1 => ?_)
  · refine X_iload dX8_flips_82 rfl ?_
    refine X_istore dX8_flips_84 (Nat.le_of_ble_eq_true rfl) ?_
    refine X_iload dX8_flips_86 rfl ?_
    refine X_istore dX8_flips_88 (Nat.le_of_ble_eq_true rfl) ?_
    refine X_iinc dX8_flips_90 rfl ?_
    refine X_goto (tgt := 34) dX8_flips_93 (by decide) ?_
    exact (k1 c1)
  · refine X_iload dX8_flips_75 rfl ?_
    refine X_iload dX8_flips_77 rfl ?_
    refine X_icmp_ge (tgt := 90) dX8_flips_79 (by decide) (fun c2 => ?_) (fun c2 => ?_)
    · refine X_iinc dX8_flips_90 rfl ?_
      refine X_goto (tgt := 34) dX8_flips_93 (by decide) ?_
      exact (k2 c1 c2)
    · refine X_iload dX8_flips_82 rfl ?_
      refine X_istore dX8_flips_84 (Nat.le_of_ble_eq_true rfl) ?_
      refine X_iload dX8_flips_86 rfl ?_
      refine X_istore dX8_flips_88 (Nat.le_of_ble_eq_true rfl) ?_
      refine X_iinc dX8_flips_90 rfl ?_
      refine X_goto (tgt := 34) dX8_flips_93 (by decide) ?_
      exact (k3 c1 c2)

theorem s8_say_0 {G : am_G} {dp a b : Nat} {m : am_M} {Q : am_Q} {r0 p1 : Nat} {o1 : Option am_V} (hdp : 1 ≤ dp) (h1 : am_ob m r0 7) (h2 : m.2.1 r0 3 = some p1) (h3 : am_ob m p1 6) (k1 : ∀ Q' : am_Q, (∀ (m' : am_M), X G dp a b M8_say 7 [some (rV (some r0)), o1] [] m' Q → Q' (.inl none) m') → T G (dp - 1) 0 0 M7_fallSilent [rV (some p1)] m Q')  : X G dp a b M8_say 0 [some (rV (some r0)), o1] [] m Q := by
  refine X_aload_n dX8_say_0 rfl rfl ?_
  refine X_getP dX8_say_1 fl_8_23 rfl h1 ?_
  refine am_ptr h2 ?_
  exact X_callV (As := []) (rest := []) (a' := 0) (b' := 0) dX8_say_4 t7_fallSilent ml_8_227 h3 rfl rfl (Nat.le_of_ble_eq_true rfl) rfl hdp (Nat.zero_le _) (Nat.zero_le _) (k1 _ (fun m' h => h))

theorem s8_say_7 {G : am_G} {dp a b : Nat} {m : am_M} {Q : am_Q} {r0 : Nat} {o1 : Option am_V}  (k1 : X G dp a b M8_say 9 [some (rV (some r0)), some (iV (0))] [] m Q)  : X G dp a b M8_say 7 [some (rV (some r0)), o1] [] m Q := by
  refine Y_iconst dX8_say_7 (by unfold i32; omega) ?_
  refine X_istore_n dX8_say_8 rfl (Nat.le_of_ble_eq_true rfl) ?_
  exact k1

theorem s8_say_9 {G : am_G} {dp a b : Nat} {m : am_M} {Q : am_Q} {i1 : Int} {r0 p1 p2 p3 p4 : Nat} (hdp : 1 ≤ dp) (h1 : am_ob m r0 7) (h2 : m.2.1 r0 4 = some p1) (h3 : am_ob m p1 3) (h4 : m.2.1 r0 6 = some p2) (h5 : am_ob m p2 1) (h6 : m.2.1 r0 6 = some p3) (h7 : am_ob m p3 1) (h8 : m.2.1 r0 3 = some p4) (h9 : am_ob m p4 6) (k1 : ((m.1 p1 2) ≤ i1) → ∀ Q' : am_Q, (∀ (z : Int) (m' : am_M), X G dp a b M8_say 60 [some (rV (some r0)), some (iV (i1))] [iV (z)] m' Q → Q' (.inl (some (iV (z)))) m') → T G (dp - 1) 0 0 M1_isByHand [rV (some p2), rV (some p1)] m Q') (k2 : ¬ ((m.1 p1 2) ≤ i1) → (3 ≤ i1) → ∀ Q' : am_Q, (∀ (z : Int) (m' : am_M), X G dp a b M8_say 60 [some (rV (some r0)), some (iV (i1))] [iV (z)] m' Q → Q' (.inl (some (iV (z)))) m') → T G (dp - 1) 0 0 M1_isByHand [rV (some p3), rV (some p1)] m Q') (k3 : ¬ ((m.1 p1 2) ≤ i1) → ¬ (3 ≤ i1) → (i1 ≤ 0) → X G dp a b M8_say 38 [some (rV (some r0)), some (iV (i1))] [] m Q) (k4 : ¬ ((m.1 p1 2) ≤ i1) → ¬ (3 ≤ i1) → ¬ (i1 ≤ 0) → ∀ Q' : am_Q, (∀ (m' : am_M), X G dp a b M8_say 38 [some (rV (some r0)), some (iV (i1))] [] m' Q → Q' (.inl none) m') → T G (dp - 1) 0 0 M7_put [rV (some p4), iV (44)] m Q')  : X G dp a b M8_say 9 [some (rV (some r0)), some (iV (i1))] [] m Q := by
  refine X_iload_n dX8_say_9 rfl rfl ?_
  refine X_aload_n dX8_say_10 rfl rfl ?_
  refine X_getP dX8_say_11 fl_8_30 rfl h1 ?_
  refine am_ptr h2 ?_
  refine X_getI dX8_say_14 fl_8_114 (by decide) h3 ?_
  refine X_icmp_ge (tgt := 49) dX8_say_17 (by decide) (fun c1 => ?_) (fun c1 => ?_)
  · refine X_aload_n dX8_say_49 rfl rfl ?_
    refine X_getP dX8_say_50 fl_8_40 rfl h1 ?_
    refine am_ptr h4 ?_
    refine X_aload_n dX8_say_53 rfl rfl ?_
    refine X_getP dX8_say_54 fl_8_30 rfl h1 ?_
    refine am_ptr h2 ?_
    exact X_callV (As := [rV (some p1)]) (rest := []) (a' := 0) (b' := 0) dX8_say_57 t1_isByHand ml_8_134 h5 rfl rfl (Nat.le_of_ble_eq_true rfl) rfl hdp (Nat.zero_le _) (Nat.zero_le _) ((k1 c1) _ (fun z m' h => h))
  · refine X_iload_n dX8_say_20 rfl rfl ?_
    refine Y_iconst dX8_say_21 (by unfold i32; omega) ?_
    refine X_icmp_ge (tgt := 49) dX8_say_22 (by decide) (fun c2 => ?_) (fun c2 => ?_)
    · refine X_aload_n dX8_say_49 rfl rfl ?_
      refine X_getP dX8_say_50 fl_8_40 rfl h1 ?_
      refine am_ptr h6 ?_
      refine X_aload_n dX8_say_53 rfl rfl ?_
      refine X_getP dX8_say_54 fl_8_30 rfl h1 ?_
      refine am_ptr h2 ?_
      exact X_callV (As := [rV (some p1)]) (rest := []) (a' := 0) (b' := 0) dX8_say_57 t1_isByHand ml_8_134 h7 rfl rfl (Nat.le_of_ble_eq_true rfl) rfl hdp (Nat.zero_le _) (Nat.zero_le _) ((k2 c1 c2) _ (fun z m' h => h))
    · refine X_iload_n dX8_say_25 rfl rfl ?_
      refine X_if_le (tgt := 38) dX8_say_26 (by decide) (fun c3 => ?_) (fun c3 => ?_)
      · exact (k3 c1 c2 c3)
      · refine X_aload_n dX8_say_29 rfl rfl ?_
        refine X_getP dX8_say_30 fl_8_23 rfl h1 ?_
        refine am_ptr h8 ?_
        refine Y_bipush dX8_say_33 (by omega) ?_
        exact X_callV (As := [iV (44)]) (rest := []) (a' := 0) (b' := 0) dX8_say_35 t7_put ml_8_230 h9 rfl rfl (Nat.le_of_ble_eq_true rfl) rfl hdp (Nat.zero_le _) (Nat.zero_le _) ((k4 c1 c2 c3) _ (fun m' h => h))

theorem s8_say_38 {G : am_G} {dp a b : Nat} {m : am_M} {Q : am_Q} {i1 : Int} {r0 : Nat} (hdp : 1 ≤ dp) (h1 : am_ob m r0 7) (k1 : ∀ Q' : am_Q, (∀ (m' : am_M), X G dp a b M8_say 43 [some (rV (some r0)), some (iV (i1))] [] m' Q → Q' (.inl none) m') → T G (dp - 1) 0 0 M8_sayRace [rV (some r0), iV (i1)] m Q')  : X G dp a b M8_say 38 [some (rV (some r0)), some (iV (i1))] [] m Q := by
  refine X_aload_n dX8_say_38 rfl rfl ?_
  refine X_iload_n dX8_say_39 rfl rfl ?_
  exact X_callV (As := [iV (i1)]) (rest := []) (a' := 0) (b' := 0) dX8_say_40 t8_sayRace ml_8_233 h1 rfl rfl (Nat.le_of_ble_eq_true rfl) rfl hdp (Nat.zero_le _) (Nat.zero_le _) (k1 _ (fun m' h => h))

theorem s8_say_43 {G : am_G} {dp a b : Nat} {m : am_M} {Q : am_Q} {i1 : Int} {r0 : Nat}  (k1 : X G dp a b M8_say 9 [some (rV (some r0)), some (iV (wr (i1 + 1)))] [] m Q)  : X G dp a b M8_say 43 [some (rV (some r0)), some (iV (i1))] [] m Q := by
  refine X_iinc dX8_say_43 rfl ?_
  refine X_goto (tgt := 9) dX8_say_46 (by decide) ?_
  exact k1

theorem s8_say_60 {G : am_G} {dp a b : Nat} {m : am_M} {Q : am_Q} {i1 i90 : Int} {r0 p1 p2 : Nat} (hdp : 1 ≤ dp) (h1 : am_ob m r0 7) (h2 : m.2.1 r0 6 = some p1) (h3 : am_ob m p1 1) (h4 : m.2.1 r0 3 = some p2) (h5 : am_ob m p2 6) (k1 : (i90 = 0) → ∀ Q' : am_Q, (∀ (z : Int) (m' : am_M), X G dp a b M8_say 82 [some (rV (some r0)), some (iV (i1))] [iV (z)] m' Q → Q' (.inl (some (iV (z)))) m') → T G (dp - 1) 0 0 M1_isOver [rV (some p1)] m Q') (k2 : ¬ (i90 = 0) → ∀ Q' : am_Q, (∀ (m' : am_M), X G dp a b M8_say 72 [some (rV (some r0)), some (iV (i1))] [] m' Q → Q' (.inl none) m') → T G (dp - 1) 0 0 M7_put [rV (some p2), iV (59)] m Q')  : X G dp a b M8_say 60 [some (rV (some r0)), some (iV (i1))] [iV (i90)] m Q := by
  refine X_if_eq (tgt := 75) dX8_say_60 (by decide) (fun c1 => ?_) (fun c1 => ?_)
  · refine X_aload_n dX8_say_75 rfl rfl ?_
    refine X_getP dX8_say_76 fl_8_40 rfl h1 ?_
    refine am_ptr h2 ?_
    exact X_callV (As := []) (rest := []) (a' := 0) (b' := 0) dX8_say_79 t1_isOver ml_8_130 h3 rfl rfl (Nat.le_of_ble_eq_true rfl) rfl hdp (Nat.zero_le _) (Nat.zero_le _) ((k1 c1) _ (fun z m' h => h))
  · refine X_aload_n dX8_say_63 rfl rfl ?_
    refine X_getP dX8_say_64 fl_8_23 rfl h1 ?_
    refine am_ptr h4 ?_
    refine Y_bipush dX8_say_67 (by omega) ?_
    exact X_callV (As := [iV (59)]) (rest := []) (a' := 0) (b' := 0) dX8_say_69 t7_put ml_8_230 h5 rfl rfl (Nat.le_of_ble_eq_true rfl) rfl hdp (Nat.zero_le _) (Nat.zero_le _) ((k2 c1) _ (fun m' h => h))

theorem s8_say_72 {G : am_G} {dp a b : Nat} {m : am_M} {Q : am_Q} {i1 : Int} {r0 : Nat}  (k1 : X G dp a b M8_say 94 [some (rV (some r0)), some (iV (i1))] [] m Q)  : X G dp a b M8_say 72 [some (rV (some r0)), some (iV (i1))] [] m Q := by
  refine X_goto (tgt := 94) dX8_say_72 (by decide) ?_
  exact k1

theorem s8_say_82 {G : am_G} {dp a b : Nat} {m : am_M} {Q : am_Q} {i1 i90 : Int} {r0 p1 : Nat} (hdp : 1 ≤ dp) (h1 : am_ob m r0 7) (h2 : m.2.1 r0 3 = some p1) (h3 : am_ob m p1 6) (k1 : ¬ (i90 = 0) → X G dp a b M8_say 94 [some (rV (some r0)), some (iV (i1))] [] m Q) (k2 : (i90 = 0) → ∀ Q' : am_Q, (∀ (m' : am_M), X G dp a b M8_say 94 [some (rV (some r0)), some (iV (i1))] [] m' Q → Q' (.inl none) m') → T G (dp - 1) 0 0 M7_put [rV (some p1), iV (63)] m Q')  : X G dp a b M8_say 82 [some (rV (some r0)), some (iV (i1))] [iV (i90)] m Q := by
  refine X_if_ne (tgt := 94) dX8_say_82 (by decide) (fun c1 => ?_) (fun c1 => ?_)
  · exact (k1 c1)
  · refine X_aload_n dX8_say_85 rfl rfl ?_
    refine X_getP dX8_say_86 fl_8_23 rfl h1 ?_
    refine am_ptr h2 ?_
    refine Y_bipush dX8_say_89 (by omega) ?_
    exact X_callV (As := [iV (63)]) (rest := []) (a' := 0) (b' := 0) dX8_say_91 t7_put ml_8_230 h3 rfl rfl (Nat.le_of_ble_eq_true rfl) rfl hdp (Nat.zero_le _) (Nat.zero_le _) ((k2 c1) _ (fun m' h => h))

theorem s8_say_94 {G : am_G} {dp a b : Nat} {m : am_M} {Q : am_Q} {i1 : Int} {r0 p1 : Nat} (h1 : am_ob m r0 7) (h2 : m.2.1 r0 3 = some p1) (h3 : am_ob m p1 6) (k1 : Q (.inl (some (iV (m.1 p1 1)))) m)  : X G dp a b M8_say 94 [some (rV (some r0)), some (iV (i1))] [] m Q := by
  refine X_aload_n dX8_say_94 rfl rfl ?_
  refine X_getP dX8_say_95 fl_8_23 rfl h1 ?_
  refine am_ptr h2 ?_
  refine X_getI dX8_say_98 fl_8_236 (by decide) h3 ?_
  exact X_iret dX8_say_101 rfl k1

theorem s8_sayRace_0 {G : am_G} {dp a b : Nat} {m : am_M} {Q : am_Q} {i1 : Int} {r0 p1 p2 p3 p4 : Nat} {o2 : Option am_V} {t_p2 n_p2 : Nat} (hdp : 1 ≤ dp) (h1 : am_ob m r0 7) (h2 : m.2.1 r0 4 = some p1) (h3 : am_ob m p1 3) (h4 : m.2.1 p1 0 = some p2) (h5 : t_p2 = 103 ∨ t_p2 = 104) (h6 : am_ar m p2 t_p2 n_p2) (h9 : m.2.1 p2 (i1).toNat = some p3) (h10 : m.2.1 r0 3 = some p4) (h11 : am_ob m p3 2) (h12 : am_ob m p4 6) (k1 : ¬ ((m.1 p3 6) = 0) → ∀ Q' : am_Q, (∀ (m' : am_M), X G dp a b M8_sayRace 31 [some (rV (some r0)), some (iV (i1)), some (rV (some p3))] [] m' Q → Q' (.inl none) m') → T G (dp - 1) 0 0 M7_put [rV (some p4), iV (112)] m Q') (k2 : ((m.1 p3 6) = 0) → ∀ Q' : am_Q, (∀ (m' : am_M), X G dp a b M8_sayRace 31 [some (rV (some r0)), some (iV (i1)), some (rV (some p3))] [] m' Q → Q' (.inl none) m') → T G (dp - 1) 0 0 M7_put [rV (some p4), iV (99)] m Q') (h7 : 0 ≤ i1 := by intros; first | omega | (dsimp only at *; omega)) (h8 : i1 < (n_p2 : Int) := by intros; first | omega | (dsimp only at *; omega)) : X G dp a b M8_sayRace 0 [some (rV (some r0)), some (iV (i1)), o2] [] m Q := by
  refine X_aload_n dX8_sayRace_0 rfl rfl ?_
  refine X_getP dX8_sayRace_1 fl_8_30 rfl h1 ?_
  refine am_ptr h2 ?_
  refine X_getP dX8_sayRace_4 fl_8_182 rfl h3 ?_
  refine am_ptr h4 ?_
  refine X_iload_n dX8_sayRace_7 rfl rfl ?_
  refine X_aald dX8_sayRace_8 h5 h6 h7 h8 ?_
  refine am_ptr h9 ?_
  refine X_astore_n dX8_sayRace_9 rfl (Nat.le_of_ble_eq_true rfl) ?_
  refine X_aload_n dX8_sayRace_10 rfl rfl ?_
  refine X_getP dX8_sayRace_11 fl_8_23 rfl h1 ?_
  refine am_ptr h10 ?_
  refine X_aload_n dX8_sayRace_14 rfl rfl ?_
  refine X_getI dX8_sayRace_15 fl_8_155 (by decide) h11 ?_
  refine X_if_ne (tgt := 26) dX8_sayRace_18 (by decide) (fun c1 => ?_) (fun c1 => ?_)
  · refine Y_bipush dX8_sayRace_26 (by omega) ?_
    exact X_callV (As := [iV (112)]) (rest := []) (a' := 0) (b' := 0) dX8_sayRace_28 t7_put ml_8_230 h12 rfl rfl (Nat.le_of_ble_eq_true rfl) rfl hdp (Nat.zero_le _) (Nat.zero_le _) ((k1 c1) _ (fun m' h => h))
  · refine Y_bipush dX8_sayRace_21 (by omega) ?_
    refine X_goto (tgt := 28) dX8_sayRace_23 (by decide) ?_
    exact X_callV (As := [iV (99)]) (rest := []) (a' := 0) (b' := 0) dX8_sayRace_28 t7_put ml_8_230 h12 rfl rfl (Nat.le_of_ble_eq_true rfl) rfl hdp (Nat.zero_le _) (Nat.zero_le _) ((k2 c1) _ (fun m' h => h))

theorem s8_sayRace_31 {G : am_G} {dp a b : Nat} {m : am_M} {Q : am_Q} {i1 : Int} {r0 r2 p1 : Nat} (hdp : 1 ≤ dp) (h1 : am_ob m r0 7) (h2 : m.2.1 r0 3 = some p1) (h3 : am_ob m r2 2) (h4 : am_ob m p1 6) (k1 : ∀ Q' : am_Q, (∀ (m' : am_M), X G dp a b M8_sayRace 45 [some (rV (some r0)), some (iV (i1)), some (rV (some r2))] [] m' Q → Q' (.inl none) m') → T G (dp - 1) 0 0 M7_put [rV (some p1), iV (wr (97 + (m.1 r2 7)))] m Q')  : X G dp a b M8_sayRace 31 [some (rV (some r0)), some (iV (i1)), some (rV (some r2))] [] m Q := by
  refine X_aload_n dX8_sayRace_31 rfl rfl ?_
  refine X_getP dX8_sayRace_32 fl_8_23 rfl h1 ?_
  refine am_ptr h2 ?_
  refine Y_bipush dX8_sayRace_35 (by omega) ?_
  refine X_aload_n dX8_sayRace_37 rfl rfl ?_
  refine X_getI dX8_sayRace_38 fl_8_158 (by decide) h3 ?_
  refine X_iadd dX8_sayRace_41  ?_
  exact X_callV (As := [iV (wr (97 + (m.1 r2 7)))]) (rest := []) (a' := 0) (b' := 0) dX8_sayRace_42 t7_put ml_8_230 h4 rfl rfl (Nat.le_of_ble_eq_true rfl) rfl hdp (Nat.zero_le _) (Nat.zero_le _) (k1 _ (fun m' h => h))

theorem s8_sayRace_45 {G : am_G} {dp a b : Nat} {m : am_M} {Q : am_Q} {i1 : Int} {r0 r2 p1 : Nat} (hdp : 1 ≤ dp) (h1 : am_ob m r0 7) (h2 : m.2.1 r0 6 = some p1) (h3 : am_ob m p1 1) (k1 : ∀ Q' : am_Q, (∀ (z : Int) (m' : am_M), X G dp a b M8_sayRace 53 [some (rV (some r0)), some (iV (i1)), some (rV (some r2))] [iV (z)] m' Q → Q' (.inl (some (iV (z)))) m') → T G (dp - 1) 0 0 M1_isDone [rV (some p1), iV (i1)] m Q')  : X G dp a b M8_sayRace 45 [some (rV (some r0)), some (iV (i1)), some (rV (some r2))] [] m Q := by
  refine X_aload_n dX8_sayRace_45 rfl rfl ?_
  refine X_getP dX8_sayRace_46 fl_8_40 rfl h1 ?_
  refine am_ptr h2 ?_
  refine X_iload_n dX8_sayRace_49 rfl rfl ?_
  exact X_callV (As := [iV (i1)]) (rest := []) (a' := 0) (b' := 0) dX8_sayRace_50 t1_isDone ml_8_167 h3 rfl rfl (Nat.le_of_ble_eq_true rfl) rfl hdp (Nat.zero_le _) (Nat.zero_le _) (k1 _ (fun z m' h => h))

theorem s8_sayRace_53 {G : am_G} {dp a b : Nat} {m : am_M} {Q : am_Q} {i1 i90 : Int} {r0 r2 p1 p2 : Nat} (hdp : 1 ≤ dp) (h1 : am_ob m r0 7) (h2 : m.2.1 r0 3 = some p1) (h3 : am_ob m p1 6) (h4 : m.2.1 r0 3 = some p2) (h5 : am_ob m p2 6) (k1 : (i90 = 0) → ∀ Q' : am_Q, (∀ (m' : am_M), X G dp a b M8_sayRace 94 [some (rV (some r0)), some (iV (i1)), some (rV (some r2))] [] m' Q → Q' (.inl none) m') → T G (dp - 1) 0 0 M7_put [rV (some p1), iV (58)] m Q') (k2 : ¬ (i90 = 0) → ∀ Q' : am_Q, (∀ (m' : am_M), X G dp a b M8_sayRace 65 [some (rV (some r0)), some (iV (i1)), some (rV (some r2))] [] m' Q → Q' (.inl none) m') → T G (dp - 1) 0 0 M7_put [rV (some p2), iV (33)] m Q')  : X G dp a b M8_sayRace 53 [some (rV (some r0)), some (iV (i1)), some (rV (some r2))] [iV (i90)] m Q := by
  refine X_if_eq (tgt := 85) dX8_sayRace_53 (by decide) (fun c1 => ?_) (fun c1 => ?_)
  · refine X_aload_n dX8_sayRace_85 rfl rfl ?_
    refine X_getP dX8_sayRace_86 fl_8_23 rfl h1 ?_
    refine am_ptr h2 ?_
    refine Y_bipush dX8_sayRace_89 (by omega) ?_
    exact X_callV (As := [iV (58)]) (rest := []) (a' := 0) (b' := 0) dX8_sayRace_91 t7_put ml_8_230 h3 rfl rfl (Nat.le_of_ble_eq_true rfl) rfl hdp (Nat.zero_le _) (Nat.zero_le _) ((k1 c1) _ (fun m' h => h))
  · refine X_aload_n dX8_sayRace_56 rfl rfl ?_
    refine X_getP dX8_sayRace_57 fl_8_23 rfl h1 ?_
    refine am_ptr h4 ?_
    refine Y_bipush dX8_sayRace_60 (by omega) ?_
    exact X_callV (As := [iV (33)]) (rest := []) (a' := 0) (b' := 0) dX8_sayRace_62 t7_put ml_8_230 h5 rfl rfl (Nat.le_of_ble_eq_true rfl) rfl hdp (Nat.zero_le _) (Nat.zero_le _) ((k2 c1) _ (fun m' h => h))

theorem s8_sayRace_65 {G : am_G} {dp a b : Nat} {m : am_M} {Q : am_Q} {i1 : Int} {r0 r2 p1 p2 p3 : Nat} {n_p3 : Nat} (hdp : 1 ≤ dp) (h1 : am_ob m r0 7) (h2 : m.2.1 r0 3 = some p1) (h3 : m.2.1 r0 6 = some p2) (h4 : am_ob m p2 1) (h5 : m.2.1 p2 2 = some p3) (h6 : am_ar m p3 100 n_p3) (h9 : am_ob m p1 6) (k1 : ∀ Q' : am_Q, (∀ (m' : am_M), X G dp a b M8_sayRace 82 [some (rV (some r0)), some (iV (i1)), some (rV (some r2))] [] m' Q → Q' (.inl none) m') → T G (dp - 1) 0 0 M7_putNumber [rV (some p1), lV (m.1 p3 (i1).toNat)] m Q') (h7 : 0 ≤ i1 := by intros; first | omega | (dsimp only at *; omega)) (h8 : i1 < (n_p3 : Int) := by intros; first | omega | (dsimp only at *; omega)) : X G dp a b M8_sayRace 65 [some (rV (some r0)), some (iV (i1)), some (rV (some r2))] [] m Q := by
  refine X_aload_n dX8_sayRace_65 rfl rfl ?_
  refine X_getP dX8_sayRace_66 fl_8_23 rfl h1 ?_
  refine am_ptr h2 ?_
  refine X_aload_n dX8_sayRace_69 rfl rfl ?_
  refine X_getP dX8_sayRace_70 fl_8_40 rfl h1 ?_
  refine am_ptr h3 ?_
  refine X_getP dX8_sayRace_73 fl_8_171 rfl h4 ?_
  refine am_ptr h5 ?_
  refine X_iload_n dX8_sayRace_76 rfl rfl ?_
  refine X_iald dX8_sayRace_77 h6 h7 h8 ?_
  refine X_i2l dX8_sayRace_78 ?_
  exact X_callV (As := [lV (m.1 p3 (i1).toNat)]) (rest := []) (a' := 0) (b' := 0) dX8_sayRace_79 t7_putNumber ml_8_239 h9 rfl rfl (Nat.le_of_ble_eq_true rfl) rfl hdp (Nat.zero_le _) (Nat.zero_le _) (k1 _ (fun m' h => h))

theorem s8_sayRace_82 {G : am_G} {dp a b : Nat} {m : am_M} {Q : am_Q} {i1 : Int} {r0 r2 : Nat}  (k1 : X G dp a b M8_sayRace 113 [some (rV (some r0)), some (iV (i1)), some (rV (some r2))] [] m Q)  : X G dp a b M8_sayRace 82 [some (rV (some r0)), some (iV (i1)), some (rV (some r2))] [] m Q := by
  refine X_goto (tgt := 113) dX8_sayRace_82 (by decide) ?_
  exact k1

theorem s8_sayRace_94 {G : am_G} {dp a b : Nat} {m : am_M} {Q : am_Q} {i1 : Int} {r0 r2 p1 p2 : Nat} (hdp : 1 ≤ dp) (h1 : am_ob m r0 7) (h2 : m.2.1 r0 3 = some p1) (h3 : m.2.1 r0 6 = some p2) (h4 : am_ob m p2 1) (k1 : ∀ Q' : am_Q, (∀ (z : Int) (m' : am_M), X G dp a b M8_sayRace 106 [some (rV (some r0)), some (iV (i1)), some (rV (some r2))] [lV (z), rV (some p1)] m' Q → Q' (.inl (some (lV (z)))) m') → T G (dp - 1) 0 0 M1_latestRisk [rV (some p2), iV (i1)] m Q')  : X G dp a b M8_sayRace 94 [some (rV (some r0)), some (iV (i1)), some (rV (some r2))] [] m Q := by
  refine X_aload_n dX8_sayRace_94 rfl rfl ?_
  refine X_getP dX8_sayRace_95 fl_8_23 rfl h1 ?_
  refine am_ptr h2 ?_
  refine X_aload_n dX8_sayRace_98 rfl rfl ?_
  refine X_getP dX8_sayRace_99 fl_8_40 rfl h1 ?_
  refine am_ptr h3 ?_
  refine X_iload_n dX8_sayRace_102 rfl rfl ?_
  exact X_callV (As := [iV (i1)]) (rest := [rV (some p1)]) (a' := 0) (b' := 0) dX8_sayRace_103 t1_latestRisk ml_8_190 h4 rfl rfl (Nat.le_of_ble_eq_true rfl) rfl hdp (Nat.zero_le _) (Nat.zero_le _) (k1 _ (fun z m' h => h))

theorem s8_sayRace_106 {G : am_G} {dp a b : Nat} {m : am_M} {Q : am_Q} {i1 l90 : Int} {r0 r2 r91 : Nat} (hdp : 1 ≤ dp) (h1 : am_ob m r91 6) (k1 : ∀ Q' : am_Q, (∀ (m' : am_M), X G dp a b M8_sayRace 113 [some (rV (some r0)), some (iV (i1)), some (rV (some r2))] [] m' Q → Q' (.inl none) m') → T G (dp - 1) 0 0 M7_putNumber [rV (some r91), lV (wrl (Int.tdiv l90 1000000))] m Q')  : X G dp a b M8_sayRace 106 [some (rV (some r0)), some (iV (i1)), some (rV (some r2))] [lV (l90), rV (some r91)] m Q := by
  refine X_ldc2 dX8_sayRace_106 kc_8_243 (by unfold i64; omega) ?_
  refine X_ldiv dX8_sayRace_109 (by decide) ?_
  exact X_callV (As := [lV (wrl (Int.tdiv l90 1000000))]) (rest := []) (a' := 0) (b' := 0) dX8_sayRace_110 t7_putNumber ml_8_239 h1 rfl rfl (Nat.le_of_ble_eq_true rfl) rfl hdp (Nat.zero_le _) (Nat.zero_le _) (k1 _ (fun m' h => h))

theorem s8_sayRace_113 {G : am_G} {dp a b : Nat} {m : am_M} {Q : am_Q} {i1 : Int} {r0 r2 : Nat}  (k1 : Q (.inl none) m)  : X G dp a b M8_sayRace 113 [some (rV (some r0)), some (iV (i1)), some (rV (some r2))] [] m Q := by
  exact X_vret dX8_sayRace_113 rfl k1

theorem s8_said_0 {G : am_G} {dp a b : Nat} {m : am_M} {Q : am_Q} {i1 : Int} {r0 p1 p2 : Nat} {n_p2 : Nat} (h1 : am_ob m r0 7) (h2 : m.2.1 r0 3 = some p1) (h3 : am_ob m p1 6) (h4 : m.2.1 p1 0 = some p2) (h5 : am_ar m p2 100 n_p2) (k1 : (i1 < 0) → Q (.inl (some (iV ((-1))))) m) (k2 : ¬ (i1 < 0) → (i1 < (m.1 p1 1)) → Q (.inl (some (iV (m.1 p2 (i1).toNat)))) m) (k3 : ¬ (i1 < 0) → ¬ (i1 < (m.1 p1 1)) → Q (.inl (some (iV ((-1))))) m) (h6 : ¬ (i1 < 0) → i1 < (m.1 p1 1) → 0 ≤ i1 := by intros; first | omega | (dsimp only at *; omega)) (h7 : ¬ (i1 < 0) → i1 < (m.1 p1 1) → i1 < (n_p2 : Int) := by intros; first | omega | (dsimp only at *; omega)) : X G dp a b M8_said 0 [some (rV (some r0)), some (iV (i1))] [] m Q := by
  refine X_iload_n dX8_said_0 rfl rfl ?_
  refine X_if_lt (tgt := 15) dX8_said_1 (by decide) (fun c1 => ?_) (fun c1 => ?_)
  · refine Y_iconst dX8_said_15 (by unfold i32; omega) ?_
    refine X_goto (tgt := 28) dX8_said_16 (by decide) ?_
    exact X_iret dX8_said_28 rfl (k1 c1)
  · refine X_iload_n dX8_said_4 rfl rfl ?_
    refine X_aload_n dX8_said_5 rfl rfl ?_
    refine X_getP dX8_said_6 fl_8_23 rfl h1 ?_
    refine am_ptr h2 ?_
    refine X_getI dX8_said_9 fl_8_236 (by decide) h3 ?_
    refine X_icmp_lt (tgt := 19) dX8_said_12 (by decide) (fun c2 => ?_) (fun c2 => ?_)
    · refine X_aload_n dX8_said_19 rfl rfl ?_
      refine X_getP dX8_said_20 fl_8_23 rfl h1 ?_
      refine am_ptr h2 ?_
      refine X_getP dX8_said_23 fl_8_245 rfl h3 ?_
      refine am_ptr h4 ?_
      refine X_iload_n dX8_said_26 rfl rfl ?_
      refine X_iald dX8_said_27 h5 (h6 c1 c2) (h7 c1 c2) ?_
      exact X_iret dX8_said_28 rfl (k2 c1 c2)
    · refine Y_iconst dX8_said_15 (by unfold i32; omega) ?_
      refine X_goto (tgt := 28) dX8_said_16 (by decide) ?_
      exact X_iret dX8_said_28 rfl (k3 c1 c2)

theorem s8_votes_0 {G : am_G} {dp a b : Nat} {m : am_M} {Q : am_Q} {i1 i2 i3 : Int} {r0 : Nat} {o4 : Option am_V} (hdp : 1 ≤ dp) (ha : 1 ≤ a) (hb : 6 ≤ b) (h1 : am_ob m r0 7) (k1 : ∀ Q' : am_Q, (∀ (z : Nat) (m' : am_M), X G dp (a - 1) (b - 6) M8_votes 5 [some (rV (some r0)), some (iV (i1)), some (iV (i2)), some (iV (i3)), o4] [rV (some z)] m' Q → Q' (.inl (some (rV (some z)))) m') → (∀ (k : Nat) (m' : am_M), Q (.inr k) m' → Q' (.inr k) m') → T G (dp - 1) 1 6 M8_contestOf [rV (some r0), iV (i1)] m Q')  : X G dp a b M8_votes 0 [some (rV (some r0)), some (iV (i1)), some (iV (i2)), some (iV (i3)), o4] [] m Q := by
  refine X_aload_n dX8_votes_0 rfl rfl ?_
  refine X_iload_n dX8_votes_1 rfl rfl ?_
  exact X_callV (As := [iV (i1)]) (rest := []) (a' := 1) (b' := 6) dX8_votes_2 t8_contestOf ml_8_146 h1 rfl rfl (Nat.le_of_ble_eq_true rfl) rfl hdp ha hb (k1 _ (fun z m' h => h) (fun _ _ h => h))

theorem s8_votes_5 {G : am_G} {dp a b : Nat} {m : am_M} {Q : am_Q} {i1 i2 i3 : Int} {r0 r90 : Nat} {o4 : Option am_V} (hdp : 1 ≤ dp) (ha : 1 ≤ a) (hb : 6 ≤ b) (h1 : am_ob m r0 7) (k1 : ∀ Q' : am_Q, (∀ (m' : am_M), X G dp (a - 1) (b - 6) M8_votes 14 [some (rV (some r0)), some (iV (i1)), some (iV (i2)), some (iV (i3)), some (rV (some r90))] [] m' Q → Q' (.inl none) m') → (∀ (k : Nat) (m' : am_M), Q (.inr k) m' → Q' (.inr k) m') → T G (dp - 1) 1 6 M8_seekCandidate [rV (some r0), rV (some r90), iV (i2)] m Q')  : X G dp a b M8_votes 5 [some (rV (some r0)), some (iV (i1)), some (iV (i2)), some (iV (i3)), o4] [rV (some r90)] m Q := by
  refine X_astore dX8_votes_5 (Nat.le_of_ble_eq_true rfl) ?_
  refine X_aload_n dX8_votes_7 rfl rfl ?_
  refine X_aload dX8_votes_8 rfl ?_
  refine X_iload_n dX8_votes_10 rfl rfl ?_
  exact X_callV (As := [rV (some r90), iV (i2)]) (rest := []) (a' := 1) (b' := 6) dX8_votes_11 t8_seekCandidate ml_8_194 h1 rfl rfl (Nat.le_of_ble_eq_true rfl) rfl hdp ha hb (k1 _ (fun m' h => h) (fun _ _ h => h))

theorem s8_votes_14 {G : am_G} {dp a b : Nat} {m : am_M} {Q : am_Q} {i1 i2 i3 : Int} {r0 r4 p1 p2 : Nat} {n_p1 n_p2 : Nat} (h1 : am_ob m r4 2) (h2 : m.2.1 r4 3 = some p1) (h3 : am_ar m p1 100 n_p1) (h6 : m.2.1 r4 4 = some p2) (h7 : am_ar m p2 100 n_p2) (k1 : (i3 = 0) → Q (.inl (some (iV (m.1 p1 (i2).toNat)))) m) (k2 : ¬ (i3 = 0) → Q (.inl (some (iV (m.1 p2 (i2).toNat)))) m) (h4 : i3 = 0 → 0 ≤ i2 := by intros; first | omega | (dsimp only at *; omega)) (h5 : i3 = 0 → i2 < (n_p1 : Int) := by intros; first | omega | (dsimp only at *; omega)) (h8 : ¬ (i3 = 0) → 0 ≤ i2 := by intros; first | omega | (dsimp only at *; omega)) (h9 : ¬ (i3 = 0) → i2 < (n_p2 : Int) := by intros; first | omega | (dsimp only at *; omega)) : X G dp a b M8_votes 14 [some (rV (some r0)), some (iV (i1)), some (iV (i2)), some (iV (i3)), some (rV (some r4))] [] m Q := by
  refine X_iload_n dX8_votes_14 rfl rfl ?_
  refine X_if_eq (tgt := 28) dX8_votes_15 (by decide) (fun c1 => ?_) (fun c1 => ?_)
  · refine X_aload dX8_votes_28 rfl ?_
    refine X_getP dX8_votes_30 fl_8_251 rfl h1 ?_
    refine am_ptr h2 ?_
    refine X_iload_n dX8_votes_33 rfl rfl ?_
    refine X_iald dX8_votes_34 h3 (h4 c1) (h5 c1) ?_
    exact X_iret dX8_votes_35 rfl (k1 c1)
  · refine X_aload dX8_votes_18 rfl ?_
    refine X_getP dX8_votes_20 fl_8_248 rfl h1 ?_
    refine am_ptr h6 ?_
    refine X_iload_n dX8_votes_23 rfl rfl ?_
    refine X_iald dX8_votes_24 h7 (h8 c1) (h9 c1) ?_
    refine X_goto (tgt := 35) dX8_votes_25 (by decide) ?_
    exact X_iret dX8_votes_35 rfl (k2 c1)

theorem s8_ballot_0 {G : am_G} {dp a b : Nat} {m : am_M} {Q : am_Q} {i1 i2 i3 : Int} {r0 : Nat} {o4 : Option am_V} (hdp : 1 ≤ dp) (ha : 1 ≤ a) (hb : 6 ≤ b) (h1 : am_ob m r0 7) (k1 : ∀ Q' : am_Q, (∀ (z : Nat) (m' : am_M), X G dp (a - 1) (b - 6) M8_ballot 5 [some (rV (some r0)), some (iV (i1)), some (iV (i2)), some (iV (i3)), o4] [rV (some z)] m' Q → Q' (.inl (some (rV (some z)))) m') → (∀ (k : Nat) (m' : am_M), Q (.inr k) m' → Q' (.inr k) m') → T G (dp - 1) 1 6 M8_contestOf [rV (some r0), iV (i2)] m Q')  : X G dp a b M8_ballot 0 [some (rV (some r0)), some (iV (i1)), some (iV (i2)), some (iV (i3)), o4] [] m Q := by
  refine X_aload_n dX8_ballot_0 rfl rfl ?_
  refine X_iload_n dX8_ballot_1 rfl rfl ?_
  exact X_callV (As := [iV (i2)]) (rest := []) (a' := 1) (b' := 6) dX8_ballot_2 t8_contestOf ml_8_146 h1 rfl rfl (Nat.le_of_ble_eq_true rfl) rfl hdp ha hb (k1 _ (fun z m' h => h) (fun _ _ h => h))

theorem s8_ballot_5 {G : am_G} {dp a b : Nat} {m : am_M} {Q : am_Q} {i1 i2 i3 : Int} {r0 r90 : Nat} {o4 : Option am_V} (hdp : 1 ≤ dp) (ha : 1 ≤ a) (hb : 6 ≤ b) (h1 : am_ob m r0 7) (k1 : ∀ Q' : am_Q, (∀ (m' : am_M), X G dp (a - 1) (b - 6) M8_ballot 12 [some (rV (some r0)), some (iV (i1)), some (iV (i2)), some (iV (i3)), some (rV (some r90))] [] m' Q → Q' (.inl none) m') → (∀ (k : Nat) (m' : am_M), Q (.inr k) m' → Q' (.inr k) m') → T G (dp - 1) 1 6 M8_seekBallot [rV (some r0), iV (i1)] m Q')  : X G dp a b M8_ballot 5 [some (rV (some r0)), some (iV (i1)), some (iV (i2)), some (iV (i3)), o4] [rV (some r90)] m Q := by
  refine X_astore dX8_ballot_5 (Nat.le_of_ble_eq_true rfl) ?_
  refine X_aload_n dX8_ballot_7 rfl rfl ?_
  refine X_iload_n dX8_ballot_8 rfl rfl ?_
  exact X_callV (As := [iV (i1)]) (rest := []) (a' := 1) (b' := 6) dX8_ballot_9 t8_seekBallot ml_8_254 h1 rfl rfl (Nat.le_of_ble_eq_true rfl) rfl hdp ha hb (k1 _ (fun m' h => h) (fun _ _ h => h))

theorem s8_ballot_12 {G : am_G} {dp a b : Nat} {m : am_M} {Q : am_Q} {i1 i2 i3 : Int} {r0 r4 p1 p2 p3 : Nat} {n_p1 n_p2 n_p3 : Nat} (ha : 1 ≤ a) (hb : 6 ≤ b) (h1 : am_ob m r4 2) (h2 : m.2.1 r4 0 = some p1) (h3 : am_ar m p1 100 n_p1) (h6 : m.2.1 r4 1 = some p2) (h7 : am_ar m p2 100 n_p2) (h10 : m.2.1 r4 2 = some p3) (h11 : am_ar m p3 100 n_p3) (k1 : (i3 = 0) → Q (.inl (some (iV (m.1 p1 (i1).toNat)))) m) (k2 : (i3 = 1) → Q (.inl (some (iV (m.1 p2 (i1).toNat)))) m) (k3 : (i3 = 2) → Q (.inl (some (iV (m.1 p3 (i1).toNat)))) m) (k4 : ¬ (i3 = 0) → ¬ (i3 = 1) → ¬ (i3 = 2) → Q (.inr 1) (am_nx m)) (h4 : i3 = 0 → 0 ≤ i1 := by intros; first | omega | (dsimp only at *; omega)) (h5 : i3 = 0 → i1 < (n_p1 : Int) := by intros; first | omega | (dsimp only at *; omega)) (h8 : i3 = 1 → 0 ≤ i1 := by intros; first | omega | (dsimp only at *; omega)) (h9 : i3 = 1 → i1 < (n_p2 : Int) := by intros; first | omega | (dsimp only at *; omega)) (h12 : i3 = 2 → 0 ≤ i1 := by intros; first | omega | (dsimp only at *; omega)) (h13 : i3 = 2 → i1 < (n_p3 : Int) := by intros; first | omega | (dsimp only at *; omega)) : X G dp a b M8_ballot 12 [some (rV (some r0)), some (iV (i1)), some (iV (i2)), some (iV (i3)), some (rV (some r4))] [] m Q := by
  refine X_iload_n dX8_ballot_12 rfl rfl ?_
  by_cases c1 : i3 = 0
  · refine X_tableIn (tgt := 40) dX8_ballot_13 (by rw [c1]; decide) (by rw [c1]; decide) (by rw [c1]; rfl) (by decide) ?_
    refine X_aload dX8_ballot_40 rfl ?_
    refine X_getP dX8_ballot_42 fl_8_257 rfl h1 ?_
    refine am_ptr h2 ?_
    refine X_iload_n dX8_ballot_45 rfl rfl ?_
    refine X_iald dX8_ballot_46 h3 (h4 c1) (h5 c1) ?_
    exact X_iret dX8_ballot_47 rfl (k1 c1)
  by_cases c2 : i3 = 1
  · refine X_tableIn (tgt := 48) dX8_ballot_13 (by rw [c2]; decide) (by rw [c2]; decide) (by rw [c2]; rfl) (by decide) ?_
    refine X_aload dX8_ballot_48 rfl ?_
    refine X_getP dX8_ballot_50 fl_8_260 rfl h1 ?_
    refine am_ptr h6 ?_
    refine X_iload_n dX8_ballot_53 rfl rfl ?_
    refine X_iald dX8_ballot_54 h7 (h8 c2) (h9 c2) ?_
    exact X_iret dX8_ballot_55 rfl (k2 c2)
  by_cases c3 : i3 = 2
  · refine X_tableIn (tgt := 56) dX8_ballot_13 (by rw [c3]; decide) (by rw [c3]; decide) (by rw [c3]; rfl) (by decide) ?_
    refine X_aload dX8_ballot_56 rfl ?_
    refine X_getP dX8_ballot_58 fl_8_263 rfl h1 ?_
    refine am_ptr h10 ?_
    refine X_iload_n dX8_ballot_61 rfl rfl ?_
    refine X_iald dX8_ballot_62 h11 (h12 c3) (h13 c3) ?_
    exact X_iret dX8_ballot_63 rfl (k3 c3)
  refine X_tableOut (tgt := 64) dX8_ballot_13 (by omega) (by decide) ?_
  exact X_throwW (k := 1) (j := 19) (tx := "nothing such of a ballot") (by decide) rfl rfl dX8_ballot_64 dX8_ballot_67 dX8_ballot_68 dX8_ballot_71 dX8_ballot_74 rfl (Nat.le_of_ble_eq_true rfl) ha hb (k4 c1 c2 c3)

theorem s8_drawn_0 {G : am_G} {dp a b : Nat} {m : am_M} {Q : am_Q} {i1 : Int} {r0 p1 p2 : Nat} {n_p2 : Nat} (ha : 1 ≤ a) (hb : 6 ≤ b) (h1 : am_ob m r0 7) (h2 : m.2.1 r0 6 = some p1) (h3 : am_ob m p1 1) (h4 : m.2.1 p1 3 = some p2) (h5 : am_ar m p2 100 n_p2) (k1 : (i1 < 0) → Q (.inr 1) (am_nx m)) (k2 : ¬ (i1 < 0) → ((m.1 p1 5) ≤ i1) → Q (.inr 1) (am_nx m)) (k3 : ¬ (i1 < 0) → ¬ ((m.1 p1 5) ≤ i1) → (i1 < 300) → Q (.inl (some (iV (m.1 p2 (i1).toNat)))) m) (k4 : ¬ (i1 < 0) → ¬ ((m.1 p1 5) ≤ i1) → ¬ (i1 < 300) → Q (.inr 1) (am_nx m)) (h6 : ¬ (i1 < 0) → ¬ ((m.1 p1 5) ≤ i1) → i1 < 300 → 0 ≤ i1 := by intros; first | omega | (dsimp only at *; omega)) (h7 : ¬ (i1 < 0) → ¬ ((m.1 p1 5) ≤ i1) → i1 < 300 → i1 < (n_p2 : Int) := by intros; first | omega | (dsimp only at *; omega)) : X G dp a b M8_drawn 0 [some (rV (some r0)), some (iV (i1))] [] m Q := by
  refine X_iload_n dX8_drawn_0 rfl rfl ?_
  refine X_if_lt (tgt := 22) dX8_drawn_1 (by decide) (fun c1 => ?_) (fun c1 => ?_)
  · exact X_throwW (k := 1) (j := 20) (tx := "no such draw") (by decide) rfl rfl dX8_drawn_22 dX8_drawn_25 dX8_drawn_26 dX8_drawn_29 dX8_drawn_32 rfl (Nat.le_of_ble_eq_true rfl) ha hb (k1 c1)
  · refine X_iload_n dX8_drawn_4 rfl rfl ?_
    refine X_aload_n dX8_drawn_5 rfl rfl ?_
    refine X_getP dX8_drawn_6 fl_8_40 rfl h1 ?_
    refine am_ptr h2 ?_
    refine X_getI dX8_drawn_9 fl_8_121 (by decide) h3 ?_
    refine X_icmp_ge (tgt := 22) dX8_drawn_12 (by decide) (fun c2 => ?_) (fun c2 => ?_)
    · exact X_throwW (k := 1) (j := 20) (tx := "no such draw") (by decide) rfl rfl dX8_drawn_22 dX8_drawn_25 dX8_drawn_26 dX8_drawn_29 dX8_drawn_32 rfl (Nat.le_of_ble_eq_true rfl) ha hb (k2 c1 c2)
    · refine X_iload_n dX8_drawn_15 rfl rfl ?_
      refine Y_sipush dX8_drawn_16 (by omega) ?_
      refine X_icmp_lt (tgt := 33) dX8_drawn_19 (by decide) (fun c3 => ?_) (fun c3 => ?_)
      · refine X_aload_n dX8_drawn_33 rfl rfl ?_
        refine X_getP dX8_drawn_34 fl_8_40 rfl h1 ?_
        refine am_ptr h2 ?_
        refine X_getP dX8_drawn_37 fl_8_270 rfl h3 ?_
        refine am_ptr h4 ?_
        refine X_iload_n dX8_drawn_40 rfl rfl ?_
        refine X_iald dX8_drawn_41 h5 (h6 c1 c2 c3) (h7 c1 c2 c3) ?_
        exact X_iret dX8_drawn_42 rfl (k3 c1 c2 c3)
      · exact X_throwW (k := 1) (j := 20) (tx := "no such draw") (by decide) rfl rfl dX8_drawn_22 dX8_drawn_25 dX8_drawn_26 dX8_drawn_29 dX8_drawn_32 rfl (Nat.le_of_ble_eq_true rfl) ha hb (k4 c1 c2 c3)

theorem s8_times_0 {G : am_G} {dp a b : Nat} {m : am_M} {Q : am_Q} {i1 : Int} {r0 : Nat} (hdp : 1 ≤ dp) (ha : 1 ≤ a) (hb : 6 ≤ b) (h1 : am_ob m r0 7) (k1 : ∀ Q' : am_Q, (∀ (m' : am_M), X G dp (a - 1) (b - 6) M8_times 5 [some (rV (some r0)), some (iV (i1))] [] m' Q → Q' (.inl none) m') → (∀ (k : Nat) (m' : am_M), Q (.inr k) m' → Q' (.inr k) m') → T G (dp - 1) 1 6 M8_seekBallot [rV (some r0), iV (i1)] m Q')  : X G dp a b M8_times 0 [some (rV (some r0)), some (iV (i1))] [] m Q := by
  refine X_aload_n dX8_times_0 rfl rfl ?_
  refine X_iload_n dX8_times_1 rfl rfl ?_
  exact X_callV (As := [iV (i1)]) (rest := []) (a' := 1) (b' := 6) dX8_times_2 t8_seekBallot ml_8_254 h1 rfl rfl (Nat.le_of_ble_eq_true rfl) rfl hdp ha hb (k1 _ (fun m' h => h) (fun _ _ h => h))

theorem s8_times_5 {G : am_G} {dp a b : Nat} {m : am_M} {Q : am_Q} {i1 : Int} {r0 p1 p2 : Nat} {n_p2 : Nat} (h1 : am_ob m r0 7) (h2 : m.2.1 r0 6 = some p1) (h3 : am_ob m p1 1) (h4 : m.2.1 p1 4 = some p2) (h5 : am_ar m p2 100 n_p2) (k1 : Q (.inl (some (iV (m.1 p2 (i1).toNat)))) m) (h6 : 0 ≤ i1 := by intros; first | omega | (dsimp only at *; omega)) (h7 : i1 < (n_p2 : Int) := by intros; first | omega | (dsimp only at *; omega)) : X G dp a b M8_times 5 [some (rV (some r0)), some (iV (i1))] [] m Q := by
  refine X_aload_n dX8_times_5 rfl rfl ?_
  refine X_getP dX8_times_6 fl_8_40 rfl h1 ?_
  refine am_ptr h2 ?_
  refine X_getP dX8_times_9 fl_8_273 rfl h3 ?_
  refine am_ptr h4 ?_
  refine X_iload_n dX8_times_12 rfl rfl ?_
  refine X_iald dX8_times_13 h5 h6 h7 ?_
  exact X_iret dX8_times_14 rfl k1

theorem s8_mistakes_0 {G : am_G} {dp a b : Nat} {m : am_M} {Q : am_Q} {i1 i2 : Int} {r0 : Nat} {o3 o4 o5 o6 : Option am_V} (hdp : 1 ≤ dp) (ha : 1 ≤ a) (hb : 6 ≤ b) (h1 : am_ob m r0 7) (k1 : ∀ Q' : am_Q, (∀ (z : Nat) (m' : am_M), X G dp (a - 1) (b - 6) M8_mistakes 5 [some (rV (some r0)), some (iV (i1)), some (iV (i2)), o3, o4, o5, o6] [rV (some z)] m' Q → Q' (.inl (some (rV (some z)))) m') → (∀ (k : Nat) (m' : am_M), Q (.inr k) m' → Q' (.inr k) m') → T G (dp - 1) 1 6 M8_contestOf [rV (some r0), iV (i1)] m Q')  : X G dp a b M8_mistakes 0 [some (rV (some r0)), some (iV (i1)), some (iV (i2)), o3, o4, o5, o6] [] m Q := by
  refine X_aload_n dX8_mistakes_0 rfl rfl ?_
  refine X_iload_n dX8_mistakes_1 rfl rfl ?_
  exact X_callV (As := [iV (i1)]) (rest := []) (a' := 1) (b' := 6) dX8_mistakes_2 t8_contestOf ml_8_146 h1 rfl rfl (Nat.le_of_ble_eq_true rfl) rfl hdp ha hb (k1 _ (fun z m' h => h) (fun _ _ h => h))

theorem s8_mistakes_5 {G : am_G} {dp a b : Nat} {m : am_M} {Q : am_Q} {i1 i2 : Int} {r0 r90 : Nat} {o3 o4 o5 o6 : Option am_V} (ha : 1 ≤ a) (hb : 6 ≤ b)  (k1 : (i2 < (-2)) → Q (.inr 1) (am_nx m)) (k2 : ¬ (i2 < (-2)) → (i2 ≤ 2) → X G dp a b M8_mistakes 34 [some (rV (some r0)), some (iV (i1)), some (iV (i2)), some (rV (some r90)), some (iV (0)), some (iV (0)), o6] [] m Q) (k3 : ¬ (i2 < (-2)) → ¬ (i2 ≤ 2) → Q (.inr 1) (am_nx m))  : X G dp a b M8_mistakes 5 [some (rV (some r0)), some (iV (i1)), some (iV (i2)), o3, o4, o5, o6] [rV (some r90)] m Q := by
  refine X_astore_n dX8_mistakes_5 rfl (Nat.le_of_ble_eq_true rfl) ?_
  refine X_iload_n dX8_mistakes_6 rfl rfl ?_
  refine Y_bipush dX8_mistakes_7 (by omega) ?_
  refine X_icmp_lt (tgt := 17) dX8_mistakes_9 (by decide) (fun c1 => ?_) (fun c1 => ?_)
  · exact X_throwW (k := 1) (j := 21) (tx := "no such mistake") (by decide) rfl rfl dX8_mistakes_17 dX8_mistakes_20 dX8_mistakes_21 dX8_mistakes_24 dX8_mistakes_27 rfl (Nat.le_of_ble_eq_true rfl) ha hb (k1 c1)
  · refine X_iload_n dX8_mistakes_12 rfl rfl ?_
    refine Y_iconst dX8_mistakes_13 (by unfold i32; omega) ?_
    refine X_icmp_le (tgt := 28) dX8_mistakes_14 (by decide) (fun c2 => ?_) (fun c2 => ?_)
    · refine Y_iconst dX8_mistakes_28 (by unfold i32; omega) ?_
      refine X_istore dX8_mistakes_29 (Nat.le_of_ble_eq_true rfl) ?_
      refine Y_iconst dX8_mistakes_31 (by unfold i32; omega) ?_
      refine X_istore dX8_mistakes_32 (Nat.le_of_ble_eq_true rfl) ?_
      exact (k2 c1 c2)
    · exact X_throwW (k := 1) (j := 21) (tx := "no such mistake") (by decide) rfl rfl dX8_mistakes_17 dX8_mistakes_20 dX8_mistakes_21 dX8_mistakes_24 dX8_mistakes_27 rfl (Nat.le_of_ble_eq_true rfl) ha hb (k3 c1 c2)

theorem s8_mistakes_34 {G : am_G} {dp a b : Nat} {m : am_M} {Q : am_Q} {i1 i2 i4 i5 : Int} {r0 r3 p1 p2 p3 : Nat} {o6 : Option am_V} {n_p2 n_p3 : Nat} (h1 : am_ob m r0 7) (h2 : m.2.1 r0 6 = some p1) (h3 : am_ob m p1 1) (h4 : m.2.1 p1 3 = some p2) (h5 : am_ar m p2 100 n_p2) (h8 : am_ob m r3 2) (h9 : m.2.1 r3 2 = some p3) (h10 : am_ar m p3 100 n_p3) (k1 : ((m.1 p1 5) ≤ i5) → Q (.inl (some (iV (i4)))) m) (k2 : ¬ ((m.1 p1 5) ≤ i5) → (300 ≤ i5) → Q (.inl (some (iV (i4)))) m) (k3 : ¬ ((m.1 p1 5) ≤ i5) → ¬ (300 ≤ i5) → ((m.1 p2 (i5).toNat) < 0) → X G dp a b M8_mistakes 34 [some (rV (some r0)), some (iV (i1)), some (iV (i2)), some (rV (some r3)), some (iV (i4)), some (iV (wr (i5 + 1))), some (iV (m.1 p2 (i5).toNat))] [] m Q) (k4 : ¬ ((m.1 p1 5) ≤ i5) → ¬ (300 ≤ i5) → ¬ ((m.1 p2 (i5).toNat) < 0) → (200 ≤ (m.1 p2 (i5).toNat)) → X G dp a b M8_mistakes 34 [some (rV (some r0)), some (iV (i1)), some (iV (i2)), some (rV (some r3)), some (iV (i4)), some (iV (wr (i5 + 1))), some (iV (m.1 p2 (i5).toNat))] [] m Q) (k5 : ¬ ((m.1 p1 5) ≤ i5) → ¬ (300 ≤ i5) → ¬ ((m.1 p2 (i5).toNat) < 0) → ¬ (200 ≤ (m.1 p2 (i5).toNat)) → ¬ ((m.1 p3 (m.1 p2 (i5).toNat).toNat) = i2) → X G dp a b M8_mistakes 34 [some (rV (some r0)), some (iV (i1)), some (iV (i2)), some (rV (some r3)), some (iV (i4)), some (iV (wr (i5 + 1))), some (iV (m.1 p2 (i5).toNat))] [] m Q) (k6 : ¬ ((m.1 p1 5) ≤ i5) → ¬ (300 ≤ i5) → ¬ ((m.1 p2 (i5).toNat) < 0) → ¬ (200 ≤ (m.1 p2 (i5).toNat)) → ((m.1 p3 (m.1 p2 (i5).toNat).toNat) = i2) → X G dp a b M8_mistakes 34 [some (rV (some r0)), some (iV (i1)), some (iV (i2)), some (rV (some r3)), some (iV (wr (i4 + 1))), some (iV (wr (i5 + 1))), some (iV (m.1 p2 (i5).toNat))] [] m Q) (h6 : ¬ ((m.1 p1 5) ≤ i5) → ¬ (300 ≤ i5) → 0 ≤ i5 := by intros; first | omega | (dsimp only at *; omega)) (h7 : ¬ ((m.1 p1 5) ≤ i5) → ¬ (300 ≤ i5) → i5 < (n_p2 : Int) := by intros; first | omega | (dsimp only at *; omega)) (h11 : ¬ ((m.1 p1 5) ≤ i5) → ¬ (300 ≤ i5) → ¬ ((m.1 p2 (i5).toNat) < 0) → ¬ (200 ≤ (m.1 p2 (i5).toNat)) → 0 ≤ m.1 p2 (i5).toNat := by intros; first | omega | (dsimp only at *; omega)) (h12 : ¬ ((m.1 p1 5) ≤ i5) → ¬ (300 ≤ i5) → ¬ ((m.1 p2 (i5).toNat) < 0) → ¬ (200 ≤ (m.1 p2 (i5).toNat)) → m.1 p2 (i5).toNat < (n_p3 : Int) := by intros; first | omega | (dsimp only at *; omega)) : X G dp a b M8_mistakes 34 [some (rV (some r0)), some (iV (i1)), some (iV (i2)), some (rV (some r3)), some (iV (i4)), some (iV (i5)), o6] [] m Q := by
  refine X_iload dX8_mistakes_34 rfl ?_
  refine X_aload_n dX8_mistakes_36 rfl rfl ?_
  refine X_getP dX8_mistakes_37 fl_8_40 rfl h1 ?_
  refine am_ptr h2 ?_
  refine X_getI dX8_mistakes_40 fl_8_121 (by decide) h3 ?_
  refine X_icmp_ge (tgt := 99) dX8_mistakes_43 (by decide) (fun c1 => ?_) (fun c1 => ?_)
  · refine X_iload dX8_mistakes_99 rfl ?_
    exact X_iret dX8_mistakes_101 rfl (k1 c1)
  · refine X_iload dX8_mistakes_46 rfl ?_
    refine Y_sipush dX8_mistakes_48 (by omega) ?_
    refine X_icmp_ge (tgt := 99) dX8_mistakes_51 (by decide) (fun c2 => ?_) (fun c2 => ?_)
    · refine X_iload dX8_mistakes_99 rfl ?_
      exact X_iret dX8_mistakes_101 rfl (k2 c1 c2)
    · refine X_aload_n dX8_mistakes_54 rfl rfl ?_
      refine X_getP dX8_mistakes_55 fl_8_40 rfl h1 ?_
      refine am_ptr h2 ?_
      refine X_getP dX8_mistakes_58 fl_8_270 rfl h3 ?_
      refine am_ptr h4 ?_
      refine X_iload dX8_mistakes_61 rfl ?_
      refine X_iald dX8_mistakes_63 h5 (h6 c1 c2) (h7 c1 c2) ?_
      refine X_istore dX8_mistakes_64 (Nat.le_of_ble_eq_true rfl) ?_
      refine X_iload dX8_mistakes_66 rfl ?_
      refine X_if_lt (tgt := 93) dX8_mistakes_68 (by decide) (fun c3 => ?_) (fun c3 => ?_)
      · refine X_iinc dX8_mistakes_93 rfl ?_
        refine X_goto (tgt := 34) dX8_mistakes_96 (by decide) ?_
        exact (k3 c1 c2 c3)
      · refine X_iload dX8_mistakes_71 rfl ?_
        refine Y_sipush dX8_mistakes_73 (by omega) ?_
        refine X_icmp_ge (tgt := 93) dX8_mistakes_76 (by decide) (fun c4 => ?_) (fun c4 => ?_)
        · refine X_iinc dX8_mistakes_93 rfl ?_
          refine X_goto (tgt := 34) dX8_mistakes_96 (by decide) ?_
          exact (k4 c1 c2 c3 c4)
        · refine X_aload_n dX8_mistakes_79 rfl rfl ?_
          refine X_getP dX8_mistakes_80 fl_8_263 rfl h8 ?_
          refine am_ptr h9 ?_
          refine X_iload dX8_mistakes_83 rfl ?_
          refine X_iald dX8_mistakes_85 h10 (h11 c1 c2 c3 c4) (h12 c1 c2 c3 c4) ?_
          refine X_iload_n dX8_mistakes_86 rfl rfl ?_
          refine X_icmp_ne (tgt := 93) dX8_mistakes_87 (by decide) (fun c5 => ?_) (fun c5 => ?_)
          · refine X_iinc dX8_mistakes_93 rfl ?_
            refine X_goto (tgt := 34) dX8_mistakes_96 (by decide) ?_
            exact (k5 c1 c2 c3 c4 c5)
          · refine X_iinc dX8_mistakes_90 rfl ?_
            refine X_iinc dX8_mistakes_93 rfl ?_
            refine X_goto (tgt := 34) dX8_mistakes_96 (by decide) ?_
            exact (k6 c1 c2 c3 c4 c5)

theorem s8_riskAt_0 {G : am_G} {dp a b : Nat} {m : am_M} {Q : am_Q} {i1 i2 : Int} {r0 : Nat} (hdp : 1 ≤ dp) (ha : 1 ≤ a) (hb : 6 ≤ b) (h1 : am_ob m r0 7) (k1 : ∀ Q' : am_Q, (∀ (z : Nat) (m' : am_M), X G dp (a - 1) (b - 6) M8_riskAt 5 [some (rV (some r0)), some (iV (i1)), some (iV (i2))] [rV (some z)] m' Q → Q' (.inl (some (rV (some z)))) m') → (∀ (k : Nat) (m' : am_M), Q (.inr k) m' → Q' (.inr k) m') → T G (dp - 1) 1 6 M8_contestOf [rV (some r0), iV (i1)] m Q')  : X G dp a b M8_riskAt 0 [some (rV (some r0)), some (iV (i1)), some (iV (i2))] [] m Q := by
  refine X_aload_n dX8_riskAt_0 rfl rfl ?_
  refine X_iload_n dX8_riskAt_1 rfl rfl ?_
  exact X_callV (As := [iV (i1)]) (rest := []) (a' := 1) (b' := 6) dX8_riskAt_2 t8_contestOf ml_8_146 h1 rfl rfl (Nat.le_of_ble_eq_true rfl) rfl hdp ha hb (k1 _ (fun z m' h => h) (fun _ _ h => h))

theorem s8_riskAt_5 {G : am_G} {dp a b : Nat} {m : am_M} {Q : am_Q} {i1 i2 : Int} {r0 r90 p1 p2 p3 : Nat} {t_p2 n_p2 n_p3 : Nat} (ha : 1 ≤ a) (hb : 6 ≤ b) (h1 : am_ob m r0 7) (h2 : m.2.1 r0 6 = some p1) (h3 : am_ob m p1 1) (h4 : m.2.1 p1 1 = some p2) (h5 : t_p2 = 103 ∨ t_p2 = 104) (h6 : am_ar m p2 t_p2 n_p2) (h9 : ¬ (i2 < 0) → ¬ ((m.1 p1 5) < i2) → i2 ≤ 300 → m.2.1 p2 (i1).toNat = some p3) (h10 : ¬ (i2 < 0) → ¬ ((m.1 p1 5) < i2) → i2 ≤ 300 → am_ar m p3 101 n_p3) (k1 : (i2 < 0) → Q (.inr 1) (am_nx m)) (k2 : ¬ (i2 < 0) → ((m.1 p1 5) < i2) → Q (.inr 1) (am_nx m)) (k3 : ¬ (i2 < 0) → ¬ ((m.1 p1 5) < i2) → (i2 ≤ 300) → Q (.inl (some (lV (m.1 p3 (i2).toNat)))) m) (k4 : ¬ (i2 < 0) → ¬ ((m.1 p1 5) < i2) → ¬ (i2 ≤ 300) → Q (.inr 1) (am_nx m)) (h7 : ¬ (i2 < 0) → ¬ ((m.1 p1 5) < i2) → i2 ≤ 300 → 0 ≤ i1 := by intros; first | omega | (dsimp only at *; omega)) (h8 : ¬ (i2 < 0) → ¬ ((m.1 p1 5) < i2) → i2 ≤ 300 → i1 < (n_p2 : Int) := by intros; first | omega | (dsimp only at *; omega)) (h11 : ¬ (i2 < 0) → ¬ ((m.1 p1 5) < i2) → i2 ≤ 300 → 0 ≤ i2 := by intros; first | omega | (dsimp only at *; omega)) (h12 : ¬ (i2 < 0) → ¬ ((m.1 p1 5) < i2) → i2 ≤ 300 → i2 < (n_p3 : Int) := by intros; first | omega | (dsimp only at *; omega)) : X G dp a b M8_riskAt 5 [some (rV (some r0)), some (iV (i1)), some (iV (i2))] [rV (some r90)] m Q := by
  refine X_pop dX8_riskAt_5 rfl ?_
  refine X_iload_n dX8_riskAt_6 rfl rfl ?_
  refine X_if_lt (tgt := 28) dX8_riskAt_7 (by decide) (fun c1 => ?_) (fun c1 => ?_)
  · exact X_throwW (k := 1) (j := 22) (tx := "not so many draws") (by decide) rfl rfl dX8_riskAt_28 dX8_riskAt_31 dX8_riskAt_32 dX8_riskAt_35 dX8_riskAt_38 rfl (Nat.le_of_ble_eq_true rfl) ha hb (k1 c1)
  · refine X_iload_n dX8_riskAt_10 rfl rfl ?_
    refine X_aload_n dX8_riskAt_11 rfl rfl ?_
    refine X_getP dX8_riskAt_12 fl_8_40 rfl h1 ?_
    refine am_ptr h2 ?_
    refine X_getI dX8_riskAt_15 fl_8_121 (by decide) h3 ?_
    refine X_icmp_gt (tgt := 28) dX8_riskAt_18 (by decide) (fun c2 => ?_) (fun c2 => ?_)
    · exact X_throwW (k := 1) (j := 22) (tx := "not so many draws") (by decide) rfl rfl dX8_riskAt_28 dX8_riskAt_31 dX8_riskAt_32 dX8_riskAt_35 dX8_riskAt_38 rfl (Nat.le_of_ble_eq_true rfl) ha hb (k2 c1 c2)
    · refine X_iload_n dX8_riskAt_21 rfl rfl ?_
      refine Y_sipush dX8_riskAt_22 (by omega) ?_
      refine X_icmp_le (tgt := 39) dX8_riskAt_25 (by decide) (fun c3 => ?_) (fun c3 => ?_)
      · refine X_aload_n dX8_riskAt_39 rfl rfl ?_
        refine X_getP dX8_riskAt_40 fl_8_40 rfl h1 ?_
        refine am_ptr h2 ?_
        refine X_getP dX8_riskAt_43 fl_8_280 rfl h3 ?_
        refine am_ptr h4 ?_
        refine X_iload_n dX8_riskAt_46 rfl rfl ?_
        refine X_aald dX8_riskAt_47 h5 h6 (h7 c1 c2 c3) (h8 c1 c2 c3) ?_
        refine am_ptr (h9 c1 c2 c3) ?_
        refine X_iload_n dX8_riskAt_48 rfl rfl ?_
        refine X_lald dX8_riskAt_49 (h10 c1 c2 c3) (h11 c1 c2 c3) (h12 c1 c2 c3) ?_
        exact X_lret dX8_riskAt_50 rfl (k3 c1 c2 c3)
      · exact X_throwW (k := 1) (j := 22) (tx := "not so many draws") (by decide) rfl rfl dX8_riskAt_28 dX8_riskAt_31 dX8_riskAt_32 dX8_riskAt_35 dX8_riskAt_38 rfl (Nat.le_of_ble_eq_true rfl) ha hb (k4 c1 c2 c3)

theorem s8_draw_0 {G : am_G} {dp a b : Nat} {m : am_M} {Q : am_Q} {i1 : Int} {r0 p1 p2 p3 : Nat} {o2 o3 : Option am_V} {n_p3 : Nat} (hdp : 1 ≤ dp) (ha : 1 ≤ a) (hb : 6 ≤ b) (h1 : am_ob m r0 7) (h2 : m.2.1 r0 6 = some p1) (h3 : am_ob m p1 1) (h4 : m.2.1 r0 4 = some p2) (h5 : am_ob m p2 3) (h6 : m.2.1 p2 1 = some p3) (h7 : am_ar m p3 100 n_p3) (k1 : (i1 < 1) → Q (.inr 0) (am_nx m)) (k2 : ¬ (i1 < 1) → (i1 ≤ 300) → ∀ Q' : am_Q, (∀ (m' : am_M), X G dp a b M8_draw 56 [some (rV (some r0)), some (iV (i1)), some (iV (m.1 p1 5)), o3] [] m' Q → Q' (.inl none) m') → T G (dp - 1) 0 0 M1_goOn [rV (some p1), rV (some p2), iV (min (wr ((m.1 p1 5) + i1)) (m.1 p3 ((2 : Int)).toNat))] m Q') (k3 : ¬ (i1 < 1) → ¬ (i1 ≤ 300) → Q (.inr 0) (am_nx m)) (h8 : ¬ (i1 < 1) → i1 ≤ 300 → 2 < (n_p3 : Int) := by intros; first | omega | (dsimp only at *; omega)) : X G dp a b M8_draw 0 [some (rV (some r0)), some (iV (i1)), o2, o3] [] m Q := by
  refine X_iload_n dX8_draw_0 rfl rfl ?_
  refine Y_iconst dX8_draw_1 (by unfold i32; omega) ?_
  refine X_icmp_lt (tgt := 12) dX8_draw_2 (by decide) (fun c1 => ?_) (fun c1 => ?_)
  · exact X_throw (k := 0) (j := 16) (tx := "no such number of draws") (by decide) rfl rfl dX8_draw_12 dX8_draw_15 dX8_draw_16 dX8_draw_18 dX8_draw_21 rfl (Nat.le_of_ble_eq_true rfl) ha hb (k1 c1)
  · refine X_iload_n dX8_draw_5 rfl rfl ?_
    refine Y_sipush dX8_draw_6 (by omega) ?_
    refine X_icmp_le (tgt := 22) dX8_draw_9 (by decide) (fun c2 => ?_) (fun c2 => ?_)
    · refine X_aload_n dX8_draw_22 rfl rfl ?_
      refine X_getP dX8_draw_23 fl_8_40 rfl h1 ?_
      refine am_ptr h2 ?_
      refine X_getI dX8_draw_26 fl_8_121 (by decide) h3 ?_
      refine X_istore_n dX8_draw_29 rfl (Nat.le_of_ble_eq_true rfl) ?_
      refine X_aload_n dX8_draw_30 rfl rfl ?_
      refine X_getP dX8_draw_31 fl_8_40 rfl h1 ?_
      refine am_ptr h2 ?_
      refine X_aload_n dX8_draw_34 rfl rfl ?_
      refine X_getP dX8_draw_35 fl_8_30 rfl h1 ?_
      refine am_ptr h4 ?_
      refine X_iload_n dX8_draw_38 rfl rfl ?_
      refine X_iload_n dX8_draw_39 rfl rfl ?_
      refine X_iadd dX8_draw_40  ?_
      refine X_aload_n dX8_draw_41 rfl rfl ?_
      refine X_getP dX8_draw_42 fl_8_30 rfl h1 ?_
      refine am_ptr h4 ?_
      refine X_getP dX8_draw_45 fl_8_117 rfl h5 ?_
      refine am_ptr h6 ?_
      refine Y_iconst dX8_draw_48 (by unfold i32; omega) ?_
      refine X_iald dX8_draw_49 h7 (by decide) (h8 c1 c2) ?_
      refine X_minI dX8_draw_50 ml_8_283 (Nat.le_of_ble_eq_true rfl) ?_
      exact X_callV (As := [rV (some p2), iV (min (wr ((m.1 p1 5) + i1)) (m.1 p3 ((2 : Int)).toNat))]) (rest := []) (a' := 0) (b' := 0) dX8_draw_53 t1_goOn ml_8_289 h3 rfl rfl (Nat.le_of_ble_eq_true rfl) rfl hdp (Nat.zero_le _) (Nat.zero_le _) ((k2 c1 c2) _ (fun m' h => h))
    · exact X_throw (k := 0) (j := 16) (tx := "no such number of draws") (by decide) rfl rfl dX8_draw_12 dX8_draw_15 dX8_draw_16 dX8_draw_18 dX8_draw_21 rfl (Nat.le_of_ble_eq_true rfl) ha hb (k3 c1 c2)

theorem s8_draw_56 {G : am_G} {dp a b : Nat} {m : am_M} {Q : am_Q} {i1 i2 : Int} {r0 p1 p2 p3 : Nat} {o3 : Option am_V} (hdp : 1 ≤ dp) (h1 : am_ob m r0 7) (h2 : m.2.1 r0 6 = some p1) (h3 : am_ob m p1 1) (h4 : m.2.1 r0 8 = some p2) (h5 : m.2.1 r0 4 = some p3) (h6 : am_ob m p3 3) (h7 : am_ob m p2 0) (k1 : ¬ ((wr ((m.1 p1 5) - i2)) = 0) → ∀ Q' : am_Q, (∀ (m' : am_M), X G dp a b M8_draw 89 [some (rV (some r0)), some (iV (i1)), some (iV (i2)), some (iV (wr ((m.1 p1 5) - i2)))] [] m' Q → Q' (.inl none) m') → T G (dp - 1) 0 0 M0_add [rV (some p2), iV (0), iV (0), iV (0), iV (m.1 p3 5)] m Q') (k2 : ((wr ((m.1 p1 5) - i2)) = 0) → Q (.inl (some (iV ((-1))))) m)  : X G dp a b M8_draw 56 [some (rV (some r0)), some (iV (i1)), some (iV (i2)), o3] [] m Q := by
  refine X_aload_n dX8_draw_56 rfl rfl ?_
  refine X_getP dX8_draw_57 fl_8_40 rfl h1 ?_
  refine am_ptr h2 ?_
  refine X_getI dX8_draw_60 fl_8_121 (by decide) h3 ?_
  refine X_iload_n dX8_draw_63 rfl rfl ?_
  refine X_isub dX8_draw_64  ?_
  refine X_istore_n dX8_draw_65 rfl (Nat.le_of_ble_eq_true rfl) ?_
  refine X_iload_n dX8_draw_66 rfl rfl ?_
  refine X_if_ne (tgt := 72) dX8_draw_67 (by decide) (fun c1 => ?_) (fun c1 => ?_)
  · refine X_aload_n dX8_draw_72 rfl rfl ?_
    refine X_getP dX8_draw_73 fl_8_50 rfl h1 ?_
    refine am_ptr h4 ?_
    refine Y_iconst dX8_draw_76 (by unfold i32; omega) ?_
    refine Y_iconst dX8_draw_77 (by unfold i32; omega) ?_
    refine Y_iconst dX8_draw_78 (by unfold i32; omega) ?_
    refine X_aload_n dX8_draw_79 rfl rfl ?_
    refine X_getP dX8_draw_80 fl_8_30 rfl h1 ?_
    refine am_ptr h5 ?_
    refine X_getI dX8_draw_83 fl_8_293 (by decide) h6 ?_
    exact X_callV (As := [iV (0), iV (0), iV (0), iV (m.1 p3 5)]) (rest := []) (a' := 0) (b' := 0) dX8_draw_86 t0_add ml_8_296 h7 rfl rfl (Nat.le_of_ble_eq_true rfl) rfl hdp (Nat.zero_le _) (Nat.zero_le _) ((k1 c1) _ (fun m' h => h))
  · refine Y_iconst dX8_draw_70 (by unfold i32; omega) ?_
    exact X_iret dX8_draw_71 rfl (k2 c1)

theorem s8_draw_89 {G : am_G} {dp a b : Nat} {m : am_M} {Q : am_Q} {i1 i2 i3 : Int} {r0 p1 p2 : Nat} (h1 : am_ob m r0 7) (h2 : m.2.1 r0 4 = some p1) (h3 : m.2.1 r0 6 = some p2) (h4 : am_ob m p2 1) (h5 : am_obw m p1 3) (k1 : Q (.inl (some (iV (i3)))) ((u2 m.1 p1 5 (m.1 p2 5)), m.2.1, m.2.2))  : X G dp a b M8_draw 89 [some (rV (some r0)), some (iV (i1)), some (iV (i2)), some (iV (i3))] [] m Q := by
  refine X_aload_n dX8_draw_89 rfl rfl ?_
  refine X_getP dX8_draw_90 fl_8_30 rfl h1 ?_
  refine am_ptr h2 ?_
  refine X_aload_n dX8_draw_93 rfl rfl ?_
  refine X_getP dX8_draw_94 fl_8_40 rfl h1 ?_
  refine am_ptr h3 ?_
  refine X_getI dX8_draw_97 fl_8_121 (by decide) h4 ?_
  refine X_putI dX8_draw_100 fw_8_293 rfl h5 ?_
  refine X_iload_n dX8_draw_103 rfl rfl ?_
  exact X_iret dX8_draw_104 rfl k1

theorem s8_next_0 {G : am_G} {dp a b : Nat} {m : am_M} {Q : am_Q} {i1 i2 : Int} {r0 : Nat} (hdp : 1 ≤ dp) (ha : 1 ≤ a) (hb : 6 ≤ b) (h1 : am_ob m r0 7) (k1 : ∀ Q' : am_Q, (∀ (z : Nat) (m' : am_M), X G dp (a - 1) (b - 6) M8_next 5 [some (rV (some r0)), some (iV (i1)), some (iV (i2))] [rV (some z)] m' Q → Q' (.inl (some (rV (some z)))) m') → (∀ (k : Nat) (m' : am_M), Q (.inr k) m' → Q' (.inr k) m') → T G (dp - 1) 1 6 M8_contestOf [rV (some r0), iV (i1)] m Q')  : X G dp a b M8_next 0 [some (rV (some r0)), some (iV (i1)), some (iV (i2))] [] m Q := by
  refine X_aload_n dX8_next_0 rfl rfl ?_
  refine X_iload_n dX8_next_1 rfl rfl ?_
  exact X_callV (As := [iV (i1)]) (rest := []) (a' := 1) (b' := 6) dX8_next_2 t8_contestOf ml_8_146 h1 rfl rfl (Nat.le_of_ble_eq_true rfl) rfl hdp ha hb (k1 _ (fun z m' h => h) (fun _ _ h => h))

theorem s8_next_5 {G : am_G} {dp a b : Nat} {m : am_M} {Q : am_Q} {i1 i2 : Int} {r0 r90 : Nat} (hdp : 1 ≤ dp) (ha : 1 ≤ a) (hb : 6 ≤ b) (h1 : am_ob m r0 7) (k1 : ∀ Q' : am_Q, (∀ (m' : am_M), X G dp (a - 1) (b - 6) M8_next 11 [some (rV (some r0)), some (iV (i1)), some (iV (i2))] [] m' Q → Q' (.inl none) m') → (∀ (k : Nat) (m' : am_M), Q (.inr k) m' → Q' (.inr k) m') → T G (dp - 1) 1 6 M8_seekBallot [rV (some r0), iV (i2)] m Q')  : X G dp a b M8_next 5 [some (rV (some r0)), some (iV (i1)), some (iV (i2))] [rV (some r90)] m Q := by
  refine X_pop dX8_next_5 rfl ?_
  refine X_aload_n dX8_next_6 rfl rfl ?_
  refine X_iload_n dX8_next_7 rfl rfl ?_
  exact X_callV (As := [iV (i2)]) (rest := []) (a' := 1) (b' := 6) dX8_next_8 t8_seekBallot ml_8_254 h1 rfl rfl (Nat.le_of_ble_eq_true rfl) rfl hdp ha hb (k1 _ (fun m' h => h) (fun _ _ h => h))

theorem s8_next_11 {G : am_G} {dp a b : Nat} {m : am_M} {Q : am_Q} {i1 i2 : Int} {r0 p1 p2 : Nat} (hdp : 1 ≤ dp) (h1 : am_ob m r0 7) (h2 : m.2.1 r0 6 = some p1) (h3 : m.2.1 r0 4 = some p2) (h4 : am_ob m p1 1) (k1 : ∀ Q' : am_Q, (∀ (z : Int) (m' : am_M), X G dp a b M8_next 24 [some (rV (some r0)), some (iV (i1)), some (iV (i2))] [lV (z)] m' Q → Q' (.inl (some (lV (z)))) m') → T G (dp - 1) 0 0 M1_riskWith [rV (some p1), rV (some p2), iV (i1), iV (i2)] m Q')  : X G dp a b M8_next 11 [some (rV (some r0)), some (iV (i1)), some (iV (i2))] [] m Q := by
  refine X_aload_n dX8_next_11 rfl rfl ?_
  refine X_getP dX8_next_12 fl_8_40 rfl h1 ?_
  refine am_ptr h2 ?_
  refine X_aload_n dX8_next_15 rfl rfl ?_
  refine X_getP dX8_next_16 fl_8_30 rfl h1 ?_
  refine am_ptr h3 ?_
  refine X_iload_n dX8_next_19 rfl rfl ?_
  refine X_iload_n dX8_next_20 rfl rfl ?_
  exact X_callV (As := [rV (some p2), iV (i1), iV (i2)]) (rest := []) (a' := 0) (b' := 0) dX8_next_21 t1_riskWith ml_8_202 h4 rfl rfl (Nat.le_of_ble_eq_true rfl) rfl hdp (Nat.zero_le _) (Nat.zero_le _) (k1 _ (fun z m' h => h))

theorem s8_next_24 {G : am_G} {dp a b : Nat} {m : am_M} {Q : am_Q} {i1 i2 l90 : Int} {r0 : Nat}  (k1 : Q (.inl (some (lV (l90)))) m)  : X G dp a b M8_next 24 [some (rV (some r0)), some (iV (i1)), some (iV (i2))] [lV (l90)] m Q := by
  exact X_lret dX8_next_24 rfl k1

theorem s8_paper_0 {G : am_G} {dp a b : Nat} {m : am_M} {Q : am_Q} {i1 i2 i3 : Int} {r0 : Nat} {o4 o5 : Option am_V} (hdp : 1 ≤ dp) (ha : 1 ≤ a) (hb : 6 ≤ b) (h1 : am_ob m r0 7) (k1 : ∀ Q' : am_Q, (∀ (z : Nat) (m' : am_M), X G dp (a - 1) (b - 6) M8_paper 5 [some (rV (some r0)), some (iV (i1)), some (iV (i2)), some (iV (i3)), o4, o5] [rV (some z)] m' Q → Q' (.inl (some (rV (some z)))) m') → (∀ (k : Nat) (m' : am_M), Q (.inr k) m' → Q' (.inr k) m') → T G (dp - 1) 1 6 M8_contestOf [rV (some r0), iV (i2)] m Q')  : X G dp a b M8_paper 0 [some (rV (some r0)), some (iV (i1)), some (iV (i2)), some (iV (i3)), o4, o5] [] m Q := by
  refine X_aload_n dX8_paper_0 rfl rfl ?_
  refine X_iload_n dX8_paper_1 rfl rfl ?_
  exact X_callV (As := [iV (i2)]) (rest := []) (a' := 1) (b' := 6) dX8_paper_2 t8_contestOf ml_8_146 h1 rfl rfl (Nat.le_of_ble_eq_true rfl) rfl hdp ha hb (k1 _ (fun z m' h => h) (fun _ _ h => h))

theorem s8_paper_5 {G : am_G} {dp a b : Nat} {m : am_M} {Q : am_Q} {i1 i2 i3 : Int} {r0 r90 : Nat} {o4 o5 : Option am_V} (hdp : 1 ≤ dp) (ha : 1 ≤ a) (hb : 6 ≤ b) (h1 : am_ob m r0 7) (k1 : ∀ Q' : am_Q, (∀ (m' : am_M), X G dp (a - 1) (b - 6) M8_paper 12 [some (rV (some r0)), some (iV (i1)), some (iV (i2)), some (iV (i3)), some (rV (some r90)), o5] [] m' Q → Q' (.inl none) m') → (∀ (k : Nat) (m' : am_M), Q (.inr k) m' → Q' (.inr k) m') → T G (dp - 1) 1 6 M8_seekBallot [rV (some r0), iV (i1)] m Q')  : X G dp a b M8_paper 5 [some (rV (some r0)), some (iV (i1)), some (iV (i2)), some (iV (i3)), o4, o5] [rV (some r90)] m Q := by
  refine X_astore dX8_paper_5 (Nat.le_of_ble_eq_true rfl) ?_
  refine X_aload_n dX8_paper_7 rfl rfl ?_
  refine X_iload_n dX8_paper_8 rfl rfl ?_
  exact X_callV (As := [iV (i1)]) (rest := []) (a' := 1) (b' := 6) dX8_paper_9 t8_seekBallot ml_8_254 h1 rfl rfl (Nat.le_of_ble_eq_true rfl) rfl hdp ha hb (k1 _ (fun m' h => h) (fun _ _ h => h))

theorem s8_paper_12 {G : am_G} {dp a b : Nat} {m : am_M} {Q : am_Q} {i1 i2 i3 : Int} {r0 r4 p1 p2 : Nat} {o5 : Option am_V} {n_p1 : Nat} (hdp : 1 ≤ dp) (ha : 1 ≤ a) (hb : 6 ≤ b) (h1 : am_ob m r4 2) (h2 : m.2.1 r4 1 = some p1) (h3 : am_ar m p1 100 n_p1) (h6 : am_ob m r0 7) (h7 : m.2.1 r0 8 = some p2) (h8 : am_ob m p2 0) (k1 : (i3 < (-2)) → Q (.inr 0) (am_nx m)) (k2 : ¬ (i3 < (-2)) → (i3 < (m.1 r4 5)) → ∀ Q' : am_Q, (∀ (m' : am_M), X G dp a b M8_paper 59 [some (rV (some r0)), some (iV (i1)), some (iV (i2)), some (iV (i3)), some (rV (some r4)), some (iV (m.1 p1 (i1).toNat))] [] m' Q → Q' (.inl none) m') → T G (dp - 1) 0 0 M0_add [rV (some p2), iV (1), iV (i2), iV (i1), iV (m.1 p1 (i1).toNat)] m Q') (k3 : ¬ (i3 < (-2)) → ¬ (i3 < (m.1 r4 5)) → Q (.inr 0) (am_nx m)) (h4 : ¬ (i3 < (-2)) → i3 < (m.1 r4 5) → 0 ≤ i1 := by intros; first | omega | (dsimp only at *; omega)) (h5 : ¬ (i3 < (-2)) → i3 < (m.1 r4 5) → i1 < (n_p1 : Int) := by intros; first | omega | (dsimp only at *; omega)) : X G dp a b M8_paper 12 [some (rV (some r0)), some (iV (i1)), some (iV (i2)), some (iV (i3)), some (rV (some r4)), o5] [] m Q := by
  refine X_iload_n dX8_paper_12 rfl rfl ?_
  refine Y_bipush dX8_paper_13 (by omega) ?_
  refine X_icmp_lt (tgt := 27) dX8_paper_15 (by decide) (fun c1 => ?_) (fun c1 => ?_)
  · exact X_throwW (k := 0) (j := 23) (tx := "no such choice") (by decide) rfl rfl dX8_paper_27 dX8_paper_30 dX8_paper_31 dX8_paper_34 dX8_paper_37 rfl (Nat.le_of_ble_eq_true rfl) ha hb (k1 c1)
  · refine X_iload_n dX8_paper_18 rfl rfl ?_
    refine X_aload dX8_paper_19 rfl ?_
    refine X_getI dX8_paper_21 fl_8_150 (by decide) h1 ?_
    refine X_icmp_lt (tgt := 38) dX8_paper_24 (by decide) (fun c2 => ?_) (fun c2 => ?_)
    · refine X_aload dX8_paper_38 rfl ?_
      refine X_getP dX8_paper_40 fl_8_260 rfl h1 ?_
      refine am_ptr h2 ?_
      refine X_iload_n dX8_paper_43 rfl rfl ?_
      refine X_iald dX8_paper_44 h3 (h4 c1 c2) (h5 c1 c2) ?_
      refine X_istore dX8_paper_45 (Nat.le_of_ble_eq_true rfl) ?_
      refine X_aload_n dX8_paper_47 rfl rfl ?_
      refine X_getP dX8_paper_48 fl_8_50 rfl h6 ?_
      refine am_ptr h7 ?_
      refine Y_iconst dX8_paper_51 (by unfold i32; omega) ?_
      refine X_iload_n dX8_paper_52 rfl rfl ?_
      refine X_iload_n dX8_paper_53 rfl rfl ?_
      refine X_iload dX8_paper_54 rfl ?_
      exact X_callV (As := [iV (1), iV (i2), iV (i1), iV (m.1 p1 (i1).toNat)]) (rest := []) (a' := 0) (b' := 0) dX8_paper_56 t0_add ml_8_296 h8 rfl rfl (Nat.le_of_ble_eq_true rfl) rfl hdp (Nat.zero_le _) (Nat.zero_le _) ((k2 c1 c2) _ (fun m' h => h))
    · exact X_throwW (k := 0) (j := 23) (tx := "no such choice") (by decide) rfl rfl dX8_paper_27 dX8_paper_30 dX8_paper_31 dX8_paper_34 dX8_paper_37 rfl (Nat.le_of_ble_eq_true rfl) ha hb (k3 c1 c2)

theorem s8_paper_59 {G : am_G} {dp a b : Nat} {m : am_M} {Q : am_Q} {i1 i2 i3 i5 : Int} {r0 r4 p1 : Nat} (hdp : 1 ≤ dp) (h1 : am_ob m r0 7) (h2 : m.2.1 r0 4 = some p1) (h3 : am_ob m p1 3) (k1 : ∀ Q' : am_Q, (∀ (m' : am_M), X G dp a b M8_paper 69 [some (rV (some r0)), some (iV (i1)), some (iV (i2)), some (iV (i3)), some (rV (some r4)), some (iV (i5))] [] m' Q → Q' (.inl none) m') → T G (dp - 1) 0 0 M3_show [rV (some p1), iV (i2), iV (i1), iV (i3)] m Q')  : X G dp a b M8_paper 59 [some (rV (some r0)), some (iV (i1)), some (iV (i2)), some (iV (i3)), some (rV (some r4)), some (iV (i5))] [] m Q := by
  refine X_aload_n dX8_paper_59 rfl rfl ?_
  refine X_getP dX8_paper_60 fl_8_30 rfl h1 ?_
  refine am_ptr h2 ?_
  refine X_iload_n dX8_paper_63 rfl rfl ?_
  refine X_iload_n dX8_paper_64 rfl rfl ?_
  refine X_iload_n dX8_paper_65 rfl rfl ?_
  exact X_callV (As := [iV (i2), iV (i1), iV (i3)]) (rest := []) (a' := 0) (b' := 0) dX8_paper_66 t3_show ml_8_302 h3 rfl rfl (Nat.le_of_ble_eq_true rfl) rfl hdp (Nat.zero_le _) (Nat.zero_le _) (k1 _ (fun m' h => h))

theorem s8_paper_69 {G : am_G} {dp a b : Nat} {m : am_M} {Q : am_Q} {i1 i2 i3 i5 : Int} {r0 r4 : Nat} (hdp : 1 ≤ dp) (h1 : am_ob m r0 7) (k1 : ∀ Q' : am_Q, (∀ (m' : am_M), X G dp a b M8_paper 73 [some (rV (some r0)), some (iV (i1)), some (iV (i2)), some (iV (i3)), some (rV (some r4)), some (iV (i5))] [] m' Q → Q' (.inl none) m') → T G (dp - 1) 0 0 M8_replay [rV (some r0)] m Q')  : X G dp a b M8_paper 69 [some (rV (some r0)), some (iV (i1)), some (iV (i2)), some (iV (i3)), some (rV (some r4)), some (iV (i5))] [] m Q := by
  refine X_aload_n dX8_paper_69 rfl rfl ?_
  exact X_callV (As := []) (rest := []) (a' := 0) (b' := 0) dX8_paper_70 t8_replay ml_8_104 h1 rfl rfl (Nat.le_of_ble_eq_true rfl) rfl hdp (Nat.zero_le _) (Nat.zero_le _) (k1 _ (fun m' h => h))

theorem s8_paper_73 {G : am_G} {dp a b : Nat} {m : am_M} {Q : am_Q} {i1 i2 i3 i5 : Int} {r0 r4 : Nat}  (k1 : Q (.inl (some (iV (i5)))) m)  : X G dp a b M8_paper 73 [some (rV (some r0)), some (iV (i1)), some (iV (i2)), some (iV (i3)), some (rV (some r4)), some (iV (i5))] [] m Q := by
  refine X_iload dX8_paper_73 rfl ?_
  exact X_iret dX8_paper_75 rfl k1

theorem s8_way_0 {G : am_G} {dp a b : Nat} {m : am_M} {Q : am_Q} {i1 i2 : Int} {r0 : Nat} {o3 o4 : Option am_V} (hdp : 1 ≤ dp) (ha : 1 ≤ a) (hb : 6 ≤ b) (h1 : am_ob m r0 7) (k1 : ∀ Q' : am_Q, (∀ (z : Nat) (m' : am_M), X G dp (a - 1) (b - 6) M8_way 5 [some (rV (some r0)), some (iV (i1)), some (iV (i2)), o3, o4] [rV (some z)] m' Q → Q' (.inl (some (rV (some z)))) m') → (∀ (k : Nat) (m' : am_M), Q (.inr k) m' → Q' (.inr k) m') → T G (dp - 1) 1 6 M8_contestOf [rV (some r0), iV (i1)] m Q')  : X G dp a b M8_way 0 [some (rV (some r0)), some (iV (i1)), some (iV (i2)), o3, o4] [] m Q := by
  refine X_aload_n dX8_way_0 rfl rfl ?_
  refine X_iload_n dX8_way_1 rfl rfl ?_
  exact X_callV (As := [iV (i1)]) (rest := []) (a' := 1) (b' := 6) dX8_way_2 t8_contestOf ml_8_146 h1 rfl rfl (Nat.le_of_ble_eq_true rfl) rfl hdp ha hb (k1 _ (fun z m' h => h) (fun _ _ h => h))

theorem s8_way_5 {G : am_G} {dp a b : Nat} {m : am_M} {Q : am_Q} {i1 i2 : Int} {r0 r90 p1 p2 : Nat} {o3 o4 : Option am_V} (hdp : 1 ≤ dp) (ha : 1 ≤ a) (hb : 6 ≤ b) (h1 : am_ob m r90 2) (h2 : am_ob m r0 7) (h3 : m.2.1 r0 8 = some p1) (h4 : am_ob m p1 0) (h5 : m.2.1 r0 8 = some p2) (h6 : am_ob m p2 0) (k1 : (i2 = 0) → ∀ Q' : am_Q, (∀ (m' : am_M), X G dp a b M8_way 44 [some (rV (some r0)), some (iV (i1)), some (iV (i2)), some (rV (some r90)), some (iV (m.1 r90 6))] [] m' Q → Q' (.inl none) m') → T G (dp - 1) 0 0 M0_add [rV (some p1), iV (2), iV (i1), iV (0), iV (m.1 r90 6)] m Q') (k2 : ¬ (i2 = 0) → (i2 = 1) → ∀ Q' : am_Q, (∀ (m' : am_M), X G dp a b M8_way 44 [some (rV (some r0)), some (iV (i1)), some (iV (i2)), some (rV (some r90)), some (iV (m.1 r90 6))] [] m' Q → Q' (.inl none) m') → T G (dp - 1) 0 0 M0_add [rV (some p2), iV (2), iV (i1), iV (0), iV (m.1 r90 6)] m Q') (k3 : ¬ (i2 = 0) → ¬ (i2 = 1) → Q (.inr 0) (am_nx m))  : X G dp a b M8_way 5 [some (rV (some r0)), some (iV (i1)), some (iV (i2)), o3, o4] [rV (some r90)] m Q := by
  refine X_astore_n dX8_way_5 rfl (Nat.le_of_ble_eq_true rfl) ?_
  refine X_iload_n dX8_way_6 rfl rfl ?_
  refine X_if_eq (tgt := 26) dX8_way_7 (by decide) (fun c1 => ?_) (fun c1 => ?_)
  · refine X_aload_n dX8_way_26 rfl rfl ?_
    refine X_getI dX8_way_27 fl_8_155 (by decide) h1 ?_
    refine X_istore dX8_way_30 (Nat.le_of_ble_eq_true rfl) ?_
    refine X_aload_n dX8_way_32 rfl rfl ?_
    refine X_getP dX8_way_33 fl_8_50 rfl h2 ?_
    refine am_ptr h3 ?_
    refine Y_iconst dX8_way_36 (by unfold i32; omega) ?_
    refine X_iload_n dX8_way_37 rfl rfl ?_
    refine Y_iconst dX8_way_38 (by unfold i32; omega) ?_
    refine X_iload dX8_way_39 rfl ?_
    exact X_callV (As := [iV (2), iV (i1), iV (0), iV (m.1 r90 6)]) (rest := []) (a' := 0) (b' := 0) dX8_way_41 t0_add ml_8_296 h4 rfl rfl (Nat.le_of_ble_eq_true rfl) rfl hdp (Nat.zero_le _) (Nat.zero_le _) ((k1 c1) _ (fun m' h => h))
  · refine X_iload_n dX8_way_10 rfl rfl ?_
    refine Y_iconst dX8_way_11 (by unfold i32; omega) ?_
    refine X_icmp_eq (tgt := 26) dX8_way_12 (by decide) (fun c2 => ?_) (fun c2 => ?_)
    · refine X_aload_n dX8_way_26 rfl rfl ?_
      refine X_getI dX8_way_27 fl_8_155 (by decide) h1 ?_
      refine X_istore dX8_way_30 (Nat.le_of_ble_eq_true rfl) ?_
      refine X_aload_n dX8_way_32 rfl rfl ?_
      refine X_getP dX8_way_33 fl_8_50 rfl h2 ?_
      refine am_ptr h5 ?_
      refine Y_iconst dX8_way_36 (by unfold i32; omega) ?_
      refine X_iload_n dX8_way_37 rfl rfl ?_
      refine Y_iconst dX8_way_38 (by unfold i32; omega) ?_
      refine X_iload dX8_way_39 rfl ?_
      exact X_callV (As := [iV (2), iV (i1), iV (0), iV (m.1 r90 6)]) (rest := []) (a' := 0) (b' := 0) dX8_way_41 t0_add ml_8_296 h6 rfl rfl (Nat.le_of_ble_eq_true rfl) rfl hdp (Nat.zero_le _) (Nat.zero_le _) ((k2 c1 c2) _ (fun m' h => h))
    · exact X_throwW (k := 0) (j := 24) (tx := "no such way") (by decide) rfl rfl dX8_way_15 dX8_way_18 dX8_way_19 dX8_way_22 dX8_way_25 rfl (Nat.le_of_ble_eq_true rfl) ha hb (k3 c1 c2)

theorem s8_way_44 {G : am_G} {dp a b : Nat} {m : am_M} {Q : am_Q} {i1 i2 i4 : Int} {r0 r3 : Nat} (hdp : 1 ≤ dp) (h1 : am_obw m r3 2) (h2 : am_ob m r0 7) (k1 : ∀ Q' : am_Q, (∀ (m' : am_M), X G dp a b M8_way 53 [some (rV (some r0)), some (iV (i1)), some (iV (i2)), some (rV (some r3)), some (iV (i4))] [] m' Q → Q' (.inl none) m') → T G (dp - 1) 0 0 M8_replay [rV (some r0)] ((u2 m.1 r3 6 (i2)), m.2.1, m.2.2) Q')  : X G dp a b M8_way 44 [some (rV (some r0)), some (iV (i1)), some (iV (i2)), some (rV (some r3)), some (iV (i4))] [] m Q := by
  refine X_aload_n dX8_way_44 rfl rfl ?_
  refine X_iload_n dX8_way_45 rfl rfl ?_
  refine X_putI dX8_way_46 fw_8_155 rfl h1 ?_
  refine X_aload_n dX8_way_49 rfl rfl ?_
  exact X_callV (As := []) (rest := []) (a' := 0) (b' := 0) dX8_way_50 t8_replay ml_8_104 h2 rfl rfl (Nat.le_of_ble_eq_true rfl) rfl hdp (Nat.zero_le _) (Nat.zero_le _) (k1 _ (fun m' h => h))

theorem s8_way_53 {G : am_G} {dp a b : Nat} {m : am_M} {Q : am_Q} {i1 i2 i4 : Int} {r0 r3 : Nat}  (k1 : Q (.inl (some (iV (i4)))) m)  : X G dp a b M8_way 53 [some (rV (some r0)), some (iV (i1)), some (iV (i2)), some (rV (some r3)), some (iV (i4))] [] m Q := by
  refine X_iload dX8_way_53 rfl ?_
  exact X_iret dX8_way_55 rfl k1

theorem s8_rule_0 {G : am_G} {dp a b : Nat} {m : am_M} {Q : am_Q} {i1 i2 : Int} {r0 : Nat} {o3 : Option am_V} (hdp : 1 ≤ dp) (ha : 1 ≤ a) (hb : 6 ≤ b)  (k1 : (i1 < 0) → Q (.inr 1) (am_nx m)) (k2 : ¬ (i1 < 0) → (i1 ≤ 2) → ∀ Q' : am_Q, (∀ (z : Int) (m' : am_M), X G dp a b M8_rule 25 [some (rV (some r0)), some (iV (i1)), some (iV (i2)), o3] [iV (z), iV (i2)] m' Q → Q' (.inl (some (iV (z)))) m') → T G (dp - 1) 0 0 M8_leastOf [iV (i1)] m Q') (k3 : ¬ (i1 < 0) → ¬ (i1 ≤ 2) → Q (.inr 1) (am_nx m))  : X G dp a b M8_rule 0 [some (rV (some r0)), some (iV (i1)), some (iV (i2)), o3] [] m Q := by
  refine X_iload_n dX8_rule_0 rfl rfl ?_
  refine X_if_lt (tgt := 9) dX8_rule_1 (by decide) (fun c1 => ?_) (fun c1 => ?_)
  · exact X_throwW (k := 1) (j := 25) (tx := "no such rule") (by decide) rfl rfl dX8_rule_9 dX8_rule_12 dX8_rule_13 dX8_rule_16 dX8_rule_19 rfl (Nat.le_of_ble_eq_true rfl) ha hb (k1 c1)
  · refine X_iload_n dX8_rule_4 rfl rfl ?_
    refine Y_iconst dX8_rule_5 (by unfold i32; omega) ?_
    refine X_icmp_le (tgt := 20) dX8_rule_6 (by decide) (fun c2 => ?_) (fun c2 => ?_)
    · refine X_iload_n dX8_rule_20 rfl rfl ?_
      refine X_iload_n dX8_rule_21 rfl rfl ?_
      exact X_callS (As := [iV (i1)]) (rest := [iV (i2)]) (a' := 0) (b' := 0) dX8_rule_22 t8_leastOf ml_8_310 rfl rfl (Nat.le_of_ble_eq_true rfl) rfl hdp (Nat.zero_le _) (Nat.zero_le _) ((k2 c1 c2) _ (fun z m' h => h))
    · exact X_throwW (k := 1) (j := 25) (tx := "no such rule") (by decide) rfl rfl dX8_rule_9 dX8_rule_12 dX8_rule_13 dX8_rule_16 dX8_rule_19 rfl (Nat.le_of_ble_eq_true rfl) ha hb (k3 c1 c2)

theorem s8_rule_25 {G : am_G} {dp a b : Nat} {m : am_M} {Q : am_Q} {i1 i2 i90 i91 : Int} {r0 : Nat} {o3 : Option am_V} (hdp : 1 ≤ dp) (ha : 1 ≤ a) (hb : 6 ≤ b)  (k1 : (i91 < i90) → Q (.inr 0) (am_nx m)) (k2 : ¬ (i91 < i90) → ∀ Q' : am_Q, (∀ (z : Int) (m' : am_M), X G dp a b M8_rule 33 [some (rV (some r0)), some (iV (i1)), some (iV (i2)), o3] [iV (z), iV (i2)] m' Q → Q' (.inl (some (iV (z)))) m') → T G (dp - 1) 0 0 M8_mostOf [iV (i1)] m Q')  : X G dp a b M8_rule 25 [some (rV (some r0)), some (iV (i1)), some (iV (i2)), o3] [iV (i90), iV (i91)] m Q := by
  refine X_icmp_lt (tgt := 36) dX8_rule_25 (by decide) (fun c1 => ?_) (fun c1 => ?_)
  · exact X_throwW (k := 0) (j := 26) (tx := "the rule can't be so") (by decide) rfl rfl dX8_rule_36 dX8_rule_39 dX8_rule_40 dX8_rule_43 dX8_rule_46 rfl (Nat.le_of_ble_eq_true rfl) ha hb (k1 c1)
  · refine X_iload_n dX8_rule_28 rfl rfl ?_
    refine X_iload_n dX8_rule_29 rfl rfl ?_
    exact X_callS (As := [iV (i1)]) (rest := [iV (i2)]) (a' := 0) (b' := 0) dX8_rule_30 t8_mostOf ml_8_313 rfl rfl (Nat.le_of_ble_eq_true rfl) rfl hdp (Nat.zero_le _) (Nat.zero_le _) ((k2 c1) _ (fun z m' h => h))

theorem s8_rule_33 {G : am_G} {dp a b : Nat} {m : am_M} {Q : am_Q} {i1 i2 i90 i91 : Int} {r0 p1 p2 p3 : Nat} {o3 : Option am_V} {n_p2 : Nat} (hdp : 1 ≤ dp) (ha : 1 ≤ a) (hb : 6 ≤ b) (h1 : am_ob m r0 7) (h2 : m.2.1 r0 4 = some p1) (h3 : am_ob m p1 3) (h4 : m.2.1 p1 1 = some p2) (h5 : am_ar m p2 100 n_p2) (h8 : m.2.1 r0 8 = some p3) (h9 : am_ob m p3 0) (k1 : (i91 ≤ i90) → ∀ Q' : am_Q, (∀ (m' : am_M), X G dp a b M8_rule 68 [some (rV (some r0)), some (iV (i1)), some (iV (i2)), some (iV (m.1 p2 (i1).toNat))] [] m' Q → Q' (.inl none) m') → T G (dp - 1) 0 0 M0_add [rV (some p3), iV (3), iV (i1), iV (0), iV (m.1 p2 (i1).toNat)] m Q') (k2 : ¬ (i91 ≤ i90) → Q (.inr 0) (am_nx m)) (h6 : i91 ≤ i90 → 0 ≤ i1 := by intros; first | omega | (dsimp only at *; omega)) (h7 : i91 ≤ i90 → i1 < (n_p2 : Int) := by intros; first | omega | (dsimp only at *; omega)) : X G dp a b M8_rule 33 [some (rV (some r0)), some (iV (i1)), some (iV (i2)), o3] [iV (i90), iV (i91)] m Q := by
  refine X_icmp_le (tgt := 47) dX8_rule_33 (by decide) (fun c1 => ?_) (fun c1 => ?_)
  · refine X_aload_n dX8_rule_47 rfl rfl ?_
    refine X_getP dX8_rule_48 fl_8_30 rfl h1 ?_
    refine am_ptr h2 ?_
    refine X_getP dX8_rule_51 fl_8_117 rfl h3 ?_
    refine am_ptr h4 ?_
    refine X_iload_n dX8_rule_54 rfl rfl ?_
    refine X_iald dX8_rule_55 h5 (h6 c1) (h7 c1) ?_
    refine X_istore_n dX8_rule_56 rfl (Nat.le_of_ble_eq_true rfl) ?_
    refine X_aload_n dX8_rule_57 rfl rfl ?_
    refine X_getP dX8_rule_58 fl_8_50 rfl h1 ?_
    refine am_ptr h8 ?_
    refine Y_iconst dX8_rule_61 (by unfold i32; omega) ?_
    refine X_iload_n dX8_rule_62 rfl rfl ?_
    refine Y_iconst dX8_rule_63 (by unfold i32; omega) ?_
    refine X_iload_n dX8_rule_64 rfl rfl ?_
    exact X_callV (As := [iV (3), iV (i1), iV (0), iV (m.1 p2 (i1).toNat)]) (rest := []) (a' := 0) (b' := 0) dX8_rule_65 t0_add ml_8_296 h9 rfl rfl (Nat.le_of_ble_eq_true rfl) rfl hdp (Nat.zero_le _) (Nat.zero_le _) ((k1 c1) _ (fun m' h => h))
  · exact X_throwW (k := 0) (j := 26) (tx := "the rule can't be so") (by decide) rfl rfl dX8_rule_36 dX8_rule_39 dX8_rule_40 dX8_rule_43 dX8_rule_46 rfl (Nat.le_of_ble_eq_true rfl) ha hb (k2 c1)

theorem s8_rule_68 {G : am_G} {dp a b : Nat} {m : am_M} {Q : am_Q} {i1 i2 i3 : Int} {r0 p1 p2 : Nat} {n_p2 : Nat} (hdp : 1 ≤ dp) (h1 : am_ob m r0 7) (h2 : m.2.1 r0 4 = some p1) (h3 : am_ob m p1 3) (h4 : m.2.1 p1 1 = some p2) (h5 : am_arw m p2 100 n_p2) (k1 : ∀ Q' : am_Q, (∀ (m' : am_M), X G dp a b M8_rule 82 [some (rV (some r0)), some (iV (i1)), some (iV (i2)), some (iV (i3))] [] m' Q → Q' (.inl none) m') → T G (dp - 1) 0 0 M8_replay [rV (some r0)] ((u2 m.1 p2 (i1).toNat (i2)), m.2.1, m.2.2) Q') (h6 : 0 ≤ i1 := by intros; first | omega | (dsimp only at *; omega)) (h7 : i1 < (n_p2 : Int) := by intros; first | omega | (dsimp only at *; omega)) : X G dp a b M8_rule 68 [some (rV (some r0)), some (iV (i1)), some (iV (i2)), some (iV (i3))] [] m Q := by
  refine X_aload_n dX8_rule_68 rfl rfl ?_
  refine X_getP dX8_rule_69 fl_8_30 rfl h1 ?_
  refine am_ptr h2 ?_
  refine X_getP dX8_rule_72 fl_8_117 rfl h3 ?_
  refine am_ptr h4 ?_
  refine X_iload_n dX8_rule_75 rfl rfl ?_
  refine X_iload_n dX8_rule_76 rfl rfl ?_
  refine X_iast dX8_rule_77 h5 h6 h7 ?_
  refine X_aload_n dX8_rule_78 rfl rfl ?_
  exact X_callV (As := []) (rest := []) (a' := 0) (b' := 0) dX8_rule_79 t8_replay ml_8_104 h1 rfl rfl (Nat.le_of_ble_eq_true rfl) rfl hdp (Nat.zero_le _) (Nat.zero_le _) (k1 _ (fun m' h => h))

theorem s8_rule_82 {G : am_G} {dp a b : Nat} {m : am_M} {Q : am_Q} {i1 i2 i3 : Int} {r0 : Nat}  (k1 : Q (.inl (some (iV (i3)))) m)  : X G dp a b M8_rule 82 [some (rV (some r0)), some (iV (i1)), some (iV (i2)), some (iV (i3))] [] m Q := by
  refine X_iload_n dX8_rule_82 rfl rfl ?_
  exact X_iret dX8_rule_83 rfl k1

theorem s8_leastOf_0 {G : am_G} {dp a b : Nat} {m : am_M} {Q : am_Q} {i0 : Int}  (k1 : ¬ (i0 = 1) → Q (.inl (some (iV (1)))) m) (k2 : (i0 = 1) → Q (.inl (some (iV (101)))) m)  : X G dp a b M8_leastOf 0 [some (iV (i0))] [] m Q := by
  refine X_iload_n dX8_leastOf_0 rfl rfl ?_
  refine Y_iconst dX8_leastOf_1 (by unfold i32; omega) ?_
  refine X_icmp_ne (tgt := 10) dX8_leastOf_2 (by decide) (fun c1 => ?_) (fun c1 => ?_)
  · refine Y_iconst dX8_leastOf_10 (by unfold i32; omega) ?_
    exact X_iret dX8_leastOf_11 rfl (k1 c1)
  · refine Y_bipush dX8_leastOf_5 (by omega) ?_
    refine X_goto (tgt := 11) dX8_leastOf_7 (by decide) ?_
    exact X_iret dX8_leastOf_11 rfl (k2 c1)

theorem s8_mostOf_0 {G : am_G} {dp a b : Nat} {m : am_M} {Q : am_Q} {i0 : Int}  (k1 : ¬ (i0 = 0) → ¬ (i0 = 1) → Q (.inl (some (iV (300)))) m) (k2 : ¬ (i0 = 0) → (i0 = 1) → Q (.inl (some (iV (300)))) m) (k3 : (i0 = 0) → Q (.inl (some (iV (500)))) m)  : X G dp a b M8_mostOf 0 [some (iV (i0))] [] m Q := by
  refine X_iload_n dX8_mostOf_0 rfl rfl ?_
  refine X_if_ne (tgt := 8) dX8_mostOf_1 (by decide) (fun c1 => ?_) (fun c1 => ?_)
  · refine X_iload_n dX8_mostOf_8 rfl rfl ?_
    refine Y_iconst dX8_mostOf_9 (by unfold i32; omega) ?_
    refine X_icmp_ne (tgt := 19) dX8_mostOf_10 (by decide) (fun c2 => ?_) (fun c2 => ?_)
    · refine Y_sipush dX8_mostOf_19 (by omega) ?_
      exact X_iret dX8_mostOf_22 rfl (k1 c1 c2)
    · refine Y_sipush dX8_mostOf_13 (by omega) ?_
      refine X_goto (tgt := 22) dX8_mostOf_16 (by decide) ?_
      exact X_iret dX8_mostOf_22 rfl (k2 c1 c2)
  · refine Y_sipush dX8_mostOf_4 (by omega) ?_
    exact X_iret dX8_mostOf_7 rfl (k3 c1)

theorem s8_replay_0 {G : am_G} {dp a b : Nat} {m : am_M} {Q : am_Q} {r0 p1 p2 : Nat} (hdp : 1 ≤ dp) (h1 : am_ob m r0 7) (h2 : m.2.1 r0 6 = some p1) (h3 : m.2.1 r0 4 = some p2) (h4 : am_ob m p2 3) (h5 : am_ob m p1 1) (k1 : ∀ Q' : am_Q, (∀ (m' : am_M), X G dp a b M8_replay 18 [some (rV (some r0))] [] m' Q → Q' (.inl none) m') → T G (dp - 1) 0 0 M1_begin [rV (some p1), rV (some p2), iV (m.1 p2 4)] m Q')  : X G dp a b M8_replay 0 [some (rV (some r0))] [] m Q := by
  refine X_aload_n dX8_replay_0 rfl rfl ?_
  refine X_getP dX8_replay_1 fl_8_40 rfl h1 ?_
  refine am_ptr h2 ?_
  refine X_aload_n dX8_replay_4 rfl rfl ?_
  refine X_getP dX8_replay_5 fl_8_30 rfl h1 ?_
  refine am_ptr h3 ?_
  refine X_aload_n dX8_replay_8 rfl rfl ?_
  refine X_getP dX8_replay_9 fl_8_30 rfl h1 ?_
  refine am_ptr h3 ?_
  refine X_getI dX8_replay_12 fl_8_318 (by decide) h4 ?_
  exact X_callV (As := [rV (some p2), iV (m.1 p2 4)]) (rest := []) (a' := 0) (b' := 0) dX8_replay_15 t1_begin ml_8_321 h5 rfl rfl (Nat.le_of_ble_eq_true rfl) rfl hdp (Nat.zero_le _) (Nat.zero_le _) (k1 _ (fun m' h => h))

theorem s8_replay_18 {G : am_G} {dp a b : Nat} {m : am_M} {Q : am_Q} {r0 p1 p2 : Nat} (hdp : 1 ≤ dp) (h1 : am_ob m r0 7) (h2 : m.2.1 r0 6 = some p1) (h3 : m.2.1 r0 4 = some p2) (h4 : am_ob m p2 3) (h5 : am_ob m p1 1) (k1 : ∀ Q' : am_Q, (∀ (m' : am_M), X G dp a b M8_replay 36 [some (rV (some r0))] [] m' Q → Q' (.inl none) m') → T G (dp - 1) 0 0 M1_goOn [rV (some p1), rV (some p2), iV (m.1 p2 5)] m Q')  : X G dp a b M8_replay 18 [some (rV (some r0))] [] m Q := by
  refine X_aload_n dX8_replay_18 rfl rfl ?_
  refine X_getP dX8_replay_19 fl_8_40 rfl h1 ?_
  refine am_ptr h2 ?_
  refine X_aload_n dX8_replay_22 rfl rfl ?_
  refine X_getP dX8_replay_23 fl_8_30 rfl h1 ?_
  refine am_ptr h3 ?_
  refine X_aload_n dX8_replay_26 rfl rfl ?_
  refine X_getP dX8_replay_27 fl_8_30 rfl h1 ?_
  refine am_ptr h3 ?_
  refine X_getI dX8_replay_30 fl_8_293 (by decide) h4 ?_
  exact X_callV (As := [rV (some p2), iV (m.1 p2 5)]) (rest := []) (a' := 0) (b' := 0) dX8_replay_33 t1_goOn ml_8_289 h5 rfl rfl (Nat.le_of_ble_eq_true rfl) rfl hdp (Nat.zero_le _) (Nat.zero_le _) (k1 _ (fun m' h => h))

theorem s8_replay_36 {G : am_G} {dp a b : Nat} {m : am_M} {Q : am_Q} {r0 : Nat}  (k1 : Q (.inl none) m)  : X G dp a b M8_replay 36 [some (rV (some r0))] [] m Q := by
  exact X_vret dX8_replay_36 rfl k1

theorem s8_undo_0 {G : am_G} {dp a b : Nat} {m : am_M} {Q : am_Q} {r0 p1 : Nat} {o1 : Option am_V} (hdp : 1 ≤ dp) (h1 : am_ob m r0 7) (h2 : m.2.1 r0 8 = some p1) (h3 : am_ob m p1 0) (k1 : ∀ Q' : am_Q, (∀ (z : Int) (m' : am_M), X G dp a b M8_undo 7 [some (rV (some r0)), o1] [iV (z)] m' Q → Q' (.inl (some (iV (z)))) m') → T G (dp - 1) 0 0 M0_takeLatest [rV (some p1)] m Q')  : X G dp a b M8_undo 0 [some (rV (some r0)), o1] [] m Q := by
  refine X_aload_n dX8_undo_0 rfl rfl ?_
  refine X_getP dX8_undo_1 fl_8_50 rfl h1 ?_
  refine am_ptr h2 ?_
  exact X_callV (As := []) (rest := []) (a' := 0) (b' := 0) dX8_undo_4 t0_takeLatest ml_8_324 h3 rfl rfl (Nat.le_of_ble_eq_true rfl) rfl hdp (Nat.zero_le _) (Nat.zero_le _) (k1 _ (fun z m' h => h))

theorem s8_undo_7 {G : am_G} {dp a b : Nat} {m : am_M} {Q : am_Q} {i90 : Int} {r0 p1 p2 p3 p4 p5 : Nat} {o1 : Option am_V} (hdp : 1 ≤ dp) (h1 : am_ob m r0 7) (h2 : m.2.1 r0 8 = some p1) (h3 : am_ob m p1 0) (h4 : m.2.1 r0 4 = some p2) (h5 : am_obw m p2 3) (h6 : m.2.1 r0 4 = some p3) (h7 : am_ob m p3 3) (h8 : m.2.1 r0 4 = some p4) (h9 : am_ob m p4 3) (h10 : m.2.1 r0 4 = some p5) (h11 : am_ob m p5 3) (k1 : ¬ (i90 = 0) → (m.1 p1 5 = 0) → X G dp a b M8_undo 121 [some (rV (some r0)), some (iV (m.1 p1 8))] [] ((u2 m.1 p2 5 (m.1 p1 8)), m.2.1, m.2.2) Q) (k2 : ¬ (i90 = 0) → (m.1 p1 5 = 1) → ∀ Q' : am_Q, (∀ (m' : am_M), X G dp a b M8_undo 85 [some (rV (some r0)), some (iV (m.1 p1 8))] [] m' Q → Q' (.inl none) m') → T G (dp - 1) 0 0 M3_show [rV (some p3), iV (m.1 p1 6), iV (m.1 p1 7), iV (m.1 p1 8)] m Q') (k3 : ¬ (i90 = 0) → (m.1 p1 5 = 2) → ∀ Q' : am_Q, (∀ (m' : am_M), X G dp a b M8_undo 103 [some (rV (some r0)), some (iV (m.1 p1 8))] [] m' Q → Q' (.inl none) m') → T G (dp - 1) 0 0 M3_setMethod [rV (some p4), iV (m.1 p1 6), iV (m.1 p1 8)] m Q') (k4 : ¬ (i90 = 0) → ¬ (m.1 p1 5 = 0) → ¬ (m.1 p1 5 = 1) → ¬ (m.1 p1 5 = 2) → ∀ Q' : am_Q, (∀ (m' : am_M), X G dp a b M8_undo 121 [some (rV (some r0)), some (iV (m.1 p1 8))] [] m' Q → Q' (.inl none) m') → T G (dp - 1) 0 0 M3_setRule [rV (some p5), iV (m.1 p1 6), iV (m.1 p1 8)] m Q') (k5 : (i90 = 0) → Q (.inl (some (iV ((-1))))) m)  : X G dp a b M8_undo 7 [some (rV (some r0)), o1] [iV (i90)] m Q := by
  refine X_if_ne (tgt := 12) dX8_undo_7 (by decide) (fun c1 => ?_) (fun c1 => ?_)
  · refine X_aload_n dX8_undo_12 rfl rfl ?_
    refine X_getP dX8_undo_13 fl_8_50 rfl h1 ?_
    refine am_ptr h2 ?_
    refine X_getI dX8_undo_16 fl_8_327 (by decide) h3 ?_
    refine X_istore_n dX8_undo_19 rfl (Nat.le_of_ble_eq_true rfl) ?_
    refine X_aload_n dX8_undo_20 rfl rfl ?_
    refine X_getP dX8_undo_21 fl_8_50 rfl h1 ?_
    refine am_ptr h2 ?_
    refine X_getI dX8_undo_24 fl_8_330 (by decide) h3 ?_
    by_cases c2 : m.1 p1 5 = 0
    · refine X_tableIn (tgt := 52) dX8_undo_27 (by rw [c2]; decide) (by rw [c2]; decide) (by rw [c2]; rfl) (by decide) ?_
      refine X_aload_n dX8_undo_52 rfl rfl ?_
      refine X_getP dX8_undo_53 fl_8_30 rfl h1 ?_
      refine am_ptr h4 ?_
      refine X_iload_n dX8_undo_56 rfl rfl ?_
      refine X_putI dX8_undo_57 fw_8_293 rfl h5 ?_
      refine X_goto (tgt := 121) dX8_undo_60 (by decide) ?_
      exact (k1 c1 c2)
    by_cases c3 : m.1 p1 5 = 1
    · refine X_tableIn (tgt := 63) dX8_undo_27 (by rw [c3]; decide) (by rw [c3]; decide) (by rw [c3]; rfl) (by decide) ?_
      refine X_aload_n dX8_undo_63 rfl rfl ?_
      refine X_getP dX8_undo_64 fl_8_30 rfl h1 ?_
      refine am_ptr h6 ?_
      refine X_aload_n dX8_undo_67 rfl rfl ?_
      refine X_getP dX8_undo_68 fl_8_50 rfl h1 ?_
      refine am_ptr h2 ?_
      refine X_getI dX8_undo_71 fl_8_333 (by decide) h3 ?_
      refine X_aload_n dX8_undo_74 rfl rfl ?_
      refine X_getP dX8_undo_75 fl_8_50 rfl h1 ?_
      refine am_ptr h2 ?_
      refine X_getI dX8_undo_78 fl_8_336 (by decide) h3 ?_
      refine X_iload_n dX8_undo_81 rfl rfl ?_
      exact X_callV (As := [iV (m.1 p1 6), iV (m.1 p1 7), iV (m.1 p1 8)]) (rest := []) (a' := 0) (b' := 0) dX8_undo_82 t3_show ml_8_302 h7 rfl rfl (Nat.le_of_ble_eq_true rfl) rfl hdp (Nat.zero_le _) (Nat.zero_le _) ((k2 c1 c3) _ (fun m' h => h))
    by_cases c4 : m.1 p1 5 = 2
    · refine X_tableIn (tgt := 88) dX8_undo_27 (by rw [c4]; decide) (by rw [c4]; decide) (by rw [c4]; rfl) (by decide) ?_
      refine X_aload_n dX8_undo_88 rfl rfl ?_
      refine X_getP dX8_undo_89 fl_8_30 rfl h1 ?_
      refine am_ptr h8 ?_
      refine X_aload_n dX8_undo_92 rfl rfl ?_
      refine X_getP dX8_undo_93 fl_8_50 rfl h1 ?_
      refine am_ptr h2 ?_
      refine X_getI dX8_undo_96 fl_8_333 (by decide) h3 ?_
      refine X_iload_n dX8_undo_99 rfl rfl ?_
      exact X_callV (As := [iV (m.1 p1 6), iV (m.1 p1 8)]) (rest := []) (a' := 0) (b' := 0) dX8_undo_100 t3_setMethod ml_8_339 h9 rfl rfl (Nat.le_of_ble_eq_true rfl) rfl hdp (Nat.zero_le _) (Nat.zero_le _) ((k3 c1 c4) _ (fun m' h => h))
    refine X_tableOut (tgt := 106) dX8_undo_27 (by omega) (by decide) ?_
    refine X_aload_n dX8_undo_106 rfl rfl ?_
    refine X_getP dX8_undo_107 fl_8_30 rfl h1 ?_
    refine am_ptr h10 ?_
    refine X_aload_n dX8_undo_110 rfl rfl ?_
    refine X_getP dX8_undo_111 fl_8_50 rfl h1 ?_
    refine am_ptr h2 ?_
    refine X_getI dX8_undo_114 fl_8_333 (by decide) h3 ?_
    refine X_iload_n dX8_undo_117 rfl rfl ?_
    exact X_callV (As := [iV (m.1 p1 6), iV (m.1 p1 8)]) (rest := []) (a' := 0) (b' := 0) dX8_undo_118 t3_setRule ml_8_343 h11 rfl rfl (Nat.le_of_ble_eq_true rfl) rfl hdp (Nat.zero_le _) (Nat.zero_le _) ((k4 c1 c2 c3 c4) _ (fun m' h => h))
  · refine Y_iconst dX8_undo_10 (by unfold i32; omega) ?_
    exact X_iret dX8_undo_11 rfl (k5 c1)

theorem s8_undo_85 {G : am_G} {dp a b : Nat} {m : am_M} {Q : am_Q} {i1 : Int} {r0 : Nat}  (k1 : X G dp a b M8_undo 121 [some (rV (some r0)), some (iV (i1))] [] m Q)  : X G dp a b M8_undo 85 [some (rV (some r0)), some (iV (i1))] [] m Q := by
  refine X_goto (tgt := 121) dX8_undo_85 (by decide) ?_
  exact k1

theorem s8_undo_103 {G : am_G} {dp a b : Nat} {m : am_M} {Q : am_Q} {i1 : Int} {r0 : Nat}  (k1 : X G dp a b M8_undo 121 [some (rV (some r0)), some (iV (i1))] [] m Q)  : X G dp a b M8_undo 103 [some (rV (some r0)), some (iV (i1))] [] m Q := by
  refine X_goto (tgt := 121) dX8_undo_103 (by decide) ?_
  exact k1

theorem s8_undo_121 {G : am_G} {dp a b : Nat} {m : am_M} {Q : am_Q} {i1 : Int} {r0 : Nat} (hdp : 1 ≤ dp) (h1 : am_ob m r0 7) (k1 : ∀ Q' : am_Q, (∀ (m' : am_M), X G dp a b M8_undo 125 [some (rV (some r0)), some (iV (i1))] [] m' Q → Q' (.inl none) m') → T G (dp - 1) 0 0 M8_replay [rV (some r0)] m Q')  : X G dp a b M8_undo 121 [some (rV (some r0)), some (iV (i1))] [] m Q := by
  refine X_aload_n dX8_undo_121 rfl rfl ?_
  exact X_callV (As := []) (rest := []) (a' := 0) (b' := 0) dX8_undo_122 t8_replay ml_8_104 h1 rfl rfl (Nat.le_of_ble_eq_true rfl) rfl hdp (Nat.zero_le _) (Nat.zero_le _) (k1 _ (fun m' h => h))

theorem s8_undo_125 {G : am_G} {dp a b : Nat} {m : am_M} {Q : am_Q} {i1 : Int} {r0 p1 : Nat} (h1 : am_ob m r0 7) (h2 : m.2.1 r0 8 = some p1) (h3 : am_ob m p1 0) (k1 : Q (.inl (some (iV (m.1 p1 4)))) m)  : X G dp a b M8_undo 125 [some (rV (some r0)), some (iV (i1))] [] m Q := by
  refine X_aload_n dX8_undo_125 rfl rfl ?_
  refine X_getP dX8_undo_126 fl_8_50 rfl h1 ?_
  refine am_ptr h2 ?_
  refine X_getI dX8_undo_129 fl_8_138 (by decide) h3 ?_
  exact X_iret dX8_undo_132 rfl k1

theorem s8_need_0 {G : am_G} {dp a b : Nat} {m : am_M} {Q : am_Q} {i1 i2 i3 : Int} {r0 : Nat} {o4 : Option am_V} (hdp : 1 ≤ dp) (ha : 1 ≤ a) (hb : 6 ≤ b) (h1 : am_ob m r0 7) (k1 : ∀ Q' : am_Q, (∀ (z : Nat) (m' : am_M), X G dp (a - 1) (b - 6) M8_need 5 [some (rV (some r0)), some (iV (i1)), some (iV (i2)), some (iV (i3)), o4] [rV (some z)] m' Q → Q' (.inl (some (rV (some z)))) m') → (∀ (k : Nat) (m' : am_M), Q (.inr k) m' → Q' (.inr k) m') → T G (dp - 1) 1 6 M8_contestOf [rV (some r0), iV (i1)] m Q')  : X G dp a b M8_need 0 [some (rV (some r0)), some (iV (i1)), some (iV (i2)), some (iV (i3)), o4] [] m Q := by
  refine X_aload_n dX8_need_0 rfl rfl ?_
  refine X_iload_n dX8_need_1 rfl rfl ?_
  exact X_callV (As := [iV (i1)]) (rest := []) (a' := 1) (b' := 6) dX8_need_2 t8_contestOf ml_8_146 h1 rfl rfl (Nat.le_of_ble_eq_true rfl) rfl hdp ha hb (k1 _ (fun z m' h => h) (fun _ _ h => h))

theorem s8_need_5 {G : am_G} {dp a b : Nat} {m : am_M} {Q : am_Q} {i1 i2 i3 : Int} {r0 r90 : Nat} {o4 : Option am_V} (hdp : 1 ≤ dp) (ha : 1 ≤ a) (hb : 6 ≤ b)  (k1 : ∀ Q' : am_Q, (∀ (m' : am_M), X G dp (a - 1) (b - 6) M8_need 12 [some (rV (some r0)), some (iV (i1)), some (iV (i2)), some (iV (i3)), some (rV (some r90))] [] m' Q → Q' (.inl none) m') → (∀ (k : Nat) (m' : am_M), Q (.inr k) m' → Q' (.inr k) m') → T G (dp - 1) 1 6 M8_seekSupposed [iV (i2), iV (i3)] m Q')  : X G dp a b M8_need 5 [some (rV (some r0)), some (iV (i1)), some (iV (i2)), some (iV (i3)), o4] [rV (some r90)] m Q := by
  refine X_astore dX8_need_5 (Nat.le_of_ble_eq_true rfl) ?_
  refine X_iload_n dX8_need_7 rfl rfl ?_
  refine X_iload_n dX8_need_8 rfl rfl ?_
  exact X_callS (As := [iV (i2), iV (i3)]) (rest := []) (a' := 1) (b' := 6) dX8_need_9 t8_seekSupposed ml_8_346 rfl rfl (Nat.le_of_ble_eq_true rfl) rfl hdp ha hb (k1 _ (fun m' h => h) (fun _ _ h => h))

theorem s8_need_12 {G : am_G} {dp a b : Nat} {m : am_M} {Q : am_Q} {i1 i2 i3 : Int} {r0 r4 p1 p2 : Nat} {n_p2 : Nat} (hdp : 1 ≤ dp) (h1 : am_ob m r0 7) (h2 : m.2.1 r0 4 = some p1) (h3 : am_ob m p1 3) (h4 : m.2.1 p1 1 = some p2) (h5 : am_ar m p2 100 n_p2) (k1 : ∀ Q' : am_Q, (∀ (z : Int) (m' : am_M), X G dp a b M8_need 32 [some (rV (some r0)), some (iV (i1)), some (iV (i2)), some (iV (i3)), some (rV (some r4))] [iV (z)] m' Q → Q' (.inl (some (iV (z)))) m') → T G (dp - 1) 0 0 M8_needed [rV (some r0), rV (some r4), iV (m.1 p2 ((1 : Int)).toNat), iV (i2), iV (i3), iV (5000)] m Q') (h6 : 1 < (n_p2 : Int) := by intros; first | omega | (dsimp only at *; omega)) : X G dp a b M8_need 12 [some (rV (some r0)), some (iV (i1)), some (iV (i2)), some (iV (i3)), some (rV (some r4))] [] m Q := by
  refine X_aload_n dX8_need_12 rfl rfl ?_
  refine X_aload dX8_need_13 rfl ?_
  refine X_aload_n dX8_need_15 rfl rfl ?_
  refine X_getP dX8_need_16 fl_8_30 rfl h1 ?_
  refine am_ptr h2 ?_
  refine X_getP dX8_need_19 fl_8_117 rfl h3 ?_
  refine am_ptr h4 ?_
  refine Y_iconst dX8_need_22 (by unfold i32; omega) ?_
  refine X_iald dX8_need_23 h5 (by decide) h6 ?_
  refine X_iload_n dX8_need_24 rfl rfl ?_
  refine X_iload_n dX8_need_25 rfl rfl ?_
  refine Y_sipush dX8_need_26 (by omega) ?_
  exact X_callV (As := [rV (some r4), iV (m.1 p2 ((1 : Int)).toNat), iV (i2), iV (i3), iV (5000)]) (rest := []) (a' := 0) (b' := 0) dX8_need_29 t8_needed ml_8_349 h1 rfl rfl (Nat.le_of_ble_eq_true rfl) rfl hdp (Nat.zero_le _) (Nat.zero_le _) (k1 _ (fun z m' h => h))

theorem s8_need_32 {G : am_G} {dp a b : Nat} {m : am_M} {Q : am_Q} {i1 i2 i3 i90 : Int} {r0 r4 : Nat}  (k1 : Q (.inl (some (iV (i90)))) m)  : X G dp a b M8_need 32 [some (rV (some r0)), some (iV (i1)), some (iV (i2)), some (iV (i3)), some (rV (some r4))] [iV (i90)] m Q := by
  exact X_iret dX8_need_32 rfl k1

theorem s8_seekSupposed_0 {G : am_G} {dp a b : Nat} {m : am_M} {Q : am_Q} {i0 i1 : Int} (ha : 1 ≤ a) (hb : 6 ≤ b)  (k1 : (i0 < 0) → Q (.inr 0) (am_nx m)) (k2 : ¬ (i0 < 0) → (99 < i0) → Q (.inr 0) (am_nx m)) (k3 : ¬ (i0 < 0) → ¬ (99 < i0) → (i1 < 0) → Q (.inr 0) (am_nx m)) (k4 : ¬ (i0 < 0) → ¬ (99 < i0) → ¬ (i1 < 0) → (i1 ≤ 99) → Q (.inl none) m) (k5 : ¬ (i0 < 0) → ¬ (99 < i0) → ¬ (i1 < 0) → ¬ (i1 ≤ 99) → Q (.inr 0) (am_nx m))  : X G dp a b M8_seekSupposed 0 [some (iV (i0)), some (iV (i1))] [] m Q := by
  refine X_iload_n dX8_seekSupposed_0 rfl rfl ?_
  refine X_if_lt (tgt := 20) dX8_seekSupposed_1 (by decide) (fun c1 => ?_) (fun c1 => ?_)
  · exact X_throwW (k := 0) (j := 27) (tx := "no such number of mistakes") (by decide) rfl rfl dX8_seekSupposed_20 dX8_seekSupposed_23 dX8_seekSupposed_24 dX8_seekSupposed_27 dX8_seekSupposed_30 rfl (Nat.le_of_ble_eq_true rfl) ha hb (k1 c1)
  · refine X_iload_n dX8_seekSupposed_4 rfl rfl ?_
    refine Y_bipush dX8_seekSupposed_5 (by omega) ?_
    refine X_icmp_gt (tgt := 20) dX8_seekSupposed_7 (by decide) (fun c2 => ?_) (fun c2 => ?_)
    · exact X_throwW (k := 0) (j := 27) (tx := "no such number of mistakes") (by decide) rfl rfl dX8_seekSupposed_20 dX8_seekSupposed_23 dX8_seekSupposed_24 dX8_seekSupposed_27 dX8_seekSupposed_30 rfl (Nat.le_of_ble_eq_true rfl) ha hb (k2 c1 c2)
    · refine X_iload_n dX8_seekSupposed_10 rfl rfl ?_
      refine X_if_lt (tgt := 20) dX8_seekSupposed_11 (by decide) (fun c3 => ?_) (fun c3 => ?_)
      · exact X_throwW (k := 0) (j := 27) (tx := "no such number of mistakes") (by decide) rfl rfl dX8_seekSupposed_20 dX8_seekSupposed_23 dX8_seekSupposed_24 dX8_seekSupposed_27 dX8_seekSupposed_30 rfl (Nat.le_of_ble_eq_true rfl) ha hb (k3 c1 c2 c3)
      · refine X_iload_n dX8_seekSupposed_14 rfl rfl ?_
        refine Y_bipush dX8_seekSupposed_15 (by omega) ?_
        refine X_icmp_le (tgt := 31) dX8_seekSupposed_17 (by decide) (fun c4 => ?_) (fun c4 => ?_)
        · exact X_vret dX8_seekSupposed_31 rfl (k4 c1 c2 c3 c4)
        · exact X_throwW (k := 0) (j := 27) (tx := "no such number of mistakes") (by decide) rfl rfl dX8_seekSupposed_20 dX8_seekSupposed_23 dX8_seekSupposed_24 dX8_seekSupposed_27 dX8_seekSupposed_30 rfl (Nat.le_of_ble_eq_true rfl) ha hb (k5 c1 c2 c3 c4)

theorem s8_bestFactor_0 {G : am_G} {dp a b : Nat} {m : am_M} {Q : am_Q} {i1 i2 i3 : Int} {r0 : Nat} {o4 o5 o6 o7 o8 o9 : Option am_V} (hdp : 1 ≤ dp) (ha : 1 ≤ a) (hb : 6 ≤ b) (h1 : am_ob m r0 7) (k1 : ∀ Q' : am_Q, (∀ (z : Nat) (m' : am_M), X G dp (a - 1) (b - 6) M8_bestFactor 5 [some (rV (some r0)), some (iV (i1)), some (iV (i2)), some (iV (i3)), o4, o5, o6, o7, o8, o9] [rV (some z)] m' Q → Q' (.inl (some (rV (some z)))) m') → (∀ (k : Nat) (m' : am_M), Q (.inr k) m' → Q' (.inr k) m') → T G (dp - 1) 1 6 M8_contestOf [rV (some r0), iV (i1)] m Q')  : X G dp a b M8_bestFactor 0 [some (rV (some r0)), some (iV (i1)), some (iV (i2)), some (iV (i3)), o4, o5, o6, o7, o8, o9] [] m Q := by
  refine X_aload_n dX8_bestFactor_0 rfl rfl ?_
  refine X_iload_n dX8_bestFactor_1 rfl rfl ?_
  exact X_callV (As := [iV (i1)]) (rest := []) (a' := 1) (b' := 6) dX8_bestFactor_2 t8_contestOf ml_8_146 h1 rfl rfl (Nat.le_of_ble_eq_true rfl) rfl hdp ha hb (k1 _ (fun z m' h => h) (fun _ _ h => h))

theorem s8_bestFactor_5 {G : am_G} {dp a b : Nat} {m : am_M} {Q : am_Q} {i1 i2 i3 : Int} {r0 r90 : Nat} {o4 o5 o6 o7 o8 o9 : Option am_V} (hdp : 1 ≤ dp) (ha : 1 ≤ a) (hb : 6 ≤ b)  (k1 : ∀ Q' : am_Q, (∀ (m' : am_M), X G dp (a - 1) (b - 6) M8_bestFactor 12 [some (rV (some r0)), some (iV (i1)), some (iV (i2)), some (iV (i3)), some (rV (some r90)), o5, o6, o7, o8, o9] [] m' Q → Q' (.inl none) m') → (∀ (k : Nat) (m' : am_M), Q (.inr k) m' → Q' (.inr k) m') → T G (dp - 1) 1 6 M8_seekSupposed [iV (i2), iV (i3)] m Q')  : X G dp a b M8_bestFactor 5 [some (rV (some r0)), some (iV (i1)), some (iV (i2)), some (iV (i3)), o4, o5, o6, o7, o8, o9] [rV (some r90)] m Q := by
  refine X_astore dX8_bestFactor_5 (Nat.le_of_ble_eq_true rfl) ?_
  refine X_iload_n dX8_bestFactor_7 rfl rfl ?_
  refine X_iload_n dX8_bestFactor_8 rfl rfl ?_
  exact X_callS (As := [iV (i2), iV (i3)]) (rest := []) (a' := 1) (b' := 6) dX8_bestFactor_9 t8_seekSupposed ml_8_346 rfl rfl (Nat.le_of_ble_eq_true rfl) rfl hdp ha hb (k1 _ (fun m' h => h) (fun _ _ h => h))

theorem s8_bestFactor_12 {G : am_G} {dp a b : Nat} {m : am_M} {Q : am_Q} {i1 i2 i3 : Int} {r0 r4 : Nat} {o5 o6 o7 o8 o9 : Option am_V} (h1 : am_ob m r4 2) (k1 : ¬ ((m.1 r4 6) = 0) → X G dp a b M8_bestFactor 42 [some (rV (some r0)), some (iV (i1)), some (iV (i2)), some (iV (i3)), some (rV (some r4)), some (iV (101)), some (iV ((-1))), some (iV (5000)), some (iV (101)), o9] [] m Q) (k2 : ((m.1 r4 6) = 0) → X G dp a b M8_bestFactor 42 [some (rV (some r0)), some (iV (i1)), some (iV (i2)), some (iV (i3)), some (rV (some r4)), some (iV (300)), some (iV ((-1))), some (iV (5000)), some (iV (101)), o9] [] m Q)  : X G dp a b M8_bestFactor 12 [some (rV (some r0)), some (iV (i1)), some (iV (i2)), some (iV (i3)), some (rV (some r4)), o5, o6, o7, o8, o9] [] m Q := by
  refine X_aload dX8_bestFactor_12 rfl ?_
  refine X_getI dX8_bestFactor_14 fl_8_155 (by decide) h1 ?_
  refine X_if_ne (tgt := 26) dX8_bestFactor_17 (by decide) (fun c1 => ?_) (fun c1 => ?_)
  · refine Y_bipush dX8_bestFactor_26 (by omega) ?_
    refine X_istore dX8_bestFactor_28 (Nat.le_of_ble_eq_true rfl) ?_
    refine Y_iconst dX8_bestFactor_30 (by unfold i32; omega) ?_
    refine X_istore dX8_bestFactor_31 (Nat.le_of_ble_eq_true rfl) ?_
    refine Y_sipush dX8_bestFactor_33 (by omega) ?_
    refine X_istore dX8_bestFactor_36 (Nat.le_of_ble_eq_true rfl) ?_
    refine Y_bipush dX8_bestFactor_38 (by omega) ?_
    refine X_istore dX8_bestFactor_40 (Nat.le_of_ble_eq_true rfl) ?_
    exact (k1 c1)
  · refine Y_sipush dX8_bestFactor_20 (by omega) ?_
    refine X_goto (tgt := 28) dX8_bestFactor_23 (by decide) ?_
    refine X_istore dX8_bestFactor_28 (Nat.le_of_ble_eq_true rfl) ?_
    refine Y_iconst dX8_bestFactor_30 (by unfold i32; omega) ?_
    refine X_istore dX8_bestFactor_31 (Nat.le_of_ble_eq_true rfl) ?_
    refine Y_sipush dX8_bestFactor_33 (by omega) ?_
    refine X_istore dX8_bestFactor_36 (Nat.le_of_ble_eq_true rfl) ?_
    refine Y_bipush dX8_bestFactor_38 (by omega) ?_
    refine X_istore dX8_bestFactor_40 (Nat.le_of_ble_eq_true rfl) ?_
    exact (k2 c1)

theorem s8_bestFactor_42 {G : am_G} {dp a b : Nat} {m : am_M} {Q : am_Q} {i1 i2 i3 i5 i6 i7 i8 : Int} {r0 r4 : Nat} {o9 : Option am_V} (hdp : 1 ≤ dp) (h1 : am_ob m r0 7) (k1 : (i5 < i8) → Q (.inl (some (iV (i6)))) m) (k2 : ¬ (i5 < i8) → ∀ Q' : am_Q, (∀ (z : Int) (m' : am_M), X G dp a b M8_bestFactor 61 [some (rV (some r0)), some (iV (i1)), some (iV (i2)), some (iV (i3)), some (rV (some r4)), some (iV (i5)), some (iV (i6)), some (iV (i7)), some (iV (i8)), o9] [iV (z)] m' Q → Q' (.inl (some (iV (z)))) m') → T G (dp - 1) 0 0 M8_needed [rV (some r0), rV (some r4), iV (i8), iV (i2), iV (i3), iV (i7)] m Q')  : X G dp a b M8_bestFactor 42 [some (rV (some r0)), some (iV (i1)), some (iV (i2)), some (iV (i3)), some (rV (some r4)), some (iV (i5)), some (iV (i6)), some (iV (i7)), some (iV (i8)), o9] [] m Q := by
  refine X_iload dX8_bestFactor_42 rfl ?_
  refine X_iload dX8_bestFactor_44 rfl ?_
  refine X_icmp_gt (tgt := 85) dX8_bestFactor_46 (by decide) (fun c1 => ?_) (fun c1 => ?_)
  · refine X_iload dX8_bestFactor_85 rfl ?_
    exact X_iret dX8_bestFactor_87 rfl (k1 c1)
  · refine X_aload_n dX8_bestFactor_49 rfl rfl ?_
    refine X_aload dX8_bestFactor_50 rfl ?_
    refine X_iload dX8_bestFactor_52 rfl ?_
    refine X_iload_n dX8_bestFactor_54 rfl rfl ?_
    refine X_iload_n dX8_bestFactor_55 rfl rfl ?_
    refine X_iload dX8_bestFactor_56 rfl ?_
    exact X_callV (As := [rV (some r4), iV (i8), iV (i2), iV (i3), iV (i7)]) (rest := []) (a' := 0) (b' := 0) dX8_bestFactor_58 t8_needed ml_8_349 h1 rfl rfl (Nat.le_of_ble_eq_true rfl) rfl hdp (Nat.zero_le _) (Nat.zero_le _) ((k2 c1) _ (fun z m' h => h))

theorem s8_bestFactor_61 {G : am_G} {dp a b : Nat} {m : am_M} {Q : am_Q} {i1 i2 i3 i5 i6 i7 i8 i90 : Int} {r0 r4 : Nat} {o9 : Option am_V}  (k1 : (i90 = (-1)) → X G dp a b M8_bestFactor 42 [some (rV (some r0)), some (iV (i1)), some (iV (i2)), some (iV (i3)), some (rV (some r4)), some (iV (i5)), some (iV (i6)), some (iV (i7)), some (iV (wr (i8 + 1))), some (iV (i90))] [] m Q) (k2 : ¬ (i90 = (-1)) → X G dp a b M8_bestFactor 42 [some (rV (some r0)), some (iV (i1)), some (iV (i2)), some (iV (i3)), some (rV (some r4)), some (iV (i5)), some (iV (i8)), some (iV (wr (i90 - 1))), some (iV (wr (i8 + 1))), some (iV (i90))] [] m Q)  : X G dp a b M8_bestFactor 61 [some (rV (some r0)), some (iV (i1)), some (iV (i2)), some (iV (i3)), some (rV (some r4)), some (iV (i5)), some (iV (i6)), some (iV (i7)), some (iV (i8)), o9] [iV (i90)] m Q := by
  refine X_istore dX8_bestFactor_61 (Nat.le_of_ble_eq_true rfl) ?_
  refine X_iload dX8_bestFactor_63 rfl ?_
  refine Y_iconst dX8_bestFactor_65 (by unfold i32; omega) ?_
  refine X_icmp_eq (tgt := 79) dX8_bestFactor_66 (by decide) (fun c1 => ?_) (fun c1 => ?_)
  · refine X_iinc dX8_bestFactor_79 rfl ?_
    refine X_goto (tgt := 42) dX8_bestFactor_82 (by decide) ?_
    exact (k1 c1)
  · refine X_iload dX8_bestFactor_69 rfl ?_
    refine X_istore dX8_bestFactor_71 (Nat.le_of_ble_eq_true rfl) ?_
    refine X_iload dX8_bestFactor_73 rfl ?_
    refine Y_iconst dX8_bestFactor_75 (by unfold i32; omega) ?_
    refine X_isub dX8_bestFactor_76  ?_
    refine X_istore dX8_bestFactor_77 (Nat.le_of_ble_eq_true rfl) ?_
    refine X_iinc dX8_bestFactor_79 rfl ?_
    refine X_goto (tgt := 42) dX8_bestFactor_82 (by decide) ?_
    exact (k2 c1)

theorem s8_needed_0 {G : am_G} {dp a b : Nat} {m : am_M} {Q : am_Q} {i2 i3 i4 i5 : Int} {r0 r1 p1 : Nat} {o6 o7 o8 o9 o10 o11 o12 : Option am_V} (hdp : 1 ≤ dp) (h1 : am_ob m r1 2) (h2 : m.2.1 r1 3 = some p1) (k1 : ∀ Q' : am_Q, (∀ (z : Int) (m' : am_M), X G dp a b M8_needed 12 [some (rV (some r0)), some (rV (some r1)), some (iV (i2)), some (iV (i3)), some (iV (i4)), some (iV (i5)), o6, o7, o8, o9, o10, o11, o12] [iV (z)] m' Q → Q' (.inl (some (iV (z)))) m') → T G (dp - 1) 0 0 M2_leading [rV (some r1), rV (some p1), iV (m.1 r1 7)] m Q')  : X G dp a b M8_needed 0 [some (rV (some r0)), some (rV (some r1)), some (iV (i2)), some (iV (i3)), some (iV (i4)), some (iV (i5)), o6, o7, o8, o9, o10, o11, o12] [] m Q := by
  refine X_aload_n dX8_needed_0 rfl rfl ?_
  refine X_aload_n dX8_needed_1 rfl rfl ?_
  refine X_getP dX8_needed_2 fl_8_251 rfl h1 ?_
  refine am_ptr h2 ?_
  refine X_aload_n dX8_needed_5 rfl rfl ?_
  refine X_getI dX8_needed_6 fl_8_158 (by decide) h1 ?_
  exact X_callV (As := [rV (some p1), iV (m.1 r1 7)]) (rest := []) (a' := 0) (b' := 0) dX8_needed_9 t2_leading ml_8_355 h1 rfl rfl (Nat.le_of_ble_eq_true rfl) rfl hdp (Nat.zero_le _) (Nat.zero_le _) (k1 _ (fun z m' h => h))

theorem s8_needed_12 {G : am_G} {dp a b : Nat} {m : am_M} {Q : am_Q} {i2 i3 i4 i5 i90 : Int} {r0 r1 : Nat} {o6 o7 o8 o9 o10 o11 o12 : Option am_V}  (k1 : X G dp a b M8_needed 29 [some (rV (some r0)), some (rV (some r1)), some (iV (i2)), some (iV (i3)), some (iV (i4)), some (iV (i5)), some (iV (i90)), some (iV (wr ((wr (i5 - i3)) - i4))), some (iV (0)), some (iV (0)), o10, o11, o12] [] m Q)  : X G dp a b M8_needed 12 [some (rV (some r0)), some (rV (some r1)), some (iV (i2)), some (iV (i3)), some (iV (i4)), some (iV (i5)), o6, o7, o8, o9, o10, o11, o12] [iV (i90)] m Q := by
  refine X_istore dX8_needed_12 (Nat.le_of_ble_eq_true rfl) ?_
  refine X_iload dX8_needed_14 rfl ?_
  refine X_iload_n dX8_needed_16 rfl rfl ?_
  refine X_isub dX8_needed_17  ?_
  refine X_iload dX8_needed_18 rfl ?_
  refine X_isub dX8_needed_20  ?_
  refine X_istore dX8_needed_21 (Nat.le_of_ble_eq_true rfl) ?_
  refine Y_iconst dX8_needed_23 (by unfold i32; omega) ?_
  refine X_istore dX8_needed_24 (Nat.le_of_ble_eq_true rfl) ?_
  refine Y_iconst dX8_needed_26 (by unfold i32; omega) ?_
  refine X_istore dX8_needed_27 (Nat.le_of_ble_eq_true rfl) ?_
  exact k1

theorem s8_needed_29 {G : am_G} {dp a b : Nat} {m : am_M} {Q : am_Q} {i2 i3 i4 i5 i6 i7 i8 i9 : Int} {r0 r1 : Nat} {o10 o11 o12 : Option am_V} (hdp : 1 ≤ dp) (h1 : am_ob m r1 2) (h2 : am_ob m r0 7) (k1 : ((m.1 r1 5) ≤ i9) → X G dp a b M8_needed 136 [some (rV (some r0)), some (rV (some r1)), some (iV (i2)), some (iV (i3)), some (iV (i4)), some (iV (i5)), some (iV (i6)), some (iV (i7)), some (iV (i8)), some (iV (i9)), o10, o11, o12] [] m Q) (k2 : ¬ ((m.1 r1 5) ≤ i9) → (4 ≤ i9) → X G dp a b M8_needed 136 [some (rV (some r0)), some (rV (some r1)), some (iV (i2)), some (iV (i3)), some (iV (i4)), some (iV (i5)), some (iV (i6)), some (iV (i7)), some (iV (i8)), some (iV (i9)), o10, o11, o12] [] m Q) (k3 : ¬ ((m.1 r1 5) ≤ i9) → ¬ (4 ≤ i9) → (i8 = (-1)) → X G dp a b M8_needed 136 [some (rV (some r0)), some (rV (some r1)), some (iV (i2)), some (iV (i3)), some (iV (i4)), some (iV (i5)), some (iV (i6)), some (iV (i7)), some (iV (i8)), some (iV (i9)), o10, o11, o12] [] m Q) (k4 : ¬ ((m.1 r1 5) ≤ i9) → ¬ (4 ≤ i9) → ¬ (i8 = (-1)) → ¬ (i9 = (m.1 r1 7)) → ¬ (i9 = i6) → ∀ Q' : am_Q, (∀ (z : Int) (m' : am_M), X G dp a b M8_needed 85 [some (rV (some r0)), some (rV (some r1)), some (iV (i2)), some (iV (i3)), some (iV (i4)), some (iV (i5)), some (iV (i6)), some (iV (i7)), some (iV (i8)), some (iV (i9)), o10, o11, o12] [lV (z)] m' Q → Q' (.inl (some (lV (z)))) m') → T G (dp - 1) 0 0 M8_supposedRisk [rV (some r0), rV (some r1), iV (i9), iV (0), iV (i2), iV (i3), iV (i4)] m Q') (k5 : ¬ ((m.1 r1 5) ≤ i9) → ¬ (4 ≤ i9) → ¬ (i8 = (-1)) → ¬ (i9 = (m.1 r1 7)) → (i9 = i6) → ∀ Q' : am_Q, (∀ (z : Int) (m' : am_M), X G dp a b M8_needed 85 [some (rV (some r0)), some (rV (some r1)), some (iV (i2)), some (iV (i3)), some (iV (i4)), some (iV (i5)), some (iV (i6)), some (iV (i7)), some (iV (i8)), some (iV (i9)), o10, o11, o12] [lV (z)] m' Q → Q' (.inl (some (lV (z)))) m') → T G (dp - 1) 0 0 M8_supposedRisk [rV (some r0), rV (some r1), iV (i9), iV (1), iV (i2), iV (i3), iV (i4)] m Q') (k6 : ¬ ((m.1 r1 5) ≤ i9) → ¬ (4 ≤ i9) → ¬ (i8 = (-1)) → (i9 = (m.1 r1 7)) → X G dp a b M8_needed 29 [some (rV (some r0)), some (rV (some r1)), some (iV (i2)), some (iV (i3)), some (iV (i4)), some (iV (i5)), some (iV (i6)), some (iV (i7)), some (iV (i8)), some (iV (wr (i9 + 1))), o10, o11, o12] [] m Q)  : X G dp a b M8_needed 29 [some (rV (some r0)), some (rV (some r1)), some (iV (i2)), some (iV (i3)), some (iV (i4)), some (iV (i5)), some (iV (i6)), some (iV (i7)), some (iV (i8)), some (iV (i9)), o10, o11, o12] [] m Q := by
  refine X_iload dX8_needed_29 rfl ?_
  refine X_aload_n dX8_needed_31 rfl rfl ?_
  refine X_getI dX8_needed_32 fl_8_150 (by decide) h1 ?_
  refine X_icmp_ge (tgt := 136) dX8_needed_35 (by decide) (fun c1 => ?_) (fun c1 => ?_)
  · exact (k1 c1)
  · refine X_iload dX8_needed_38 rfl ?_
    refine Y_iconst dX8_needed_40 (by unfold i32; omega) ?_
    refine X_icmp_ge (tgt := 136) dX8_needed_41 (by decide) (fun c2 => ?_) (fun c2 => ?_)
    · exact (k2 c1 c2)
    · refine X_iload dX8_needed_44 rfl ?_
      refine Y_iconst dX8_needed_46 (by unfold i32; omega) ?_
      refine X_icmp_eq (tgt := 136) dX8_needed_47 (by decide) (fun c3 => ?_) (fun c3 => ?_)
      · exact (k3 c1 c2 c3)
      · refine X_iload dX8_needed_50 rfl ?_
        refine X_aload_n dX8_needed_52 rfl rfl ?_
        refine X_getI dX8_needed_53 fl_8_158 (by decide) h1 ?_
        refine X_icmp_ne (tgt := 62) dX8_needed_56 (by decide) (fun c4 => ?_) (fun c4 => ?_)
        · refine X_aload_n dX8_needed_62 rfl rfl ?_
          refine X_aload_n dX8_needed_63 rfl rfl ?_
          refine X_iload dX8_needed_64 rfl ?_
          refine X_iload dX8_needed_66 rfl ?_
          refine X_iload dX8_needed_68 rfl ?_
          refine X_icmp_ne (tgt := 77) dX8_needed_70 (by decide) (fun c5 => ?_) (fun c5 => ?_)
          · refine Y_iconst dX8_needed_77 (by unfold i32; omega) ?_
            refine X_iload_n dX8_needed_78 rfl rfl ?_
            refine X_iload_n dX8_needed_79 rfl rfl ?_
            refine X_iload dX8_needed_80 rfl ?_
            exact X_callV (As := [rV (some r1), iV (i9), iV (0), iV (i2), iV (i3), iV (i4)]) (rest := []) (a' := 0) (b' := 0) dX8_needed_82 t8_supposedRisk ml_8_359 h2 rfl rfl (Nat.le_of_ble_eq_true rfl) rfl hdp (Nat.zero_le _) (Nat.zero_le _) ((k4 c1 c2 c3 c4 c5) _ (fun z m' h => h))
          · refine Y_iconst dX8_needed_73 (by unfold i32; omega) ?_
            refine X_goto (tgt := 78) dX8_needed_74 (by decide) ?_
            refine X_iload_n dX8_needed_78 rfl rfl ?_
            refine X_iload_n dX8_needed_79 rfl rfl ?_
            refine X_iload dX8_needed_80 rfl ?_
            exact X_callV (As := [rV (some r1), iV (i9), iV (1), iV (i2), iV (i3), iV (i4)]) (rest := []) (a' := 0) (b' := 0) dX8_needed_82 t8_supposedRisk ml_8_359 h2 rfl rfl (Nat.le_of_ble_eq_true rfl) rfl hdp (Nat.zero_le _) (Nat.zero_le _) ((k5 c1 c2 c3 c4 c5) _ (fun z m' h => h))
        · refine X_goto (tgt := 130) dX8_needed_59 (by decide) ?_
          refine X_iinc dX8_needed_130 rfl ?_
          refine X_goto (tgt := 29) dX8_needed_133 (by decide) ?_
          exact (k6 c1 c2 c3 c4)

theorem s8_needed_85 {G : am_G} {dp a b : Nat} {m : am_M} {Q : am_Q} {i2 i3 i4 i5 i6 i7 i8 i9 l90 : Int} {r0 r1 : Nat} {o10 o11 o12 : Option am_V} (hdp : 1 ≤ dp) (h1 : am_ob m r0 7) (k1 : ∀ Q' : am_Q, (∀ (z : Int) (m' : am_M), X G dp a b M8_needed 99 [some (rV (some r0)), some (rV (some r1)), some (iV (i2)), some (iV (i3)), some (iV (i4)), some (iV (i5)), some (iV (i6)), some (iV (i7)), some (iV (i8)), some (iV (i9)), some (lV (l90)), none, o12] [iV (z)] m' Q → Q' (.inl (some (iV (z)))) m') → T G (dp - 1) 0 0 M8_cleanDraws [rV (some r0), rV (some r1), iV (i9), iV (i2), lV (l90), iV (i7)] m Q')  : X G dp a b M8_needed 85 [some (rV (some r0)), some (rV (some r1)), some (iV (i2)), some (iV (i3)), some (iV (i4)), some (iV (i5)), some (iV (i6)), some (iV (i7)), some (iV (i8)), some (iV (i9)), o10, o11, o12] [lV (l90)] m Q := by
  refine X_lstore dX8_needed_85 (Nat.le_of_ble_eq_true rfl) ?_
  refine X_aload_n dX8_needed_87 rfl rfl ?_
  refine X_aload_n dX8_needed_88 rfl rfl ?_
  refine X_iload dX8_needed_89 rfl ?_
  refine X_iload_n dX8_needed_91 rfl rfl ?_
  refine X_lload dX8_needed_92 rfl ?_
  refine X_iload dX8_needed_94 rfl ?_
  exact X_callV (As := [rV (some r1), iV (i9), iV (i2), lV (l90), iV (i7)]) (rest := []) (a' := 0) (b' := 0) dX8_needed_96 t8_cleanDraws ml_8_363 h1 rfl rfl (Nat.le_of_ble_eq_true rfl) rfl hdp (Nat.zero_le _) (Nat.zero_le _) (k1 _ (fun z m' h => h))

theorem s8_needed_99 {G : am_G} {dp a b : Nat} {m : am_M} {Q : am_Q} {i2 i3 i4 i5 i6 i7 i8 i9 i90 l10 : Int} {r0 r1 : Nat} {o12 : Option am_V} (h1 : am_ob m r1 2) (k1 : ¬ (i90 = (-1)) → ¬ ((m.1 r1 6) = 0) → X G dp a b M8_needed 29 [some (rV (some r0)), some (rV (some r1)), some (iV (i2)), some (iV (i3)), some (iV (i4)), some (iV (i5)), some (iV (i6)), some (iV (i7)), some (iV (max i8 i90)), some (iV (wr (i9 + 1))), some (lV (l10)), none, some (iV (i90))] [] m Q) (k2 : ¬ (i90 = (-1)) → ((m.1 r1 6) = 0) → X G dp a b M8_needed 136 [some (rV (some r0)), some (rV (some r1)), some (iV (i2)), some (iV (i3)), some (iV (i4)), some (iV (i5)), some (iV (i6)), some (iV (i7)), some (iV (max i8 i90)), some (iV (i9)), some (lV (l10)), none, some (iV (i90))] [] m Q) (k3 : (i90 = (-1)) → ¬ ((m.1 r1 6) = 0) → X G dp a b M8_needed 29 [some (rV (some r0)), some (rV (some r1)), some (iV (i2)), some (iV (i3)), some (iV (i4)), some (iV (i5)), some (iV (i6)), some (iV (i7)), some (iV ((-1))), some (iV (wr (i9 + 1))), some (lV (l10)), none, some (iV (i90))] [] m Q) (k4 : (i90 = (-1)) → ((m.1 r1 6) = 0) → X G dp a b M8_needed 136 [some (rV (some r0)), some (rV (some r1)), some (iV (i2)), some (iV (i3)), some (iV (i4)), some (iV (i5)), some (iV (i6)), some (iV (i7)), some (iV ((-1))), some (iV (i9)), some (lV (l10)), none, some (iV (i90))] [] m Q)  : X G dp a b M8_needed 99 [some (rV (some r0)), some (rV (some r1)), some (iV (i2)), some (iV (i3)), some (iV (i4)), some (iV (i5)), some (iV (i6)), some (iV (i7)), some (iV (i8)), some (iV (i9)), some (lV (l10)), none, o12] [iV (i90)] m Q := by
  refine X_istore dX8_needed_99 (Nat.le_of_ble_eq_true rfl) ?_
  refine X_iload dX8_needed_101 rfl ?_
  refine Y_iconst dX8_needed_103 (by unfold i32; omega) ?_
  refine X_icmp_ne (tgt := 111) dX8_needed_104 (by decide) (fun c1 => ?_) (fun c1 => ?_)
  · refine X_iload dX8_needed_111 rfl ?_
    refine X_iload dX8_needed_113 rfl ?_
    refine X_maxI dX8_needed_115 ml_8_367 (Nat.le_of_ble_eq_true rfl) ?_
    refine X_istore dX8_needed_118 (Nat.le_of_ble_eq_true rfl) ?_
    refine X_aload_n dX8_needed_120 rfl rfl ?_
    refine X_getI dX8_needed_121 fl_8_155 (by decide) h1 ?_
    refine X_if_ne (tgt := 130) dX8_needed_124 (by decide) (fun c2 => ?_) (fun c2 => ?_)
    · refine X_iinc dX8_needed_130 rfl ?_
      refine X_goto (tgt := 29) dX8_needed_133 (by decide) ?_
      exact (k1 c1 c2)
    · refine X_goto (tgt := 136) dX8_needed_127 (by decide) ?_
      exact (k2 c1 c2)
  · refine Y_iconst dX8_needed_107 (by unfold i32; omega) ?_
    refine X_goto (tgt := 118) dX8_needed_108 (by decide) ?_
    refine X_istore dX8_needed_118 (Nat.le_of_ble_eq_true rfl) ?_
    refine X_aload_n dX8_needed_120 rfl rfl ?_
    refine X_getI dX8_needed_121 fl_8_155 (by decide) h1 ?_
    refine X_if_ne (tgt := 130) dX8_needed_124 (by decide) (fun c3 => ?_) (fun c3 => ?_)
    · refine X_iinc dX8_needed_130 rfl ?_
      refine X_goto (tgt := 29) dX8_needed_133 (by decide) ?_
      exact (k3 c1 c3)
    · refine X_goto (tgt := 136) dX8_needed_127 (by decide) ?_
      exact (k4 c1 c3)

theorem s8_needed_136 {G : am_G} {dp a b : Nat} {m : am_M} {Q : am_Q} {i2 i3 i4 i5 i6 i7 i8 i9 : Int} {r0 r1 : Nat} {o10 o11 o12 : Option am_V}  (k1 : ¬ (i8 = (-1)) → Q (.inl (some (iV (wr ((wr (i3 + i4)) + i8))))) m) (k2 : (i8 = (-1)) → Q (.inl (some (iV ((-1))))) m)  : X G dp a b M8_needed 136 [some (rV (some r0)), some (rV (some r1)), some (iV (i2)), some (iV (i3)), some (iV (i4)), some (iV (i5)), some (iV (i6)), some (iV (i7)), some (iV (i8)), some (iV (i9)), o10, o11, o12] [] m Q := by
  refine X_iload dX8_needed_136 rfl ?_
  refine Y_iconst dX8_needed_138 (by unfold i32; omega) ?_
  refine X_icmp_ne (tgt := 146) dX8_needed_139 (by decide) (fun c1 => ?_) (fun c1 => ?_)
  · refine X_iload_n dX8_needed_146 rfl rfl ?_
    refine X_iload dX8_needed_147 rfl ?_
    refine X_iadd dX8_needed_149  ?_
    refine X_iload dX8_needed_150 rfl ?_
    refine X_iadd dX8_needed_152  ?_
    exact X_iret dX8_needed_153 rfl (k1 c1)
  · refine Y_iconst dX8_needed_142 (by unfold i32; omega) ?_
    refine X_goto (tgt := 153) dX8_needed_143 (by decide) ?_
    exact X_iret dX8_needed_153 rfl (k2 c1)

theorem s8_supposedRisk_0 {G : am_G} {dp a b : Nat} {m : am_M} {Q : am_Q} {i2 i3 i4 i5 i6 : Int} {r0 r1 p1 : Nat} {o7 o8 o9 o10 : Option am_V} (hdp : 1 ≤ dp) (h1 : am_ob m r1 2) (h2 : am_ob m r0 7) (h3 : m.2.1 r0 4 = some p1) (h4 : am_ob m p1 3) (k1 : ¬ ((m.1 r1 6) = 1) → ∀ Q' : am_Q, (∀ (z : Int) (m' : am_M), X G dp a b M8_supposedRisk 60 [some (rV (some r0)), some (rV (some r1)), some (iV (i2)), some (iV (i3)), some (iV (i4)), some (iV (i5)), some (iV (i6)), o7, o8, o9, o10] [lV (z)] m' Q → Q' (.inl (some (lV (z)))) m') → T G (dp - 1) 0 0 M2_comparedTimes [rV (some r1), iV (m.1 p1 3), iV (i4)] m Q') (k2 : ((m.1 r1 6) = 1) → ∀ Q' : am_Q, (∀ (z : Int) (m' : am_M), X G dp a b M8_supposedRisk 13 [some (rV (some r0)), some (rV (some r1)), some (iV (i2)), some (iV (i3)), some (iV (i4)), some (iV (i5)), some (iV (i6)), o7, o8, o9, o10] [lV (z)] m' Q → Q' (.inl (some (lV (z)))) m') → T G (dp - 1) 0 0 M2_votesOfBoth [rV (some r1), iV (i2)] m Q')  : X G dp a b M8_supposedRisk 0 [some (rV (some r0)), some (rV (some r1)), some (iV (i2)), some (iV (i3)), some (iV (i4)), some (iV (i5)), some (iV (i6)), o7, o8, o9, o10] [] m Q := by
  refine X_aload_n dX8_supposedRisk_0 rfl rfl ?_
  refine X_getI dX8_supposedRisk_1 fl_8_155 (by decide) h1 ?_
  refine Y_iconst dX8_supposedRisk_4 (by unfold i32; omega) ?_
  refine X_icmp_ne (tgt := 47) dX8_supposedRisk_5 (by decide) (fun c1 => ?_) (fun c1 => ?_)
  · refine X_aload_n dX8_supposedRisk_47 rfl rfl ?_
    refine X_aload_n dX8_supposedRisk_48 rfl rfl ?_
    refine X_getP dX8_supposedRisk_49 fl_8_30 rfl h2 ?_
    refine am_ptr h3 ?_
    refine X_getI dX8_supposedRisk_52 fl_8_107 (by decide) h4 ?_
    refine X_iload dX8_supposedRisk_55 rfl ?_
    exact X_callV (As := [iV (m.1 p1 3), iV (i4)]) (rest := []) (a' := 0) (b' := 0) dX8_supposedRisk_57 t2_comparedTimes ml_8_379 h1 rfl rfl (Nat.le_of_ble_eq_true rfl) rfl hdp (Nat.zero_le _) (Nat.zero_le _) ((k1 c1) _ (fun z m' h => h))
  · refine X_aload_n dX8_supposedRisk_8 rfl rfl ?_
    refine X_iload_n dX8_supposedRisk_9 rfl rfl ?_
    exact X_callV (As := [iV (i2)]) (rest := []) (a' := 0) (b' := 0) dX8_supposedRisk_10 t2_votesOfBoth ml_8_370 h1 rfl rfl (Nat.le_of_ble_eq_true rfl) rfl hdp (Nat.zero_le _) (Nat.zero_le _) ((k2 c1) _ (fun z m' h => h))

theorem s8_supposedRisk_13 {G : am_G} {dp a b : Nat} {m : am_M} {Q : am_Q} {i2 i3 i4 i5 i6 l90 : Int} {r0 r1 p1 : Nat} {o7 o8 o9 o10 : Option am_V} {n_p1 : Nat} (hdp : 1 ≤ dp) (h1 : am_ob m r1 2) (h2 : m.2.1 r1 3 = some p1) (h3 : am_ar m p1 100 n_p1) (k1 : (i3 = 0) → Q (.inl (some (lV (1000000000)))) m) (k2 : ¬ (i3 = 0) → ∀ Q' : am_Q, (∀ (z : Int) (m' : am_M), X G dp a b M8_supposedRisk 40 [some (rV (some r0)), some (rV (some r1)), some (iV (i2)), some (iV (i3)), some (iV (i4)), some (iV (i5)), some (iV (i6)), some (lV (l90)), none, o9, o10] [lV (z)] m' Q → Q' (.inl (some (lV (z)))) m') → T G (dp - 1) 0 0 M8_repeated [lV (1000000000), lV (l90), lV (wrl (2 * (m.1 p1 (i2).toNat))), iV (i6)] m Q') (h4 : ¬ (i3 = 0) → 0 ≤ i2 := by intros; first | omega | (dsimp only at *; omega)) (h5 : ¬ (i3 = 0) → i2 < (n_p1 : Int) := by intros; first | omega | (dsimp only at *; omega)) : X G dp a b M8_supposedRisk 13 [some (rV (some r0)), some (rV (some r1)), some (iV (i2)), some (iV (i3)), some (iV (i4)), some (iV (i5)), some (iV (i6)), o7, o8, o9, o10] [lV (l90)] m Q := by
  refine X_lstore dX8_supposedRisk_13 (Nat.le_of_ble_eq_true rfl) ?_
  refine X_iload_n dX8_supposedRisk_15 rfl rfl ?_
  refine X_if_eq (tgt := 43) dX8_supposedRisk_16 (by decide) (fun c1 => ?_) (fun c1 => ?_)
  · refine X_ldc2 dX8_supposedRisk_43 kc_8_212 (by unfold i64; omega) ?_
    exact X_lret dX8_supposedRisk_46 rfl (k1 c1)
  · refine X_ldc2 dX8_supposedRisk_19 kc_8_212 (by unfold i64; omega) ?_
    refine X_lload dX8_supposedRisk_22 rfl ?_
    refine X_ldc2 dX8_supposedRisk_24 kc_8_373 (by unfold i64; omega) ?_
    refine X_aload_n dX8_supposedRisk_27 rfl rfl ?_
    refine X_getP dX8_supposedRisk_28 fl_8_251 rfl h1 ?_
    refine am_ptr h2 ?_
    refine X_iload_n dX8_supposedRisk_31 rfl rfl ?_
    refine X_iald dX8_supposedRisk_32 h3 (h4 c1) (h5 c1) ?_
    refine X_i2l dX8_supposedRisk_33 ?_
    refine X_lmul dX8_supposedRisk_34  ?_
    refine X_iload dX8_supposedRisk_35 rfl ?_
    exact X_callS (As := [lV (1000000000), lV (l90), lV (wrl (2 * (m.1 p1 (i2).toNat))), iV (i6)]) (rest := []) (a' := 0) (b' := 0) dX8_supposedRisk_37 t8_repeated ml_8_375 rfl rfl (Nat.le_of_ble_eq_true rfl) rfl hdp (Nat.zero_le _) (Nat.zero_le _) ((k2 c1) _ (fun z m' h => h))

theorem s8_supposedRisk_40 {G : am_G} {dp a b : Nat} {m : am_M} {Q : am_Q} {i2 i3 i4 i5 i6 l7 l90 : Int} {r0 r1 : Nat} {o9 o10 : Option am_V}  (k1 : Q (.inl (some (lV (l90)))) m)  : X G dp a b M8_supposedRisk 40 [some (rV (some r0)), some (rV (some r1)), some (iV (i2)), some (iV (i3)), some (iV (i4)), some (iV (i5)), some (iV (i6)), some (lV (l7)), none, o9, o10] [lV (l90)] m Q := by
  refine X_goto (tgt := 46) dX8_supposedRisk_40 (by decide) ?_
  exact X_lret dX8_supposedRisk_46 rfl k1

theorem s8_supposedRisk_60 {G : am_G} {dp a b : Nat} {m : am_M} {Q : am_Q} {i2 i3 i4 i5 i6 l90 : Int} {r0 r1 p1 : Nat} {o7 o8 o9 o10 : Option am_V} (hdp : 1 ≤ dp) (h1 : am_ob m r0 7) (h2 : m.2.1 r0 4 = some p1) (h3 : am_ob m p1 3) (k1 : ∀ Q' : am_Q, (∀ (z : Int) (m' : am_M), X G dp a b M8_supposedRisk 80 [some (rV (some r0)), some (rV (some r1)), some (iV (i2)), some (iV (i3)), some (iV (i4)), some (iV (i5)), some (iV (i6)), some (lV (l90)), none, o9, o10] [lV (z), lV (l90), lV (1000000000)] m' Q → Q' (.inl (some (lV (z)))) m') → T G (dp - 1) 0 0 M2_comparedBy [iV (m.1 p1 3), iV (i4), iV (2)] m Q')  : X G dp a b M8_supposedRisk 60 [some (rV (some r0)), some (rV (some r1)), some (iV (i2)), some (iV (i3)), some (iV (i4)), some (iV (i5)), some (iV (i6)), o7, o8, o9, o10] [lV (l90)] m Q := by
  refine X_lstore dX8_supposedRisk_60 (Nat.le_of_ble_eq_true rfl) ?_
  refine X_ldc2 dX8_supposedRisk_62 kc_8_212 (by unfold i64; omega) ?_
  refine X_lload dX8_supposedRisk_65 rfl ?_
  refine X_aload_n dX8_supposedRisk_67 rfl rfl ?_
  refine X_getP dX8_supposedRisk_68 fl_8_30 rfl h1 ?_
  refine am_ptr h2 ?_
  refine X_getI dX8_supposedRisk_71 fl_8_107 (by decide) h3 ?_
  refine X_iload dX8_supposedRisk_74 rfl ?_
  refine Y_iconst dX8_supposedRisk_76 (by unfold i32; omega) ?_
  exact X_callS (As := [iV (m.1 p1 3), iV (i4), iV (2)]) (rest := [lV (l90), lV (1000000000)]) (a' := 0) (b' := 0) dX8_supposedRisk_77 t2_comparedBy ml_8_383 rfl rfl (Nat.le_of_ble_eq_true rfl) rfl hdp (Nat.zero_le _) (Nat.zero_le _) (k1 _ (fun z m' h => h))

theorem s8_supposedRisk_80 {G : am_G} {dp a b : Nat} {m : am_M} {Q : am_Q} {i2 i3 i4 i5 i6 l7 l90 l91 l92 : Int} {r0 r1 : Nat} {o9 o10 : Option am_V} (hdp : 1 ≤ dp)  (k1 : ∀ Q' : am_Q, (∀ (z : Int) (m' : am_M), X G dp a b M8_supposedRisk 85 [some (rV (some r0)), some (rV (some r1)), some (iV (i2)), some (iV (i3)), some (iV (i4)), some (iV (i5)), some (iV (i6)), some (lV (l7)), none, o9, o10] [lV (z)] m' Q → Q' (.inl (some (lV (z)))) m') → T G (dp - 1) 0 0 M8_repeated [lV (l92), lV (l91), lV (l90), iV (i6)] m Q')  : X G dp a b M8_supposedRisk 80 [some (rV (some r0)), some (rV (some r1)), some (iV (i2)), some (iV (i3)), some (iV (i4)), some (iV (i5)), some (iV (i6)), some (lV (l7)), none, o9, o10] [lV (l90), lV (l91), lV (l92)] m Q := by
  refine X_iload dX8_supposedRisk_80 rfl ?_
  exact X_callS (As := [lV (l92), lV (l91), lV (l90), iV (i6)]) (rest := []) (a' := 0) (b' := 0) dX8_supposedRisk_82 t8_repeated ml_8_375 rfl rfl (Nat.le_of_ble_eq_true rfl) rfl hdp (Nat.zero_le _) (Nat.zero_le _) (k1 _ (fun z m' h => h))

theorem s8_supposedRisk_85 {G : am_G} {dp a b : Nat} {m : am_M} {Q : am_Q} {i2 i3 i4 i5 i6 l7 l90 : Int} {r0 r1 p1 : Nat} {o9 o10 : Option am_V} (hdp : 1 ≤ dp) (h1 : am_ob m r0 7) (h2 : m.2.1 r0 4 = some p1) (h3 : am_ob m p1 3) (k1 : ∀ Q' : am_Q, (∀ (z : Int) (m' : am_M), X G dp a b M8_supposedRisk 104 [some (rV (some r0)), some (rV (some r1)), some (iV (i2)), some (iV (i3)), some (iV (i4)), some (iV (i5)), some (iV (i6)), some (lV (l7)), none, some (lV (l90)), none] [lV (z), lV (l7), lV (l90)] m' Q → Q' (.inl (some (lV (z)))) m') → T G (dp - 1) 0 0 M2_comparedBy [iV (m.1 p1 3), iV (i4), iV (1)] m Q')  : X G dp a b M8_supposedRisk 85 [some (rV (some r0)), some (rV (some r1)), some (iV (i2)), some (iV (i3)), some (iV (i4)), some (iV (i5)), some (iV (i6)), some (lV (l7)), none, o9, o10] [lV (l90)] m Q := by
  refine X_lstore dX8_supposedRisk_85 (Nat.le_of_ble_eq_true rfl) ?_
  refine X_lload dX8_supposedRisk_87 rfl ?_
  refine X_lload dX8_supposedRisk_89 rfl ?_
  refine X_aload_n dX8_supposedRisk_91 rfl rfl ?_
  refine X_getP dX8_supposedRisk_92 fl_8_30 rfl h1 ?_
  refine am_ptr h2 ?_
  refine X_getI dX8_supposedRisk_95 fl_8_107 (by decide) h3 ?_
  refine X_iload dX8_supposedRisk_98 rfl ?_
  refine Y_iconst dX8_supposedRisk_100 (by unfold i32; omega) ?_
  exact X_callS (As := [iV (m.1 p1 3), iV (i4), iV (1)]) (rest := [lV (l7), lV (l90)]) (a' := 0) (b' := 0) dX8_supposedRisk_101 t2_comparedBy ml_8_383 rfl rfl (Nat.le_of_ble_eq_true rfl) rfl hdp (Nat.zero_le _) (Nat.zero_le _) (k1 _ (fun z m' h => h))

theorem s8_supposedRisk_104 {G : am_G} {dp a b : Nat} {m : am_M} {Q : am_Q} {i2 i3 i4 i5 i6 l7 l9 l90 l91 l92 : Int} {r0 r1 : Nat} (hdp : 1 ≤ dp)  (k1 : ∀ Q' : am_Q, (∀ (z : Int) (m' : am_M), X G dp a b M8_supposedRisk 109 [some (rV (some r0)), some (rV (some r1)), some (iV (i2)), some (iV (i3)), some (iV (i4)), some (iV (i5)), some (iV (i6)), some (lV (l7)), none, some (lV (l9)), none] [lV (z)] m' Q → Q' (.inl (some (lV (z)))) m') → T G (dp - 1) 0 0 M8_repeated [lV (l92), lV (l91), lV (l90), iV (i5)] m Q')  : X G dp a b M8_supposedRisk 104 [some (rV (some r0)), some (rV (some r1)), some (iV (i2)), some (iV (i3)), some (iV (i4)), some (iV (i5)), some (iV (i6)), some (lV (l7)), none, some (lV (l9)), none] [lV (l90), lV (l91), lV (l92)] m Q := by
  refine X_iload dX8_supposedRisk_104 rfl ?_
  exact X_callS (As := [lV (l92), lV (l91), lV (l90), iV (i5)]) (rest := []) (a' := 0) (b' := 0) dX8_supposedRisk_106 t8_repeated ml_8_375 rfl rfl (Nat.le_of_ble_eq_true rfl) rfl hdp (Nat.zero_le _) (Nat.zero_le _) (k1 _ (fun z m' h => h))

theorem s8_supposedRisk_109 {G : am_G} {dp a b : Nat} {m : am_M} {Q : am_Q} {i2 i3 i4 i5 i6 l7 l9 l90 : Int} {r0 r1 : Nat}  (k1 : Q (.inl (some (lV (l90)))) m)  : X G dp a b M8_supposedRisk 109 [some (rV (some r0)), some (rV (some r1)), some (iV (i2)), some (iV (i3)), some (iV (i4)), some (iV (i5)), some (iV (i6)), some (lV (l7)), none, some (lV (l9)), none] [lV (l90)] m Q := by
  exact X_lret dX8_supposedRisk_109 rfl k1

theorem s8_cleanDraws_0 {G : am_G} {dp a b : Nat} {m : am_M} {Q : am_Q} {i2 i3 i6 l4 : Int} {r0 r1 p1 : Nat} {o7 o8 : Option am_V} (hdp : 1 ≤ dp) (h1 : am_ob m r1 2) (h2 : am_ob m r0 7) (h3 : m.2.1 r0 4 = some p1) (h4 : am_ob m p1 3) (k1 : ¬ ((m.1 r1 6) = 1) → ∀ Q' : am_Q, (∀ (z : Int) (m' : am_M), X G dp a b M8_cleanDraws 58 [some (rV (some r0)), some (rV (some r1)), some (iV (i2)), some (iV (i3)), some (lV (l4)), none, some (iV (i6)), o7, o8] [lV (z)] m' Q → Q' (.inl (some (lV (z)))) m') → T G (dp - 1) 0 0 M2_comparedTimes [rV (some r1), iV (m.1 p1 3), iV (i3)] m Q') (k2 : ((m.1 r1 6) = 1) → ∀ Q' : am_Q, (∀ (z : Int) (m' : am_M), X G dp a b M8_cleanDraws 13 [some (rV (some r0)), some (rV (some r1)), some (iV (i2)), some (iV (i3)), some (lV (l4)), none, some (iV (i6)), o7, o8] [lV (z)] m' Q → Q' (.inl (some (lV (z)))) m') → T G (dp - 1) 0 0 M2_votesOfBoth [rV (some r1), iV (i2)] m Q')  : X G dp a b M8_cleanDraws 0 [some (rV (some r0)), some (rV (some r1)), some (iV (i2)), some (iV (i3)), some (lV (l4)), none, some (iV (i6)), o7, o8] [] m Q := by
  refine X_aload_n dX8_cleanDraws_0 rfl rfl ?_
  refine X_getI dX8_cleanDraws_1 fl_8_155 (by decide) h1 ?_
  refine Y_iconst dX8_cleanDraws_4 (by unfold i32; omega) ?_
  refine X_icmp_ne (tgt := 46) dX8_cleanDraws_5 (by decide) (fun c1 => ?_) (fun c1 => ?_)
  · refine X_aload_n dX8_cleanDraws_46 rfl rfl ?_
    refine X_aload_n dX8_cleanDraws_47 rfl rfl ?_
    refine X_getP dX8_cleanDraws_48 fl_8_30 rfl h2 ?_
    refine am_ptr h3 ?_
    refine X_getI dX8_cleanDraws_51 fl_8_107 (by decide) h4 ?_
    refine X_iload_n dX8_cleanDraws_54 rfl rfl ?_
    exact X_callV (As := [iV (m.1 p1 3), iV (i3)]) (rest := []) (a' := 0) (b' := 0) dX8_cleanDraws_55 t2_comparedTimes ml_8_379 h1 rfl rfl (Nat.le_of_ble_eq_true rfl) rfl hdp (Nat.zero_le _) (Nat.zero_le _) ((k1 c1) _ (fun z m' h => h))
  · refine X_aload_n dX8_cleanDraws_8 rfl rfl ?_
    refine X_iload_n dX8_cleanDraws_9 rfl rfl ?_
    exact X_callV (As := [iV (i2)]) (rest := []) (a' := 0) (b' := 0) dX8_cleanDraws_10 t2_votesOfBoth ml_8_370 h1 rfl rfl (Nat.le_of_ble_eq_true rfl) rfl hdp (Nat.zero_le _) (Nat.zero_le _) ((k2 c1) _ (fun z m' h => h))

theorem s8_cleanDraws_13 {G : am_G} {dp a b : Nat} {m : am_M} {Q : am_Q} {i2 i3 i6 l4 l90 : Int} {r0 r1 p1 p2 : Nat} {o7 o8 : Option am_V} {n_p1 : Nat} (hdp : 1 ≤ dp) (h1 : am_ob m r1 2) (h2 : m.2.1 r1 3 = some p1) (h3 : am_ar m p1 100 n_p1) (h6 : am_ob m r0 7) (h7 : m.2.1 r0 4 = some p2) (h8 : am_ob m p2 3) (k1 : ∀ Q' : am_Q, (∀ (z : Int) (m' : am_M), X G dp a b M8_cleanDraws 40 [some (rV (some r0)), some (rV (some r1)), some (iV (i2)), some (iV (i3)), some (lV (l4)), none, some (iV (i6)), some (lV (l90)), none] [lV (z), lV (wrl (2 * (m.1 p1 (m.1 r1 7).toNat))), lV (l90), lV (l4)] m' Q → Q' (.inl (some (lV (z)))) m') → T G (dp - 1) 0 0 M3_goal [rV (some p2)] m Q') (h4 : 0 ≤ m.1 r1 7 := by intros; first | omega | (dsimp only at *; omega)) (h5 : m.1 r1 7 < (n_p1 : Int) := by intros; first | omega | (dsimp only at *; omega)) : X G dp a b M8_cleanDraws 13 [some (rV (some r0)), some (rV (some r1)), some (iV (i2)), some (iV (i3)), some (lV (l4)), none, some (iV (i6)), o7, o8] [lV (l90)] m Q := by
  refine X_lstore dX8_cleanDraws_13 (Nat.le_of_ble_eq_true rfl) ?_
  refine X_lload dX8_cleanDraws_15 rfl ?_
  refine X_lload dX8_cleanDraws_17 rfl ?_
  refine X_ldc2 dX8_cleanDraws_19 kc_8_373 (by unfold i64; omega) ?_
  refine X_aload_n dX8_cleanDraws_22 rfl rfl ?_
  refine X_getP dX8_cleanDraws_23 fl_8_251 rfl h1 ?_
  refine am_ptr h2 ?_
  refine X_aload_n dX8_cleanDraws_26 rfl rfl ?_
  refine X_getI dX8_cleanDraws_27 fl_8_158 (by decide) h1 ?_
  refine X_iald dX8_cleanDraws_30 h3 h4 h5 ?_
  refine X_i2l dX8_cleanDraws_31 ?_
  refine X_lmul dX8_cleanDraws_32  ?_
  refine X_aload_n dX8_cleanDraws_33 rfl rfl ?_
  refine X_getP dX8_cleanDraws_34 fl_8_30 rfl h6 ?_
  refine am_ptr h7 ?_
  exact X_callV (As := []) (rest := [lV (wrl (2 * (m.1 p1 (m.1 r1 7).toNat))), lV (l90), lV (l4)]) (a' := 0) (b' := 0) dX8_cleanDraws_37 t3_goal ml_8_218 h8 rfl rfl (Nat.le_of_ble_eq_true rfl) rfl hdp (Nat.zero_le _) (Nat.zero_le _) (k1 _ (fun z m' h => h))

theorem s8_cleanDraws_40 {G : am_G} {dp a b : Nat} {m : am_M} {Q : am_Q} {i2 i3 i6 l4 l7 l90 l91 l92 l93 : Int} {r0 r1 : Nat} (hdp : 1 ≤ dp)  (k1 : ∀ Q' : am_Q, (∀ (z : Int) (m' : am_M), X G dp a b M8_cleanDraws 45 [some (rV (some r0)), some (rV (some r1)), some (iV (i2)), some (iV (i3)), some (lV (l4)), none, some (iV (i6)), some (lV (l7)), none] [iV (z)] m' Q → Q' (.inl (some (iV (z)))) m') → T G (dp - 1) 0 0 M8_drawsDown [lV (l93), lV (l92), lV (l91), lV (l90), iV (i6)] m Q')  : X G dp a b M8_cleanDraws 40 [some (rV (some r0)), some (rV (some r1)), some (iV (i2)), some (iV (i3)), some (lV (l4)), none, some (iV (i6)), some (lV (l7)), none] [lV (l90), lV (l91), lV (l92), lV (l93)] m Q := by
  refine X_iload dX8_cleanDraws_40 rfl ?_
  exact X_callS (As := [lV (l93), lV (l92), lV (l91), lV (l90), iV (i6)]) (rest := []) (a' := 0) (b' := 0) dX8_cleanDraws_42 t8_drawsDown ml_8_387 rfl rfl (Nat.le_of_ble_eq_true rfl) rfl hdp (Nat.zero_le _) (Nat.zero_le _) (k1 _ (fun z m' h => h))

theorem s8_cleanDraws_45 {G : am_G} {dp a b : Nat} {m : am_M} {Q : am_Q} {i2 i3 i6 i90 l4 l7 : Int} {r0 r1 : Nat}  (k1 : Q (.inl (some (iV (i90)))) m)  : X G dp a b M8_cleanDraws 45 [some (rV (some r0)), some (rV (some r1)), some (iV (i2)), some (iV (i3)), some (lV (l4)), none, some (iV (i6)), some (lV (l7)), none] [iV (i90)] m Q := by
  exact X_iret dX8_cleanDraws_45 rfl k1

theorem s8_cleanDraws_58 {G : am_G} {dp a b : Nat} {m : am_M} {Q : am_Q} {i2 i3 i6 l4 l90 : Int} {r0 r1 p1 : Nat} {o7 o8 : Option am_V} (hdp : 1 ≤ dp) (h1 : am_ob m r0 7) (h2 : m.2.1 r0 4 = some p1) (h3 : am_ob m p1 3) (k1 : ∀ Q' : am_Q, (∀ (z : Int) (m' : am_M), X G dp a b M8_cleanDraws 76 [some (rV (some r0)), some (rV (some r1)), some (iV (i2)), some (iV (i3)), some (lV (l4)), none, some (iV (i6)), some (lV (l90)), none] [lV (z), lV (l90), lV (l4)] m' Q → Q' (.inl (some (lV (z)))) m') → T G (dp - 1) 0 0 M2_comparedBy [iV (m.1 p1 3), iV (i3), iV (0)] m Q')  : X G dp a b M8_cleanDraws 58 [some (rV (some r0)), some (rV (some r1)), some (iV (i2)), some (iV (i3)), some (lV (l4)), none, some (iV (i6)), o7, o8] [lV (l90)] m Q := by
  refine X_lstore dX8_cleanDraws_58 (Nat.le_of_ble_eq_true rfl) ?_
  refine X_lload dX8_cleanDraws_60 rfl ?_
  refine X_lload dX8_cleanDraws_62 rfl ?_
  refine X_aload_n dX8_cleanDraws_64 rfl rfl ?_
  refine X_getP dX8_cleanDraws_65 fl_8_30 rfl h1 ?_
  refine am_ptr h2 ?_
  refine X_getI dX8_cleanDraws_68 fl_8_107 (by decide) h3 ?_
  refine X_iload_n dX8_cleanDraws_71 rfl rfl ?_
  refine Y_iconst dX8_cleanDraws_72 (by unfold i32; omega) ?_
  exact X_callS (As := [iV (m.1 p1 3), iV (i3), iV (0)]) (rest := [lV (l90), lV (l4)]) (a' := 0) (b' := 0) dX8_cleanDraws_73 t2_comparedBy ml_8_383 rfl rfl (Nat.le_of_ble_eq_true rfl) rfl hdp (Nat.zero_le _) (Nat.zero_le _) (k1 _ (fun z m' h => h))

theorem s8_cleanDraws_76 {G : am_G} {dp a b : Nat} {m : am_M} {Q : am_Q} {i2 i3 i6 l4 l7 l90 l91 l92 : Int} {r0 r1 p1 : Nat} (hdp : 1 ≤ dp) (h1 : am_ob m r0 7) (h2 : m.2.1 r0 4 = some p1) (h3 : am_ob m p1 3) (k1 : ∀ Q' : am_Q, (∀ (z : Int) (m' : am_M), X G dp a b M8_cleanDraws 83 [some (rV (some r0)), some (rV (some r1)), some (iV (i2)), some (iV (i3)), some (lV (l4)), none, some (iV (i6)), some (lV (l7)), none] [lV (z), lV (l90), lV (l91), lV (l92)] m' Q → Q' (.inl (some (lV (z)))) m') → T G (dp - 1) 0 0 M3_goal [rV (some p1)] m Q')  : X G dp a b M8_cleanDraws 76 [some (rV (some r0)), some (rV (some r1)), some (iV (i2)), some (iV (i3)), some (lV (l4)), none, some (iV (i6)), some (lV (l7)), none] [lV (l90), lV (l91), lV (l92)] m Q := by
  refine X_aload_n dX8_cleanDraws_76 rfl rfl ?_
  refine X_getP dX8_cleanDraws_77 fl_8_30 rfl h1 ?_
  refine am_ptr h2 ?_
  exact X_callV (As := []) (rest := [lV (l90), lV (l91), lV (l92)]) (a' := 0) (b' := 0) dX8_cleanDraws_80 t3_goal ml_8_218 h3 rfl rfl (Nat.le_of_ble_eq_true rfl) rfl hdp (Nat.zero_le _) (Nat.zero_le _) (k1 _ (fun z m' h => h))

theorem s8_cleanDraws_83 {G : am_G} {dp a b : Nat} {m : am_M} {Q : am_Q} {i2 i3 i6 l4 l7 l90 l91 l92 l93 : Int} {r0 r1 : Nat} (hdp : 1 ≤ dp)  (k1 : ∀ Q' : am_Q, (∀ (z : Int) (m' : am_M), X G dp a b M8_cleanDraws 88 [some (rV (some r0)), some (rV (some r1)), some (iV (i2)), some (iV (i3)), some (lV (l4)), none, some (iV (i6)), some (lV (l7)), none] [iV (z)] m' Q → Q' (.inl (some (iV (z)))) m') → T G (dp - 1) 0 0 M8_drawsDown [lV (l93), lV (l92), lV (l91), lV (l90), iV (i6)] m Q')  : X G dp a b M8_cleanDraws 83 [some (rV (some r0)), some (rV (some r1)), some (iV (i2)), some (iV (i3)), some (lV (l4)), none, some (iV (i6)), some (lV (l7)), none] [lV (l90), lV (l91), lV (l92), lV (l93)] m Q := by
  refine X_iload dX8_cleanDraws_83 rfl ?_
  exact X_callS (As := [lV (l93), lV (l92), lV (l91), lV (l90), iV (i6)]) (rest := []) (a' := 0) (b' := 0) dX8_cleanDraws_85 t8_drawsDown ml_8_387 rfl rfl (Nat.le_of_ble_eq_true rfl) rfl hdp (Nat.zero_le _) (Nat.zero_le _) (k1 _ (fun z m' h => h))

theorem s8_cleanDraws_88 {G : am_G} {dp a b : Nat} {m : am_M} {Q : am_Q} {i2 i3 i6 i90 l4 l7 : Int} {r0 r1 : Nat}  (k1 : Q (.inl (some (iV (i90)))) m)  : X G dp a b M8_cleanDraws 88 [some (rV (some r0)), some (rV (some r1)), some (iV (i2)), some (iV (i3)), some (lV (l4)), none, some (iV (i6)), some (lV (l7)), none] [iV (i90)] m Q := by
  exact X_iret dX8_cleanDraws_88 rfl k1

theorem s8_more_0 {G : am_G} {dp a b : Nat} {m : am_M} {Q : am_Q} {i1 : Int} {r0 : Nat} {o2 o3 o4 o5 o6 : Option am_V} (hdp : 1 ≤ dp) (ha : 1 ≤ a) (hb : 6 ≤ b) (h1 : am_ob m r0 7) (k1 : ∀ Q' : am_Q, (∀ (z : Nat) (m' : am_M), X G dp (a - 1) (b - 6) M8_more 5 [some (rV (some r0)), some (iV (i1)), o2, o3, o4, o5, o6] [rV (some z)] m' Q → Q' (.inl (some (rV (some z)))) m') → (∀ (k : Nat) (m' : am_M), Q (.inr k) m' → Q' (.inr k) m') → T G (dp - 1) 1 6 M8_contestOf [rV (some r0), iV (i1)] m Q')  : X G dp a b M8_more 0 [some (rV (some r0)), some (iV (i1)), o2, o3, o4, o5, o6] [] m Q := by
  refine X_aload_n dX8_more_0 rfl rfl ?_
  refine X_iload_n dX8_more_1 rfl rfl ?_
  exact X_callV (As := [iV (i1)]) (rest := []) (a' := 1) (b' := 6) dX8_more_2 t8_contestOf ml_8_146 h1 rfl rfl (Nat.le_of_ble_eq_true rfl) rfl hdp ha hb (k1 _ (fun z m' h => h) (fun _ _ h => h))

theorem s8_more_5 {G : am_G} {dp a b : Nat} {m : am_M} {Q : am_Q} {i1 : Int} {r0 r90 p1 : Nat} {o2 o3 o4 o5 o6 : Option am_V} (hdp : 1 ≤ dp) (h1 : am_ob m r0 7) (h2 : m.2.1 r0 6 = some p1) (h3 : am_ob m p1 1) (k1 : ∀ Q' : am_Q, (∀ (z : Int) (m' : am_M), X G dp a b M8_more 14 [some (rV (some r0)), some (iV (i1)), some (rV (some r90)), o3, o4, o5, o6] [iV (z)] m' Q → Q' (.inl (some (iV (z)))) m') → T G (dp - 1) 0 0 M1_isDone [rV (some p1), iV (i1)] m Q')  : X G dp a b M8_more 5 [some (rV (some r0)), some (iV (i1)), o2, o3, o4, o5, o6] [rV (some r90)] m Q := by
  refine X_astore_n dX8_more_5 rfl (Nat.le_of_ble_eq_true rfl) ?_
  refine X_aload_n dX8_more_6 rfl rfl ?_
  refine X_getP dX8_more_7 fl_8_40 rfl h1 ?_
  refine am_ptr h2 ?_
  refine X_iload_n dX8_more_10 rfl rfl ?_
  exact X_callV (As := [iV (i1)]) (rest := []) (a' := 0) (b' := 0) dX8_more_11 t1_isDone ml_8_167 h3 rfl rfl (Nat.le_of_ble_eq_true rfl) rfl hdp (Nat.zero_le _) (Nat.zero_le _) (k1 _ (fun z m' h => h))

theorem s8_more_14 {G : am_G} {dp a b : Nat} {m : am_M} {Q : am_Q} {i1 i90 : Int} {r0 r2 p1 p2 p3 : Nat} {o3 o4 o5 o6 : Option am_V} {n_p2 : Nat} (hdp : 1 ≤ dp) (h1 : am_ob m r0 7) (h2 : m.2.1 r0 4 = some p1) (h3 : am_ob m p1 3) (h4 : m.2.1 p1 1 = some p2) (h5 : am_ar m p2 100 n_p2) (h7 : am_ob m r2 2) (h8 : m.2.1 r0 6 = some p3) (h9 : am_ob m p3 1) (k1 : (i90 = 0) → ¬ ((m.1 r2 6) = 0) → X G dp a b M8_more 61 [some (rV (some r0)), some (iV (i1)), some (rV (some r2)), some (iV (m.1 p2 ((1 : Int)).toNat)), some (iV (0)), some (iV (0)), o6] [] m Q) (k2 : (i90 = 0) → ((m.1 r2 6) = 0) → ∀ Q' : am_Q, (∀ (z : Int) (m' : am_M), X G dp a b M8_more 48 [some (rV (some r0)), some (iV (i1)), some (rV (some r2)), some (iV (m.1 p2 ((1 : Int)).toNat)), o4, o5, o6] [lV (z), iV (m.1 p2 ((1 : Int)).toNat), iV (0), rV (some r2), rV (some r0)] m' Q → Q' (.inl (some (lV (z)))) m') → T G (dp - 1) 0 0 M1_latestRisk [rV (some p3), iV (i1)] m Q') (k3 : ¬ (i90 = 0) → Q (.inl (some (iV (0)))) m) (h6 : i90 = 0 → 1 < (n_p2 : Int) := by intros; first | omega | (dsimp only at *; omega)) : X G dp a b M8_more 14 [some (rV (some r0)), some (iV (i1)), some (rV (some r2)), o3, o4, o5, o6] [iV (i90)] m Q := by
  refine X_if_eq (tgt := 19) dX8_more_14 (by decide) (fun c1 => ?_) (fun c1 => ?_)
  · refine X_aload_n dX8_more_19 rfl rfl ?_
    refine X_getP dX8_more_20 fl_8_30 rfl h1 ?_
    refine am_ptr h2 ?_
    refine X_getP dX8_more_23 fl_8_117 rfl h3 ?_
    refine am_ptr h4 ?_
    refine Y_iconst dX8_more_26 (by unfold i32; omega) ?_
    refine X_iald dX8_more_27 h5 (by decide) (h6 c1) ?_
    refine X_istore_n dX8_more_28 rfl (Nat.le_of_ble_eq_true rfl) ?_
    refine X_aload_n dX8_more_29 rfl rfl ?_
    refine X_getI dX8_more_30 fl_8_155 (by decide) h7 ?_
    refine X_if_ne (tgt := 55) dX8_more_33 (by decide) (fun c2 => ?_) (fun c2 => ?_)
    · refine Y_iconst dX8_more_55 (by unfold i32; omega) ?_
      refine X_istore dX8_more_56 (Nat.le_of_ble_eq_true rfl) ?_
      refine Y_iconst dX8_more_58 (by unfold i32; omega) ?_
      refine X_istore dX8_more_59 (Nat.le_of_ble_eq_true rfl) ?_
      exact (k1 c1 c2)
    · refine X_aload_n dX8_more_36 rfl rfl ?_
      refine X_aload_n dX8_more_37 rfl rfl ?_
      refine Y_iconst dX8_more_38 (by unfold i32; omega) ?_
      refine X_iload_n dX8_more_39 rfl rfl ?_
      refine X_aload_n dX8_more_40 rfl rfl ?_
      refine X_getP dX8_more_41 fl_8_40 rfl h1 ?_
      refine am_ptr h8 ?_
      refine X_iload_n dX8_more_44 rfl rfl ?_
      exact X_callV (As := [iV (i1)]) (rest := [iV (m.1 p2 ((1 : Int)).toNat), iV (0), rV (some r2), rV (some r0)]) (a' := 0) (b' := 0) dX8_more_45 t1_latestRisk ml_8_190 h9 rfl rfl (Nat.le_of_ble_eq_true rfl) rfl hdp (Nat.zero_le _) (Nat.zero_le _) ((k2 c1 c2) _ (fun z m' h => h))
  · refine Y_iconst dX8_more_17 (by unfold i32; omega) ?_
    exact X_iret dX8_more_18 rfl (k3 c1)

theorem s8_more_48 {G : am_G} {dp a b : Nat} {m : am_M} {Q : am_Q} {i1 i3 i91 i92 l90 : Int} {r0 r2 r93 r94 : Nat} {o4 o5 o6 : Option am_V} (hdp : 1 ≤ dp) (h1 : am_ob m r94 7) (k1 : ∀ Q' : am_Q, (∀ (z : Int) (m' : am_M), X G dp a b M8_more 54 [some (rV (some r0)), some (iV (i1)), some (rV (some r2)), some (iV (i3)), o4, o5, o6] [iV (z)] m' Q → Q' (.inl (some (iV (z)))) m') → T G (dp - 1) 0 0 M8_cleanDraws [rV (some r94), rV (some r93), iV (i92), iV (i91), lV (l90), iV (5000)] m Q')  : X G dp a b M8_more 48 [some (rV (some r0)), some (iV (i1)), some (rV (some r2)), some (iV (i3)), o4, o5, o6] [lV (l90), iV (i91), iV (i92), rV (some r93), rV (some r94)] m Q := by
  refine Y_sipush dX8_more_48 (by omega) ?_
  exact X_callV (As := [rV (some r93), iV (i92), iV (i91), lV (l90), iV (5000)]) (rest := []) (a' := 0) (b' := 0) dX8_more_51 t8_cleanDraws ml_8_363 h1 rfl rfl (Nat.le_of_ble_eq_true rfl) rfl hdp (Nat.zero_le _) (Nat.zero_le _) (k1 _ (fun z m' h => h))

theorem s8_more_54 {G : am_G} {dp a b : Nat} {m : am_M} {Q : am_Q} {i1 i3 i90 : Int} {r0 r2 : Nat} {o4 o5 o6 : Option am_V}  (k1 : Q (.inl (some (iV (i90)))) m)  : X G dp a b M8_more 54 [some (rV (some r0)), some (iV (i1)), some (rV (some r2)), some (iV (i3)), o4, o5, o6] [iV (i90)] m Q := by
  exact X_iret dX8_more_54 rfl k1

theorem s8_more_61 {G : am_G} {dp a b : Nat} {m : am_M} {Q : am_Q} {i1 i3 i4 i5 : Int} {r0 r2 p1 p2 p3 : Nat} {o6 : Option am_V} {t_p2 n_p2 n_p3 : Nat} (hdp : 1 ≤ dp) (h1 : am_ob m r2 2) (h2 : am_ob m r0 7) (h3 : m.2.1 r0 6 = some p1) (h4 : am_ob m p1 1) (h5 : m.2.1 p1 0 = some p2) (h6 : t_p2 = 103 ∨ t_p2 = 104) (h7 : am_ar m p2 t_p2 n_p2) (h10 : ¬ ((m.1 r2 5) ≤ i5) → ¬ (4 ≤ i5) → ¬ (i4 = (-1)) → ¬ (i5 = (m.1 r2 7)) → m.2.1 p2 (i1).toNat = some p3) (h11 : ¬ ((m.1 r2 5) ≤ i5) → ¬ (4 ≤ i5) → ¬ (i4 = (-1)) → ¬ (i5 = (m.1 r2 7)) → am_ar m p3 101 n_p3) (k1 : ((m.1 r2 5) ≤ i5) → Q (.inl (some (iV (i4)))) m) (k2 : ¬ ((m.1 r2 5) ≤ i5) → (4 ≤ i5) → Q (.inl (some (iV (i4)))) m) (k3 : ¬ ((m.1 r2 5) ≤ i5) → ¬ (4 ≤ i5) → (i4 = (-1)) → Q (.inl (some (iV (i4)))) m) (k4 : ¬ ((m.1 r2 5) ≤ i5) → ¬ (4 ≤ i5) → ¬ (i4 = (-1)) → (i5 = (m.1 r2 7)) → X G dp a b M8_more 61 [some (rV (some r0)), some (iV (i1)), some (rV (some r2)), some (iV (i3)), some (iV (i4)), some (iV (wr (i5 + 1))), o6] [] m Q) (k5 : ¬ ((m.1 r2 5) ≤ i5) → ¬ (4 ≤ i5) → ¬ (i4 = (-1)) → ¬ (i5 = (m.1 r2 7)) → ∀ Q' : am_Q, (∀ (z : Int) (m' : am_M), X G dp a b M8_more 114 [some (rV (some r0)), some (iV (i1)), some (rV (some r2)), some (iV (i3)), some (iV (i4)), some (iV (i5)), o6] [iV (z)] m' Q → Q' (.inl (some (iV (z)))) m') → T G (dp - 1) 0 0 M8_cleanDraws [rV (some r0), rV (some r2), iV (i5), iV (i3), lV (m.1 p3 (i5).toNat), iV (5000)] m Q') (h8 : ¬ ((m.1 r2 5) ≤ i5) → ¬ (4 ≤ i5) → ¬ (i4 = (-1)) → ¬ (i5 = (m.1 r2 7)) → 0 ≤ i1 := by intros; first | omega | (dsimp only at *; omega)) (h9 : ¬ ((m.1 r2 5) ≤ i5) → ¬ (4 ≤ i5) → ¬ (i4 = (-1)) → ¬ (i5 = (m.1 r2 7)) → i1 < (n_p2 : Int) := by intros; first | omega | (dsimp only at *; omega)) (h12 : ¬ ((m.1 r2 5) ≤ i5) → ¬ (4 ≤ i5) → ¬ (i4 = (-1)) → ¬ (i5 = (m.1 r2 7)) → 0 ≤ i5 := by intros; first | omega | (dsimp only at *; omega)) (h13 : ¬ ((m.1 r2 5) ≤ i5) → ¬ (4 ≤ i5) → ¬ (i4 = (-1)) → ¬ (i5 = (m.1 r2 7)) → i5 < (n_p3 : Int) := by intros; first | omega | (dsimp only at *; omega)) : X G dp a b M8_more 61 [some (rV (some r0)), some (iV (i1)), some (rV (some r2)), some (iV (i3)), some (iV (i4)), some (iV (i5)), o6] [] m Q := by
  refine X_iload dX8_more_61 rfl ?_
  refine X_aload_n dX8_more_63 rfl rfl ?_
  refine X_getI dX8_more_64 fl_8_150 (by decide) h1 ?_
  refine X_icmp_ge (tgt := 141) dX8_more_67 (by decide) (fun c1 => ?_) (fun c1 => ?_)
  · refine X_iload dX8_more_141 rfl ?_
    exact X_iret dX8_more_143 rfl (k1 c1)
  · refine X_iload dX8_more_70 rfl ?_
    refine Y_iconst dX8_more_72 (by unfold i32; omega) ?_
    refine X_icmp_ge (tgt := 141) dX8_more_73 (by decide) (fun c2 => ?_) (fun c2 => ?_)
    · refine X_iload dX8_more_141 rfl ?_
      exact X_iret dX8_more_143 rfl (k2 c1 c2)
    · refine X_iload dX8_more_76 rfl ?_
      refine Y_iconst dX8_more_78 (by unfold i32; omega) ?_
      refine X_icmp_eq (tgt := 141) dX8_more_79 (by decide) (fun c3 => ?_) (fun c3 => ?_)
      · refine X_iload dX8_more_141 rfl ?_
        exact X_iret dX8_more_143 rfl (k3 c1 c2 c3)
      · refine X_iload dX8_more_82 rfl ?_
        refine X_aload_n dX8_more_84 rfl rfl ?_
        refine X_getI dX8_more_85 fl_8_158 (by decide) h1 ?_
        refine X_icmp_eq (tgt := 135) dX8_more_88 (by decide) (fun c4 => ?_) (fun c4 => ?_)
        · refine X_iinc dX8_more_135 rfl ?_
          refine X_goto (tgt := 61) dX8_more_138 (by decide) ?_
          exact (k4 c1 c2 c3 c4)
        · refine X_aload_n dX8_more_91 rfl rfl ?_
          refine X_aload_n dX8_more_92 rfl rfl ?_
          refine X_iload dX8_more_93 rfl ?_
          refine X_iload_n dX8_more_95 rfl rfl ?_
          refine X_aload_n dX8_more_96 rfl rfl ?_
          refine X_getP dX8_more_97 fl_8_40 rfl h2 ?_
          refine am_ptr h3 ?_
          refine X_getP dX8_more_100 fl_8_198 rfl h4 ?_
          refine am_ptr h5 ?_
          refine X_iload_n dX8_more_103 rfl rfl ?_
          refine X_aald dX8_more_104 h6 h7 (h8 c1 c2 c3 c4) (h9 c1 c2 c3 c4) ?_
          refine am_ptr (h10 c1 c2 c3 c4) ?_
          refine X_iload dX8_more_105 rfl ?_
          refine X_lald dX8_more_107 (h11 c1 c2 c3 c4) (h12 c1 c2 c3 c4) (h13 c1 c2 c3 c4) ?_
          refine Y_sipush dX8_more_108 (by omega) ?_
          exact X_callV (As := [rV (some r2), iV (i5), iV (i3), lV (m.1 p3 (i5).toNat), iV (5000)]) (rest := []) (a' := 0) (b' := 0) dX8_more_111 t8_cleanDraws ml_8_363 h2 rfl rfl (Nat.le_of_ble_eq_true rfl) rfl hdp (Nat.zero_le _) (Nat.zero_le _) ((k5 c1 c2 c3 c4) _ (fun z m' h => h))

theorem s8_more_114 {G : am_G} {dp a b : Nat} {m : am_M} {Q : am_Q} {i1 i3 i4 i5 i90 : Int} {r0 r2 : Nat} {o6 : Option am_V}  (k1 : ¬ (i90 = (-1)) → X G dp a b M8_more 61 [some (rV (some r0)), some (iV (i1)), some (rV (some r2)), some (iV (i3)), some (iV (max i4 i90)), some (iV (wr (i5 + 1))), some (iV (i90))] [] m Q) (k2 : (i90 = (-1)) → X G dp a b M8_more 61 [some (rV (some r0)), some (iV (i1)), some (rV (some r2)), some (iV (i3)), some (iV ((-1))), some (iV (wr (i5 + 1))), some (iV (i90))] [] m Q)  : X G dp a b M8_more 114 [some (rV (some r0)), some (iV (i1)), some (rV (some r2)), some (iV (i3)), some (iV (i4)), some (iV (i5)), o6] [iV (i90)] m Q := by
  refine X_istore dX8_more_114 (Nat.le_of_ble_eq_true rfl) ?_
  refine X_iload dX8_more_116 rfl ?_
  refine Y_iconst dX8_more_118 (by unfold i32; omega) ?_
  refine X_icmp_ne (tgt := 126) dX8_more_119 (by decide) (fun c1 => ?_) (fun c1 => ?_)
  · refine X_iload dX8_more_126 rfl ?_
    refine X_iload dX8_more_128 rfl ?_
    refine X_maxI dX8_more_130 ml_8_367 (Nat.le_of_ble_eq_true rfl) ?_
    refine X_istore dX8_more_133 (Nat.le_of_ble_eq_true rfl) ?_
    refine X_iinc dX8_more_135 rfl ?_
    refine X_goto (tgt := 61) dX8_more_138 (by decide) ?_
    exact (k1 c1)
  · refine Y_iconst dX8_more_122 (by unfold i32; omega) ?_
    refine X_goto (tgt := 133) dX8_more_123 (by decide) ?_
    refine X_istore dX8_more_133 (Nat.le_of_ble_eq_true rfl) ?_
    refine X_iinc dX8_more_135 rfl ?_
    refine X_goto (tgt := 61) dX8_more_138 (by decide) ?_
    exact (k2 c1)

theorem s8_tries_0 {G : am_G} {dp a b : Nat} {m : am_M} {Q : am_Q} {i1 i2 i3 i4 : Int} {r0 : Nat} {o5 o6 o7 : Option am_V} (hdp : 1 ≤ dp) (ha : 1 ≤ a) (hb : 6 ≤ b) (h1 : am_ob m r0 7) (k1 : ∀ Q' : am_Q, (∀ (z : Nat) (m' : am_M), X G dp (a - 1) (b - 6) M8_tries 5 [some (rV (some r0)), some (iV (i1)), some (iV (i2)), some (iV (i3)), some (iV (i4)), o5, o6, o7] [rV (some z)] m' Q → Q' (.inl (some (rV (some z)))) m') → (∀ (k : Nat) (m' : am_M), Q (.inr k) m' → Q' (.inr k) m') → T G (dp - 1) 1 6 M8_contestOf [rV (some r0), iV (i1)] m Q')  : X G dp a b M8_tries 0 [some (rV (some r0)), some (iV (i1)), some (iV (i2)), some (iV (i3)), some (iV (i4)), o5, o6, o7] [] m Q := by
  refine X_aload_n dX8_tries_0 rfl rfl ?_
  refine X_iload_n dX8_tries_1 rfl rfl ?_
  exact X_callV (As := [iV (i1)]) (rest := []) (a' := 1) (b' := 6) dX8_tries_2 t8_contestOf ml_8_146 h1 rfl rfl (Nat.le_of_ble_eq_true rfl) rfl hdp ha hb (k1 _ (fun z m' h => h) (fun _ _ h => h))

theorem s8_tries_5 {G : am_G} {dp a b : Nat} {m : am_M} {Q : am_Q} {i1 i2 i3 i4 : Int} {r0 r90 : Nat} {o5 o6 o7 : Option am_V} (hdp : 1 ≤ dp) (ha : 1 ≤ a) (hb : 6 ≤ b)  (k1 : (i4 < 0) → Q (.inr 1) (am_nx m)) (k2 : ¬ (i4 < 0) → (i4 ≤ 2) → ∀ Q' : am_Q, (∀ (m' : am_M), X G dp (a - 1) (b - 6) M8_tries 33 [some (rV (some r0)), some (iV (i1)), some (iV (i2)), some (iV (i3)), some (iV (i4)), some (rV (some r90)), o6, o7] [] m' Q → Q' (.inl none) m') → (∀ (k : Nat) (m' : am_M), Q (.inr k) m' → Q' (.inr k) m') → T G (dp - 1) 1 6 M8_seekTries [iV (i3)] m Q') (k3 : ¬ (i4 < 0) → ¬ (i4 ≤ 2) → Q (.inr 1) (am_nx m))  : X G dp a b M8_tries 5 [some (rV (some r0)), some (iV (i1)), some (iV (i2)), some (iV (i3)), some (iV (i4)), o5, o6, o7] [rV (some r90)] m Q := by
  refine X_astore dX8_tries_5 (Nat.le_of_ble_eq_true rfl) ?_
  refine X_iload dX8_tries_7 rfl ?_
  refine X_if_lt (tgt := 18) dX8_tries_9 (by decide) (fun c1 => ?_) (fun c1 => ?_)
  · exact X_throwW (k := 1) (j := 28) (tx := "nothing such of tries") (by decide) rfl rfl dX8_tries_18 dX8_tries_21 dX8_tries_22 dX8_tries_25 dX8_tries_28 rfl (Nat.le_of_ble_eq_true rfl) ha hb (k1 c1)
  · refine X_iload dX8_tries_12 rfl ?_
    refine Y_iconst dX8_tries_14 (by unfold i32; omega) ?_
    refine X_icmp_le (tgt := 29) dX8_tries_15 (by decide) (fun c2 => ?_) (fun c2 => ?_)
    · refine X_iload_n dX8_tries_29 rfl rfl ?_
      exact X_callS (As := [iV (i3)]) (rest := []) (a' := 1) (b' := 6) dX8_tries_30 t8_seekTries ml_8_393 rfl rfl (Nat.le_of_ble_eq_true rfl) rfl hdp ha hb ((k2 c1 c2) _ (fun m' h => h) (fun _ _ h => h))
    · exact X_throwW (k := 1) (j := 28) (tx := "nothing such of tries") (by decide) rfl rfl dX8_tries_18 dX8_tries_21 dX8_tries_22 dX8_tries_25 dX8_tries_28 rfl (Nat.le_of_ble_eq_true rfl) ha hb (k3 c1 c2)

theorem s8_tries_33 {G : am_G} {dp a b : Nat} {m : am_M} {Q : am_Q} {i1 i2 i3 i4 : Int} {r0 r5 : Nat} {o6 o7 : Option am_V}  (k1 : X G dp a b M8_tries 39 [some (rV (some r0)), some (iV (i1)), some (iV (i2)), some (iV (i3)), some (iV (i4)), some (rV (some r5)), some (iV (0)), some (iV (0))] [] m Q)  : X G dp a b M8_tries 33 [some (rV (some r0)), some (iV (i1)), some (iV (i2)), some (iV (i3)), some (iV (i4)), some (rV (some r5)), o6, o7] [] m Q := by
  refine Y_iconst dX8_tries_33 (by unfold i32; omega) ?_
  refine X_istore dX8_tries_34 (Nat.le_of_ble_eq_true rfl) ?_
  refine Y_iconst dX8_tries_36 (by unfold i32; omega) ?_
  refine X_istore dX8_tries_37 (Nat.le_of_ble_eq_true rfl) ?_
  exact k1

theorem s8_tries_39 {G : am_G} {dp a b : Nat} {m : am_M} {Q : am_Q} {i1 i2 i3 i4 i6 i7 : Int} {r0 r5 p1 p2 : Nat} (hdp : 1 ≤ dp) (h1 : am_ob m r0 7) (h2 : m.2.1 r0 7 = some p1) (h3 : m.2.1 r0 4 = some p2) (h4 : am_ob m p1 1) (k1 : (i3 ≤ i7) → Q (.inl (some (iV (i6)))) m) (k2 : ¬ (i3 ≤ i7) → ∀ Q' : am_Q, (∀ (m' : am_M), X G dp a b M8_tries 60 [some (rV (some r0)), some (iV (i1)), some (iV (i2)), some (iV (i3)), some (iV (i4)), some (rV (some r5)), some (iV (i6)), some (iV (i7))] [] m' Q → Q' (.inl none) m') → T G (dp - 1) 0 0 M1_begin [rV (some p1), rV (some p2), iV (wr (i2 + i7))] m Q')  : X G dp a b M8_tries 39 [some (rV (some r0)), some (iV (i1)), some (iV (i2)), some (iV (i3)), some (iV (i4)), some (rV (some r5)), some (iV (i6)), some (iV (i7))] [] m Q := by
  refine X_iload dX8_tries_39 rfl ?_
  refine X_iload_n dX8_tries_41 rfl rfl ?_
  refine X_icmp_ge (tgt := 139) dX8_tries_42 (by decide) (fun c1 => ?_) (fun c1 => ?_)
  · refine X_iload dX8_tries_139 rfl ?_
    exact X_iret dX8_tries_141 rfl (k1 c1)
  · refine X_aload_n dX8_tries_45 rfl rfl ?_
    refine X_getP dX8_tries_46 fl_8_44 rfl h1 ?_
    refine am_ptr h2 ?_
    refine X_aload_n dX8_tries_49 rfl rfl ?_
    refine X_getP dX8_tries_50 fl_8_30 rfl h1 ?_
    refine am_ptr h3 ?_
    refine X_iload_n dX8_tries_53 rfl rfl ?_
    refine X_iload dX8_tries_54 rfl ?_
    refine X_iadd dX8_tries_56  ?_
    exact X_callV (As := [rV (some p2), iV (wr (i2 + i7))]) (rest := []) (a' := 0) (b' := 0) dX8_tries_57 t1_begin ml_8_321 h4 rfl rfl (Nat.le_of_ble_eq_true rfl) rfl hdp (Nat.zero_le _) (Nat.zero_le _) ((k2 c1) _ (fun m' h => h))

theorem s8_tries_60 {G : am_G} {dp a b : Nat} {m : am_M} {Q : am_Q} {i1 i2 i3 i4 i6 i7 : Int} {r0 r5 p1 p2 p3 : Nat} {n_p3 : Nat} (hdp : 1 ≤ dp) (h1 : am_ob m r0 7) (h2 : m.2.1 r0 7 = some p1) (h3 : m.2.1 r0 4 = some p2) (h4 : am_ob m p2 3) (h5 : m.2.1 p2 1 = some p3) (h6 : am_ar m p3 100 n_p3) (h8 : am_ob m p1 1) (k1 : ∀ Q' : am_Q, (∀ (m' : am_M), X G dp a b M8_tries 80 [some (rV (some r0)), some (iV (i1)), some (iV (i2)), some (iV (i3)), some (iV (i4)), some (rV (some r5)), some (iV (i6)), some (iV (i7))] [] m' Q → Q' (.inl none) m') → T G (dp - 1) 0 0 M1_goOn [rV (some p1), rV (some p2), iV (m.1 p3 ((2 : Int)).toNat)] m Q') (h7 : 2 < (n_p3 : Int) := by intros; first | omega | (dsimp only at *; omega)) : X G dp a b M8_tries 60 [some (rV (some r0)), some (iV (i1)), some (iV (i2)), some (iV (i3)), some (iV (i4)), some (rV (some r5)), some (iV (i6)), some (iV (i7))] [] m Q := by
  refine X_aload_n dX8_tries_60 rfl rfl ?_
  refine X_getP dX8_tries_61 fl_8_44 rfl h1 ?_
  refine am_ptr h2 ?_
  refine X_aload_n dX8_tries_64 rfl rfl ?_
  refine X_getP dX8_tries_65 fl_8_30 rfl h1 ?_
  refine am_ptr h3 ?_
  refine X_aload_n dX8_tries_68 rfl rfl ?_
  refine X_getP dX8_tries_69 fl_8_30 rfl h1 ?_
  refine am_ptr h3 ?_
  refine X_getP dX8_tries_72 fl_8_117 rfl h4 ?_
  refine am_ptr h5 ?_
  refine Y_iconst dX8_tries_75 (by unfold i32; omega) ?_
  refine X_iald dX8_tries_76 h6 (by decide) h7 ?_
  exact X_callV (As := [rV (some p2), iV (m.1 p3 ((2 : Int)).toNat)]) (rest := []) (a' := 0) (b' := 0) dX8_tries_77 t1_goOn ml_8_289 h8 rfl rfl (Nat.le_of_ble_eq_true rfl) rfl hdp (Nat.zero_le _) (Nat.zero_le _) (k1 _ (fun m' h => h))

theorem s8_tries_80 {G : am_G} {dp a b : Nat} {m : am_M} {Q : am_Q} {i1 i2 i3 i4 i6 i7 : Int} {r0 r5 p1 p2 : Nat} (hdp : 1 ≤ dp) (h1 : am_ob m r0 7) (h2 : m.2.1 r0 7 = some p1) (h3 : am_ob m p1 1) (h4 : m.2.1 r0 7 = some p2) (h5 : am_ob m p2 1) (k1 : ¬ (i4 = 1) → ∀ Q' : am_Q, (∀ (z : Int) (m' : am_M), X G dp a b M8_tries 109 [some (rV (some r0)), some (iV (i1)), some (iV (i2)), some (iV (i3)), some (iV (i4)), some (rV (some r5)), some (iV (i6)), some (iV (i7))] [iV (z)] m' Q → Q' (.inl (some (iV (z)))) m') → T G (dp - 1) 0 0 M1_isDone [rV (some p1), iV (i1)] m Q') (k2 : (i4 = 1) → X G dp a b M8_tries 39 [some (rV (some r0)), some (iV (i1)), some (iV (i2)), some (iV (i3)), some (iV (i4)), some (rV (some r5)), some (iV (wr (i6 + (m.1 p2 5)))), some (iV (wr (i7 + 1)))] [] m Q)  : X G dp a b M8_tries 80 [some (rV (some r0)), some (iV (i1)), some (iV (i2)), some (iV (i3)), some (iV (i4)), some (rV (some r5)), some (iV (i6)), some (iV (i7))] [] m Q := by
  refine X_iload dX8_tries_80 rfl ?_
  refine Y_iconst dX8_tries_82 (by unfold i32; omega) ?_
  refine X_icmp_ne (tgt := 101) dX8_tries_83 (by decide) (fun c1 => ?_) (fun c1 => ?_)
  · refine X_aload_n dX8_tries_101 rfl rfl ?_
    refine X_getP dX8_tries_102 fl_8_44 rfl h1 ?_
    refine am_ptr h2 ?_
    refine X_iload_n dX8_tries_105 rfl rfl ?_
    exact X_callV (As := [iV (i1)]) (rest := []) (a' := 0) (b' := 0) dX8_tries_106 t1_isDone ml_8_167 h3 rfl rfl (Nat.le_of_ble_eq_true rfl) rfl hdp (Nat.zero_le _) (Nat.zero_le _) ((k1 c1) _ (fun z m' h => h))
  · refine X_iload dX8_tries_86 rfl ?_
    refine X_aload_n dX8_tries_88 rfl rfl ?_
    refine X_getP dX8_tries_89 fl_8_44 rfl h1 ?_
    refine am_ptr h4 ?_
    refine X_getI dX8_tries_92 fl_8_121 (by decide) h5 ?_
    refine X_iadd dX8_tries_95  ?_
    refine X_istore dX8_tries_96 (Nat.le_of_ble_eq_true rfl) ?_
    refine X_goto (tgt := 133) dX8_tries_98 (by decide) ?_
    refine X_iinc dX8_tries_133 rfl ?_
    refine X_goto (tgt := 39) dX8_tries_136 (by decide) ?_
    exact (k2 c1)

theorem s8_tries_109 {G : am_G} {dp a b : Nat} {m : am_M} {Q : am_Q} {i1 i2 i3 i4 i6 i7 i90 : Int} {r0 r5 : Nat} (h1 : am_ob m r5 2) (k1 : (i90 = 0) → X G dp a b M8_tries 39 [some (rV (some r0)), some (iV (i1)), some (iV (i2)), some (iV (i3)), some (iV (i4)), some (rV (some r5)), some (iV (i6)), some (iV (wr (i7 + 1)))] [] m Q) (k2 : ¬ (i90 = 0) → (i4 = 0) → X G dp a b M8_tries 39 [some (rV (some r0)), some (iV (i1)), some (iV (i2)), some (iV (i3)), some (iV (i4)), some (rV (some r5)), some (iV (wr (i6 + 1))), some (iV (wr (i7 + 1)))] [] m Q) (k3 : ¬ (i90 = 0) → ¬ (i4 = 0) → ((m.1 r5 7) = (m.1 r5 8)) → X G dp a b M8_tries 39 [some (rV (some r0)), some (iV (i1)), some (iV (i2)), some (iV (i3)), some (iV (i4)), some (rV (some r5)), some (iV (i6)), some (iV (wr (i7 + 1)))] [] m Q) (k4 : ¬ (i90 = 0) → ¬ (i4 = 0) → ¬ ((m.1 r5 7) = (m.1 r5 8)) → X G dp a b M8_tries 39 [some (rV (some r0)), some (iV (i1)), some (iV (i2)), some (iV (i3)), some (iV (i4)), some (rV (some r5)), some (iV (wr (i6 + 1))), some (iV (wr (i7 + 1)))] [] m Q)  : X G dp a b M8_tries 109 [some (rV (some r0)), some (iV (i1)), some (iV (i2)), some (iV (i3)), some (iV (i4)), some (rV (some r5)), some (iV (i6)), some (iV (i7))] [iV (i90)] m Q := by
  refine X_if_eq (tgt := 133) dX8_tries_109 (by decide) (fun c1 => ?_) (fun c1 => ?_)
  · refine X_iinc dX8_tries_133 rfl ?_
    refine X_goto (tgt := 39) dX8_tries_136 (by decide) ?_
    exact (k1 c1)
  · refine X_iload dX8_tries_112 rfl ?_
    refine X_if_eq (tgt := 130) dX8_tries_114 (by decide) (fun c2 => ?_) (fun c2 => ?_)
    · refine X_iinc dX8_tries_130 rfl ?_
      refine X_iinc dX8_tries_133 rfl ?_
      refine X_goto (tgt := 39) dX8_tries_136 (by decide) ?_
      exact (k2 c1 c2)
    · refine X_aload dX8_tries_117 rfl ?_
      refine X_getI dX8_tries_119 fl_8_158 (by decide) h1 ?_
      refine X_aload dX8_tries_122 rfl ?_
      refine X_getI dX8_tries_124 fl_8_161 (by decide) h1 ?_
      refine X_icmp_eq (tgt := 133) dX8_tries_127 (by decide) (fun c3 => ?_) (fun c3 => ?_)
      · refine X_iinc dX8_tries_133 rfl ?_
        refine X_goto (tgt := 39) dX8_tries_136 (by decide) ?_
        exact (k3 c1 c2 c3)
      · refine X_iinc dX8_tries_130 rfl ?_
        refine X_iinc dX8_tries_133 rfl ?_
        refine X_goto (tgt := 39) dX8_tries_136 (by decide) ?_
        exact (k4 c1 c2 c3)

theorem s8_seekTries_0 {G : am_G} {dp a b : Nat} {m : am_M} {Q : am_Q} {i0 : Int} (ha : 1 ≤ a) (hb : 6 ≤ b)  (k1 : (i0 < 1) → Q (.inr 0) (am_nx m)) (k2 : ¬ (i0 < 1) → (i0 ≤ 30) → Q (.inl none) m) (k3 : ¬ (i0 < 1) → ¬ (i0 ≤ 30) → Q (.inr 0) (am_nx m))  : X G dp a b M8_seekTries 0 [some (iV (i0))] [] m Q := by
  refine X_iload_n dX8_seekTries_0 rfl rfl ?_
  refine Y_iconst dX8_seekTries_1 (by unfold i32; omega) ?_
  refine X_icmp_lt (tgt := 11) dX8_seekTries_2 (by decide) (fun c1 => ?_) (fun c1 => ?_)
  · exact X_throwW (k := 0) (j := 29) (tx := "no such number of audits") (by decide) rfl rfl dX8_seekTries_11 dX8_seekTries_14 dX8_seekTries_15 dX8_seekTries_18 dX8_seekTries_21 rfl (Nat.le_of_ble_eq_true rfl) ha hb (k1 c1)
  · refine X_iload_n dX8_seekTries_5 rfl rfl ?_
    refine Y_bipush dX8_seekTries_6 (by omega) ?_
    refine X_icmp_le (tgt := 22) dX8_seekTries_8 (by decide) (fun c2 => ?_) (fun c2 => ?_)
    · exact X_vret dX8_seekTries_22 rfl (k2 c1 c2)
    · exact X_throwW (k := 0) (j := 29) (tx := "no such number of audits") (by decide) rfl rfl dX8_seekTries_11 dX8_seekTries_14 dX8_seekTries_15 dX8_seekTries_18 dX8_seekTries_21 rfl (Nat.le_of_ble_eq_true rfl) ha hb (k3 c1 c2)

theorem s8_quickest_0 {G : am_G} {dp a b : Nat} {m : am_M} {Q : am_Q} {i1 i2 : Int} {r0 : Nat} {o3 o4 o5 : Option am_V} (hdp : 1 ≤ dp) (ha : 1 ≤ a) (hb : 6 ≤ b)  (k1 : ∀ Q' : am_Q, (∀ (m' : am_M), X G dp (a - 1) (b - 6) M8_quickest 4 [some (rV (some r0)), some (iV (i1)), some (iV (i2)), o3, o4, o5] [] m' Q → Q' (.inl none) m') → (∀ (k : Nat) (m' : am_M), Q (.inr k) m' → Q' (.inr k) m') → T G (dp - 1) 1 6 M8_seekTries [iV (i2)] m Q')  : X G dp a b M8_quickest 0 [some (rV (some r0)), some (iV (i1)), some (iV (i2)), o3, o4, o5] [] m Q := by
  refine X_iload_n dX8_quickest_0 rfl rfl ?_
  exact X_callS (As := [iV (i2)]) (rest := []) (a' := 1) (b' := 6) dX8_quickest_1 t8_seekTries ml_8_393 rfl rfl (Nat.le_of_ble_eq_true rfl) rfl hdp ha hb (k1 _ (fun m' h => h) (fun _ _ h => h))

theorem s8_quickest_4 {G : am_G} {dp a b : Nat} {m : am_M} {Q : am_Q} {i1 i2 : Int} {r0 : Nat} {o3 o4 o5 : Option am_V}  (k1 : X G dp a b M8_quickest 12 [some (rV (some r0)), some (iV (i1)), some (iV (i2)), some (iV ((-1))), some (iV (0)), some (iV (0))] [] m Q)  : X G dp a b M8_quickest 4 [some (rV (some r0)), some (iV (i1)), some (iV (i2)), o3, o4, o5] [] m Q := by
  refine Y_iconst dX8_quickest_4 (by unfold i32; omega) ?_
  refine X_istore_n dX8_quickest_5 rfl (Nat.le_of_ble_eq_true rfl) ?_
  refine Y_iconst dX8_quickest_6 (by unfold i32; omega) ?_
  refine X_istore dX8_quickest_7 (Nat.le_of_ble_eq_true rfl) ?_
  refine Y_iconst dX8_quickest_9 (by unfold i32; omega) ?_
  refine X_istore dX8_quickest_10 (Nat.le_of_ble_eq_true rfl) ?_
  exact k1

theorem s8_quickest_12 {G : am_G} {dp a b : Nat} {m : am_M} {Q : am_Q} {i1 i2 i3 i4 i5 : Int} {r0 p1 p2 : Nat} (hdp : 1 ≤ dp) (h1 : am_ob m r0 7) (h2 : m.2.1 r0 7 = some p1) (h3 : m.2.1 r0 4 = some p2) (h4 : am_ob m p1 1) (k1 : (i2 ≤ i5) → Q (.inl (some (iV (i3)))) m) (k2 : ¬ (i2 ≤ i5) → ∀ Q' : am_Q, (∀ (m' : am_M), X G dp a b M8_quickest 33 [some (rV (some r0)), some (iV (i1)), some (iV (i2)), some (iV (i3)), some (iV (i4)), some (iV (i5))] [] m' Q → Q' (.inl none) m') → T G (dp - 1) 0 0 M1_begin [rV (some p1), rV (some p2), iV (wr (i1 + i5))] m Q')  : X G dp a b M8_quickest 12 [some (rV (some r0)), some (iV (i1)), some (iV (i2)), some (iV (i3)), some (iV (i4)), some (iV (i5))] [] m Q := by
  refine X_iload dX8_quickest_12 rfl ?_
  refine X_iload_n dX8_quickest_14 rfl rfl ?_
  refine X_icmp_ge (tgt := 98) dX8_quickest_15 (by decide) (fun c1 => ?_) (fun c1 => ?_)
  · refine X_iload_n dX8_quickest_98 rfl rfl ?_
    exact X_iret dX8_quickest_99 rfl (k1 c1)
  · refine X_aload_n dX8_quickest_18 rfl rfl ?_
    refine X_getP dX8_quickest_19 fl_8_44 rfl h1 ?_
    refine am_ptr h2 ?_
    refine X_aload_n dX8_quickest_22 rfl rfl ?_
    refine X_getP dX8_quickest_23 fl_8_30 rfl h1 ?_
    refine am_ptr h3 ?_
    refine X_iload_n dX8_quickest_26 rfl rfl ?_
    refine X_iload dX8_quickest_27 rfl ?_
    refine X_iadd dX8_quickest_29  ?_
    exact X_callV (As := [rV (some p2), iV (wr (i1 + i5))]) (rest := []) (a' := 0) (b' := 0) dX8_quickest_30 t1_begin ml_8_321 h4 rfl rfl (Nat.le_of_ble_eq_true rfl) rfl hdp (Nat.zero_le _) (Nat.zero_le _) ((k2 c1) _ (fun m' h => h))

theorem s8_quickest_33 {G : am_G} {dp a b : Nat} {m : am_M} {Q : am_Q} {i1 i2 i3 i4 i5 : Int} {r0 p1 p2 p3 : Nat} {n_p3 : Nat} (hdp : 1 ≤ dp) (h1 : am_ob m r0 7) (h2 : m.2.1 r0 7 = some p1) (h3 : m.2.1 r0 4 = some p2) (h4 : am_ob m p2 3) (h5 : m.2.1 p2 1 = some p3) (h6 : am_ar m p3 100 n_p3) (h8 : am_ob m p1 1) (k1 : ∀ Q' : am_Q, (∀ (m' : am_M), X G dp a b M8_quickest 53 [some (rV (some r0)), some (iV (i1)), some (iV (i2)), some (iV (i3)), some (iV (i4)), some (iV (i5))] [] m' Q → Q' (.inl none) m') → T G (dp - 1) 0 0 M1_goOn [rV (some p1), rV (some p2), iV (m.1 p3 ((2 : Int)).toNat)] m Q') (h7 : 2 < (n_p3 : Int) := by intros; first | omega | (dsimp only at *; omega)) : X G dp a b M8_quickest 33 [some (rV (some r0)), some (iV (i1)), some (iV (i2)), some (iV (i3)), some (iV (i4)), some (iV (i5))] [] m Q := by
  refine X_aload_n dX8_quickest_33 rfl rfl ?_
  refine X_getP dX8_quickest_34 fl_8_44 rfl h1 ?_
  refine am_ptr h2 ?_
  refine X_aload_n dX8_quickest_37 rfl rfl ?_
  refine X_getP dX8_quickest_38 fl_8_30 rfl h1 ?_
  refine am_ptr h3 ?_
  refine X_aload_n dX8_quickest_41 rfl rfl ?_
  refine X_getP dX8_quickest_42 fl_8_30 rfl h1 ?_
  refine am_ptr h3 ?_
  refine X_getP dX8_quickest_45 fl_8_117 rfl h4 ?_
  refine am_ptr h5 ?_
  refine Y_iconst dX8_quickest_48 (by unfold i32; omega) ?_
  refine X_iald dX8_quickest_49 h6 (by decide) h7 ?_
  exact X_callV (As := [rV (some p2), iV (m.1 p3 ((2 : Int)).toNat)]) (rest := []) (a' := 0) (b' := 0) dX8_quickest_50 t1_goOn ml_8_289 h8 rfl rfl (Nat.le_of_ble_eq_true rfl) rfl hdp (Nat.zero_le _) (Nat.zero_le _) (k1 _ (fun m' h => h))

theorem s8_quickest_53 {G : am_G} {dp a b : Nat} {m : am_M} {Q : am_Q} {i1 i2 i3 i4 i5 : Int} {r0 p1 : Nat} (hdp : 1 ≤ dp) (h1 : am_ob m r0 7) (h2 : m.2.1 r0 7 = some p1) (h3 : am_ob m p1 1) (k1 : ∀ Q' : am_Q, (∀ (z : Int) (m' : am_M), X G dp a b M8_quickest 60 [some (rV (some r0)), some (iV (i1)), some (iV (i2)), some (iV (i3)), some (iV (i4)), some (iV (i5))] [iV (z)] m' Q → Q' (.inl (some (iV (z)))) m') → T G (dp - 1) 0 0 M1_isOver [rV (some p1)] m Q')  : X G dp a b M8_quickest 53 [some (rV (some r0)), some (iV (i1)), some (iV (i2)), some (iV (i3)), some (iV (i4)), some (iV (i5))] [] m Q := by
  refine X_aload_n dX8_quickest_53 rfl rfl ?_
  refine X_getP dX8_quickest_54 fl_8_44 rfl h1 ?_
  refine am_ptr h2 ?_
  exact X_callV (As := []) (rest := []) (a' := 0) (b' := 0) dX8_quickest_57 t1_isOver ml_8_130 h3 rfl rfl (Nat.le_of_ble_eq_true rfl) rfl hdp (Nat.zero_le _) (Nat.zero_le _) (k1 _ (fun z m' h => h))

theorem s8_quickest_60 {G : am_G} {dp a b : Nat} {m : am_M} {Q : am_Q} {i1 i2 i3 i4 i5 i90 : Int} {r0 p1 p2 : Nat} (h1 : am_ob m r0 7) (h2 : m.2.1 r0 7 = some p1) (h3 : am_ob m p1 1) (h4 : m.2.1 r0 7 = some p2) (h5 : am_ob m p2 1) (k1 : (i90 = 0) → X G dp a b M8_quickest 12 [some (rV (some r0)), some (iV (i1)), some (iV (i2)), some (iV (i3)), some (iV (i4)), some (iV (wr (i5 + 1)))] [] m Q) (k2 : ¬ (i90 = 0) → (i3 = (-1)) → X G dp a b M8_quickest 12 [some (rV (some r0)), some (iV (i1)), some (iV (i2)), some (iV (i5)), some (iV (m.1 p1 5)), some (iV (wr (i5 + 1)))] [] m Q) (k3 : ¬ (i90 = 0) → ¬ (i3 = (-1)) → (i4 ≤ (m.1 p2 5)) → X G dp a b M8_quickest 12 [some (rV (some r0)), some (iV (i1)), some (iV (i2)), some (iV (i3)), some (iV (i4)), some (iV (wr (i5 + 1)))] [] m Q) (k4 : ¬ (i90 = 0) → ¬ (i3 = (-1)) → ¬ (i4 ≤ (m.1 p2 5)) → X G dp a b M8_quickest 12 [some (rV (some r0)), some (iV (i1)), some (iV (i2)), some (iV (i5)), some (iV (m.1 p2 5)), some (iV (wr (i5 + 1)))] [] m Q)  : X G dp a b M8_quickest 60 [some (rV (some r0)), some (iV (i1)), some (iV (i2)), some (iV (i3)), some (iV (i4)), some (iV (i5))] [iV (i90)] m Q := by
  refine X_if_eq (tgt := 92) dX8_quickest_60 (by decide) (fun c1 => ?_) (fun c1 => ?_)
  · refine X_iinc dX8_quickest_92 rfl ?_
    refine X_goto (tgt := 12) dX8_quickest_95 (by decide) ?_
    exact (k1 c1)
  · refine X_iload_n dX8_quickest_63 rfl rfl ?_
    refine Y_iconst dX8_quickest_64 (by unfold i32; omega) ?_
    refine X_icmp_eq (tgt := 80) dX8_quickest_65 (by decide) (fun c2 => ?_) (fun c2 => ?_)
    · refine X_iload dX8_quickest_80 rfl ?_
      refine X_istore_n dX8_quickest_82 rfl (Nat.le_of_ble_eq_true rfl) ?_
      refine X_aload_n dX8_quickest_83 rfl rfl ?_
      refine X_getP dX8_quickest_84 fl_8_44 rfl h1 ?_
      refine am_ptr h2 ?_
      refine X_getI dX8_quickest_87 fl_8_121 (by decide) h3 ?_
      refine X_istore dX8_quickest_90 (Nat.le_of_ble_eq_true rfl) ?_
      refine X_iinc dX8_quickest_92 rfl ?_
      refine X_goto (tgt := 12) dX8_quickest_95 (by decide) ?_
      exact (k2 c1 c2)
    · refine X_aload_n dX8_quickest_68 rfl rfl ?_
      refine X_getP dX8_quickest_69 fl_8_44 rfl h1 ?_
      refine am_ptr h4 ?_
      refine X_getI dX8_quickest_72 fl_8_121 (by decide) h5 ?_
      refine X_iload dX8_quickest_75 rfl ?_
      refine X_icmp_ge (tgt := 92) dX8_quickest_77 (by decide) (fun c3 => ?_) (fun c3 => ?_)
      · refine X_iinc dX8_quickest_92 rfl ?_
        refine X_goto (tgt := 12) dX8_quickest_95 (by decide) ?_
        exact (k3 c1 c2 c3)
      · refine X_iload dX8_quickest_80 rfl ?_
        refine X_istore_n dX8_quickest_82 rfl (Nat.le_of_ble_eq_true rfl) ?_
        refine X_aload_n dX8_quickest_83 rfl rfl ?_
        refine X_getP dX8_quickest_84 fl_8_44 rfl h1 ?_
        refine am_ptr h4 ?_
        refine X_getI dX8_quickest_87 fl_8_121 (by decide) h5 ?_
        refine X_istore dX8_quickest_90 (Nat.le_of_ble_eq_true rfl) ?_
        refine X_iinc dX8_quickest_92 rfl ?_
        refine X_goto (tgt := 12) dX8_quickest_95 (by decide) ?_
        exact (k4 c1 c2 c3)

theorem s8_ask_0 {G : am_G} {dp a b : Nat} {m : am_M} {Q : am_Q} {i1 : Int} {r0 : Nat} (hdp : 1 ≤ dp) (ha : 1 ≤ a) (hb : 6 ≤ b) (h1 : am_ob m r0 7) (k1 : (i1 < 0) → Q (.inr 0) (am_nx m)) (k2 : ¬ (i1 < 0) → ((m.1 r0 1) < i1) → Q (.inr 0) (am_nx m)) (k3 : ¬ (i1 < 0) → ¬ ((m.1 r0 1) < i1) → (i1 ≤ 200) → ∀ Q' : am_Q, (∀ (m' : am_M), X G dp a b M8_ask 35 [some (rV (some r0)), some (iV (i1))] [] m' Q → Q' (.inl none) m') → T G (dp - 1) 0 0 M8_takeTape [rV (some r0), iV (i1)] m Q') (k4 : ¬ (i1 < 0) → ¬ ((m.1 r0 1) < i1) → ¬ (i1 ≤ 200) → Q (.inr 0) (am_nx m))  : X G dp a b M8_ask 0 [some (rV (some r0)), some (iV (i1))] [] m Q := by
  refine X_iload_n dX8_ask_0 rfl rfl ?_
  refine X_if_lt (tgt := 19) dX8_ask_1 (by decide) (fun c1 => ?_) (fun c1 => ?_)
  · exact X_throwW (k := 0) (j := 30) (tx := "no question has so many bytes, or the tape has not") (by decide) rfl rfl dX8_ask_19 dX8_ask_22 dX8_ask_23 dX8_ask_26 dX8_ask_29 rfl (Nat.le_of_ble_eq_true rfl) ha hb (k1 c1)
  · refine X_iload_n dX8_ask_4 rfl rfl ?_
    refine X_aload_n dX8_ask_5 rfl rfl ?_
    refine X_getI dX8_ask_6 fl_8_13 (by decide) h1 ?_
    refine X_icmp_gt (tgt := 19) dX8_ask_9 (by decide) (fun c2 => ?_) (fun c2 => ?_)
    · exact X_throwW (k := 0) (j := 30) (tx := "no question has so many bytes, or the tape has not") (by decide) rfl rfl dX8_ask_19 dX8_ask_22 dX8_ask_23 dX8_ask_26 dX8_ask_29 rfl (Nat.le_of_ble_eq_true rfl) ha hb (k2 c1 c2)
    · refine X_iload_n dX8_ask_12 rfl rfl ?_
      refine Y_sipush dX8_ask_13 (by omega) ?_
      refine X_icmp_le (tgt := 30) dX8_ask_16 (by decide) (fun c3 => ?_) (fun c3 => ?_)
      · refine X_aload_n dX8_ask_30 rfl rfl ?_
        refine X_iload_n dX8_ask_31 rfl rfl ?_
        exact X_callV (As := [iV (i1)]) (rest := []) (a' := 0) (b' := 0) dX8_ask_32 t8_takeTape ml_8_86 h1 rfl rfl (Nat.le_of_ble_eq_true rfl) rfl hdp (Nat.zero_le _) (Nat.zero_le _) ((k3 c1 c2 c3) _ (fun m' h => h))
      · exact X_throwW (k := 0) (j := 30) (tx := "no question has so many bytes, or the tape has not") (by decide) rfl rfl dX8_ask_19 dX8_ask_22 dX8_ask_23 dX8_ask_26 dX8_ask_29 rfl (Nat.le_of_ble_eq_true rfl) ha hb (k4 c1 c2 c3)

theorem s8_ask_35 {G : am_G} {dp a b : Nat} {m : am_M} {Q : am_Q} {i1 : Int} {r0 p1 p2 p3 : Nat} (hdp : 1 ≤ dp) (h1 : am_ob m r0 7) (h2 : m.2.1 r0 10 = some p1) (h3 : m.2.1 r0 9 = some p2) (h4 : m.2.1 r0 4 = some p3) (h5 : am_ob m p3 3) (h6 : am_ob m p1 4) (k1 : ∀ Q' : am_Q, (∀ (m' : am_M), X G dp a b M8_ask 53 [some (rV (some r0)), some (iV (i1))] [] m' Q → Q' (.inl none) m') → T G (dp - 1) 0 0 M5_hear [rV (some p1), rV (some p2), iV (m.1 p3 2)] m Q')  : X G dp a b M8_ask 35 [some (rV (some r0)), some (iV (i1))] [] m Q := by
  refine X_aload_n dX8_ask_35 rfl rfl ?_
  refine X_getP dX8_ask_36 fl_8_64 rfl h1 ?_
  refine am_ptr h2 ?_
  refine X_aload_n dX8_ask_39 rfl rfl ?_
  refine X_getP dX8_ask_40 fl_8_57 rfl h1 ?_
  refine am_ptr h3 ?_
  refine X_aload_n dX8_ask_43 rfl rfl ?_
  refine X_getP dX8_ask_44 fl_8_30 rfl h1 ?_
  refine am_ptr h4 ?_
  refine X_getI dX8_ask_47 fl_8_114 (by decide) h5 ?_
  exact X_callV (As := [rV (some p2), iV (m.1 p3 2)]) (rest := []) (a' := 0) (b' := 0) dX8_ask_50 t5_hear ml_8_400 h6 rfl rfl (Nat.le_of_ble_eq_true rfl) rfl hdp (Nat.zero_le _) (Nat.zero_le _) (k1 _ (fun m' h => h))

theorem s8_ask_53 {G : am_G} {dp a b : Nat} {m : am_M} {Q : am_Q} {i1 : Int} {r0 p1 p2 p3 p4 : Nat} (hdp : 1 ≤ dp) (h2 : m.2.1 r0 9 = some p1) (h3 : am_ob m p1 5) (h4 : am_obw m r0 7) (h5 : m.2.1 r0 10 = some p2) (h6 : m.2.1 r0 4 = some p3) (h7 : m.2.1 r0 6 = some p4) (h8 : am_ob m p2 4) (k1 : (((u2 m.1 r0 2 (m.1 p1 7)) p1 6) = 0) → ∀ Q' : am_Q, (∀ (z : Int) (m' : am_M), X G dp a b M8_ask 101 [some (rV (some r0)), some (iV (i1))] [iV (z)] m' Q → Q' (.inl (some (iV (z)))) m') → T G (dp - 1) 0 0 M5_answer [rV (some p2), rV (some p3), rV (some p4)] ((u2 m.1 r0 2 (m.1 p1 7)), m.2.1, m.2.2) Q') (k2 : ¬ (((u2 m.1 r0 2 (m.1 p1 7)) p1 6) = 0) → Q (.inl (some (iV (wr ((-1000000000) - ((u2 m.1 r0 2 (m.1 p1 7)) p1 6)))))) ((u2 m.1 r0 2 (m.1 p1 7)), m.2.1, m.2.2))  : X G dp a b M8_ask 53 [some (rV (some r0)), some (iV (i1))] [] m Q := by
  refine X_aload_n dX8_ask_53 rfl rfl ?_
  refine X_aload_n dX8_ask_54 rfl rfl ?_
  refine X_getP dX8_ask_55 fl_8_57 rfl (am_ow h4) ?_
  refine am_ptr h2 ?_
  refine X_getI dX8_ask_58 fl_8_95 (by decide) h3 ?_
  refine X_putI dX8_ask_61 fw_8_17 rfl h4 ?_
  refine X_aload_n dX8_ask_64 rfl rfl ?_
  refine X_getP dX8_ask_65 fl_8_57 rfl (am_ow h4) ?_
  refine am_ptr h2 ?_
  refine X_getI dX8_ask_68 fl_8_98 (by decide) h3 ?_
  refine X_if_eq (tgt := 86) dX8_ask_71 (by decide) (fun c1 => ?_) (fun c1 => ?_)
  · refine X_aload_n dX8_ask_86 rfl rfl ?_
    refine X_getP dX8_ask_87 fl_8_64 rfl (am_ow h4) ?_
    refine am_ptr h5 ?_
    refine X_aload_n dX8_ask_90 rfl rfl ?_
    refine X_getP dX8_ask_91 fl_8_30 rfl (am_ow h4) ?_
    refine am_ptr h6 ?_
    refine X_aload_n dX8_ask_94 rfl rfl ?_
    refine X_getP dX8_ask_95 fl_8_40 rfl (am_ow h4) ?_
    refine am_ptr h7 ?_
    exact X_callV (As := [rV (some p3), rV (some p4)]) (rest := []) (a' := 0) (b' := 0) dX8_ask_98 t5_answer ml_8_405 h8 rfl rfl (Nat.le_of_ble_eq_true rfl) rfl hdp (Nat.zero_le _) (Nat.zero_le _) ((k1 c1) _ (fun z m' h => h))
  · refine X_ldcwI dX8_ask_74 kc_8_404 (by unfold i32; omega) ?_
    refine X_aload_n dX8_ask_77 rfl rfl ?_
    refine X_getP dX8_ask_78 fl_8_57 rfl (am_ow h4) ?_
    refine am_ptr h2 ?_
    refine X_getI dX8_ask_81 fl_8_98 (by decide) h3 ?_
    refine X_isub dX8_ask_84  ?_
    exact X_iret dX8_ask_85 rfl (k2 c1)

theorem s8_ask_101 {G : am_G} {dp a b : Nat} {m : am_M} {Q : am_Q} {i1 i90 : Int} {r0 : Nat}  (k1 : Q (.inl (some (iV (i90)))) m)  : X G dp a b M8_ask 101 [some (rV (some r0)), some (iV (i1))] [iV (i90)] m Q := by
  exact X_iret dX8_ask_101 rfl k1

theorem s8_image_0 {G : am_G} {dp a b : Nat} {m : am_M} {Q : am_Q} {r0 p1 p2 : Nat} (hdp : 1 ≤ dp) (h1 : am_obw m r0 7) (h3 : m.2.1 r0 12 = some p1) (h4 : m.2.1 r0 4 = some p2) (h5 : am_ob m p1 3) (k1 : ∀ Q' : am_Q, (∀ (m' : am_M), X G dp a b M8_image 16 [some (rV (some r0))] [] m' Q → Q' (.inl none) m') → T G (dp - 1) 0 0 M3_copy [rV (some p1), rV (some p2)] ((u2 m.1 r0 11 (1)), m.2.1, m.2.2) Q')  : X G dp a b M8_image 0 [some (rV (some r0))] [] m Q := by
  refine X_aload_n dX8_image_0 rfl rfl ?_
  refine Y_iconst dX8_image_1 (by unfold i32; omega) ?_
  refine X_putZ dX8_image_2 fw_8_68 rfl (by decide) h1 ?_
  refine X_aload_n dX8_image_5 rfl rfl ?_
  refine X_getP dX8_image_6 fl_8_72 rfl (am_ow h1) ?_
  refine am_ptr h3 ?_
  refine X_aload_n dX8_image_9 rfl rfl ?_
  refine X_getP dX8_image_10 fl_8_30 rfl (am_ow h1) ?_
  refine am_ptr h4 ?_
  exact X_callV (As := [rV (some p2)]) (rest := []) (a' := 0) (b' := 0) dX8_image_13 t3_copy ml_8_409 h5 rfl rfl (Nat.le_of_ble_eq_true rfl) rfl hdp (Nat.zero_le _) (Nat.zero_le _) (k1 _ (fun m' h => h))

theorem s8_image_16 {G : am_G} {dp a b : Nat} {m : am_M} {Q : am_Q} {r0 : Nat}  (k1 : Q (.inl none) m)  : X G dp a b M8_image 16 [some (rV (some r0))] [] m Q := by
  exact X_vret dX8_image_16 rfl k1

theorem s8_back_0 {G : am_G} {dp a b : Nat} {m : am_M} {Q : am_Q} {r0 p1 p2 : Nat} (hdp : 1 ≤ dp) (h1 : am_ob m r0 7) (h2 : m.2.1 r0 4 = some p1) (h3 : m.2.1 r0 12 = some p2) (h4 : am_ob m p1 3) (k1 : ¬ ((m.1 r0 11) = 0) → ∀ Q' : am_Q, (∀ (m' : am_M), X G dp a b M8_back 20 [some (rV (some r0))] [] m' Q → Q' (.inl none) m') → T G (dp - 1) 0 0 M3_copy [rV (some p1), rV (some p2)] m Q') (k2 : ((m.1 r0 11) = 0) → Q (.inl (some (iV (0)))) m)  : X G dp a b M8_back 0 [some (rV (some r0))] [] m Q := by
  refine X_aload_n dX8_back_0 rfl rfl ?_
  refine X_getI dX8_back_1 fl_8_68 (by decide) h1 ?_
  refine X_if_ne (tgt := 9) dX8_back_4 (by decide) (fun c1 => ?_) (fun c1 => ?_)
  · refine X_aload_n dX8_back_9 rfl rfl ?_
    refine X_getP dX8_back_10 fl_8_30 rfl h1 ?_
    refine am_ptr h2 ?_
    refine X_aload_n dX8_back_13 rfl rfl ?_
    refine X_getP dX8_back_14 fl_8_72 rfl h1 ?_
    refine am_ptr h3 ?_
    exact X_callV (As := [rV (some p2)]) (rest := []) (a' := 0) (b' := 0) dX8_back_17 t3_copy ml_8_409 h4 rfl rfl (Nat.le_of_ble_eq_true rfl) rfl hdp (Nat.zero_le _) (Nat.zero_le _) ((k1 c1) _ (fun m' h => h))
  · refine Y_iconst dX8_back_7 (by unfold i32; omega) ?_
    exact X_zret dX8_back_8 rfl (by decide) (k2 c1)

theorem s8_back_20 {G : am_G} {dp a b : Nat} {m : am_M} {Q : am_Q} {r0 p1 : Nat} (hdp : 1 ≤ dp) (h1 : am_ob m r0 7) (h2 : m.2.1 r0 8 = some p1) (h3 : am_ob m p1 0) (k1 : ∀ Q' : am_Q, (∀ (m' : am_M), X G dp a b M8_back 27 [some (rV (some r0))] [] m' Q → Q' (.inl none) m') → T G (dp - 1) 0 0 M0_forget [rV (some p1)] m Q')  : X G dp a b M8_back 20 [some (rV (some r0))] [] m Q := by
  refine X_aload_n dX8_back_20 rfl rfl ?_
  refine X_getP dX8_back_21 fl_8_50 rfl h1 ?_
  refine am_ptr h2 ?_
  exact X_callV (As := []) (rest := []) (a' := 0) (b' := 0) dX8_back_24 t0_forget ml_8_101 h3 rfl rfl (Nat.le_of_ble_eq_true rfl) rfl hdp (Nat.zero_le _) (Nat.zero_le _) (k1 _ (fun m' h => h))

theorem s8_back_27 {G : am_G} {dp a b : Nat} {m : am_M} {Q : am_Q} {r0 : Nat} (hdp : 1 ≤ dp) (h1 : am_ob m r0 7) (k1 : ∀ Q' : am_Q, (∀ (m' : am_M), X G dp a b M8_back 31 [some (rV (some r0))] [] m' Q → Q' (.inl none) m') → T G (dp - 1) 0 0 M8_replay [rV (some r0)] m Q')  : X G dp a b M8_back 27 [some (rV (some r0))] [] m Q := by
  refine X_aload_n dX8_back_27 rfl rfl ?_
  exact X_callV (As := []) (rest := []) (a' := 0) (b' := 0) dX8_back_28 t8_replay ml_8_104 h1 rfl rfl (Nat.le_of_ble_eq_true rfl) rfl hdp (Nat.zero_le _) (Nat.zero_le _) (k1 _ (fun m' h => h))

theorem s8_back_31 {G : am_G} {dp a b : Nat} {m : am_M} {Q : am_Q} {r0 : Nat}  (k1 : Q (.inl (some (iV (1)))) m)  : X G dp a b M8_back 31 [some (rV (some r0))] [] m Q := by
  refine Y_iconst dX8_back_31 (by unfold i32; omega) ?_
  exact X_zret dX8_back_32 rfl (by decide) k1

theorem s8_scaled_0 {G : am_G} {dp a b : Nat} {m : am_M} {Q : am_Q} {l0 l2 l4 : Int} {o6 o7 : Option am_V}  (k1 : (0 < (lc l4 0)) → Q (.inl (some (lV (max 1 (min 10000000000000 (wrl (Int.tdiv (wrl ((wrl ((wrl (l0 * l2)) + l4)) - 1)) l4))))))) m) (k2 : ¬ (0 < (lc l4 0)) → Q (.inl (some (lV (10000000000000)))) m) (h1 : 0 < (lc l4 0) → l4 ≠ 0 := by intros; first | omega | (dsimp only at *; omega)) : X G dp a b M8_scaled 0 [some (lV (l0)), none, some (lV (l2)), none, some (lV (l4)), none, o6, o7] [] m Q := by
  refine X_lload dX8_scaled_0 rfl ?_
  refine Y_lconst0 dX8_scaled_2 ?_
  refine X_lcmp dX8_scaled_3 ?_
  refine X_if_gt (tgt := 11) dX8_scaled_4 (by decide) (fun c1 => ?_) (fun c1 => ?_)
  · refine X_lload_n dX8_scaled_11 rfl rfl ?_
    refine X_lload_n dX8_scaled_12 rfl rfl ?_
    refine X_lmul dX8_scaled_13  ?_
    refine X_lload dX8_scaled_14 rfl ?_
    refine X_ladd dX8_scaled_16  ?_
    refine Y_lconst1 dX8_scaled_17 ?_
    refine X_lsub dX8_scaled_18  ?_
    refine X_lload dX8_scaled_19 rfl ?_
    refine X_ldiv dX8_scaled_21 (h1 c1) ?_
    refine X_lstore dX8_scaled_22 (Nat.le_of_ble_eq_true rfl) ?_
    refine Y_lconst1 dX8_scaled_24 ?_
    refine X_ldc2 dX8_scaled_25 kc_8_413 (by unfold i64; omega) ?_
    refine X_lload dX8_scaled_28 rfl ?_
    refine X_minL dX8_scaled_30 ml_8_415 (Nat.le_of_ble_eq_true rfl) ?_
    refine X_maxL dX8_scaled_33 ml_8_418 (Nat.le_of_ble_eq_true rfl) ?_
    exact X_lret dX8_scaled_36 rfl (k1 c1)
  · refine X_ldc2 dX8_scaled_7 kc_8_413 (by unfold i64; omega) ?_
    exact X_lret dX8_scaled_10 rfl (k2 c1)

theorem s8_repeated_0 {G : am_G} {dp a b : Nat} {m : am_M} {Q : am_Q} {i6 l0 l2 l4 : Int} {o7 o8 o9 o10 o11 : Option am_V}  (k1 : X G dp a b M8_repeated 6 [some (lV (l0)), none, some (lV (l2)), none, some (lV (l4)), none, some (iV (i6)), some (lV (l0)), none, some (iV (0)), o10, o11] [] m Q)  : X G dp a b M8_repeated 0 [some (lV (l0)), none, some (lV (l2)), none, some (lV (l4)), none, some (iV (i6)), o7, o8, o9, o10, o11] [] m Q := by
  refine X_lload_n dX8_repeated_0 rfl rfl ?_
  refine X_lstore dX8_repeated_1 (Nat.le_of_ble_eq_true rfl) ?_
  refine Y_iconst dX8_repeated_3 (by unfold i32; omega) ?_
  refine X_istore dX8_repeated_4 (Nat.le_of_ble_eq_true rfl) ?_
  exact k1

theorem s8_repeated_6 {G : am_G} {dp a b : Nat} {m : am_M} {Q : am_Q} {i6 i9 l0 l2 l4 l7 : Int} {o10 o11 : Option am_V} (hdp : 1 ≤ dp)  (k1 : (i6 ≤ i9) → Q (.inl (some (lV (l7)))) m) (k2 : ¬ (i6 ≤ i9) → ∀ Q' : am_Q, (∀ (z : Int) (m' : am_M), X G dp a b M8_repeated 25 [some (lV (l0)), none, some (lV (l2)), none, some (lV (l4)), none, some (iV (i6)), some (lV (l7)), none, some (iV (i9)), some (lV (l7)), none] [lV (z)] m' Q → Q' (.inl (some (lV (z)))) m') → T G (dp - 1) 0 0 M8_scaled [lV (l7), lV (l2), lV (l4)] m Q')  : X G dp a b M8_repeated 6 [some (lV (l0)), none, some (lV (l2)), none, some (lV (l4)), none, some (iV (i6)), some (lV (l7)), none, some (iV (i9)), o10, o11] [] m Q := by
  refine X_iload dX8_repeated_6 rfl ?_
  refine X_iload dX8_repeated_8 rfl ?_
  refine X_icmp_ge (tgt := 44) dX8_repeated_10 (by decide) (fun c1 => ?_) (fun c1 => ?_)
  · refine X_lload dX8_repeated_44 rfl ?_
    exact X_lret dX8_repeated_46 rfl (k1 c1)
  · refine X_lload dX8_repeated_13 rfl ?_
    refine X_lstore dX8_repeated_15 (Nat.le_of_ble_eq_true rfl) ?_
    refine X_lload dX8_repeated_17 rfl ?_
    refine X_lload_n dX8_repeated_19 rfl rfl ?_
    refine X_lload dX8_repeated_20 rfl ?_
    exact X_callS (As := [lV (l7), lV (l2), lV (l4)]) (rest := []) (a' := 0) (b' := 0) dX8_repeated_22 t8_scaled ml_8_420 rfl rfl (Nat.le_of_ble_eq_true rfl) rfl hdp (Nat.zero_le _) (Nat.zero_le _) ((k2 c1) _ (fun z m' h => h))

theorem s8_repeated_25 {G : am_G} {dp a b : Nat} {m : am_M} {Q : am_Q} {i6 i9 l0 l10 l2 l4 l7 l90 : Int}  (k1 : ¬ ((lc l90 l10) = 0) → X G dp a b M8_repeated 6 [some (lV (l0)), none, some (lV (l2)), none, some (lV (l4)), none, some (iV (i6)), some (lV (l90)), none, some (iV (wr (i9 + 1))), some (lV (l10)), none] [] m Q) (k2 : ((lc l90 l10) = 0) → Q (.inl (some (lV (l90)))) m)  : X G dp a b M8_repeated 25 [some (lV (l0)), none, some (lV (l2)), none, some (lV (l4)), none, some (iV (i6)), some (lV (l7)), none, some (iV (i9)), some (lV (l10)), none] [lV (l90)] m Q := by
  refine X_lstore dX8_repeated_25 (Nat.le_of_ble_eq_true rfl) ?_
  refine X_lload dX8_repeated_27 rfl ?_
  refine X_lload dX8_repeated_29 rfl ?_
  refine X_lcmp dX8_repeated_31 ?_
  refine X_if_ne (tgt := 38) dX8_repeated_32 (by decide) (fun c1 => ?_) (fun c1 => ?_)
  · refine X_iinc dX8_repeated_38 rfl ?_
    refine X_goto (tgt := 6) dX8_repeated_41 (by decide) ?_
    exact (k1 c1)
  · refine X_goto (tgt := 44) dX8_repeated_35 (by decide) ?_
    refine X_lload dX8_repeated_44 rfl ?_
    exact X_lret dX8_repeated_46 rfl (k2 c1)

theorem s8_drawsDown_0 {G : am_G} {dp a b : Nat} {m : am_M} {Q : am_Q} {i8 l0 l2 l4 l6 : Int} {o9 o10 o11 : Option am_V} (hdp : 1 ≤ dp)  (k1 : (0 < (lc l0 l6)) → ((lc l4 0) ≤ 0) → Q (.inl (some (iV ((-1))))) m) (k2 : (0 < (lc l0 l6)) → ¬ ((lc l4 0) ≤ 0) → (0 ≤ (lc l2 l4)) → Q (.inl (some (iV ((-1))))) m) (k3 : (0 < (lc l0 l6)) → ¬ ((lc l4 0) ≤ 0) → ¬ (0 ≤ (lc l2 l4)) → ∀ Q' : am_Q, (∀ (z : Int) (m' : am_M), X G dp a b M8_drawsDown 34 [some (lV (l0)), none, some (lV (l2)), none, some (lV (l4)), none, some (lV (l6)), none, some (iV (i8)), o9, o10, o11] [iV (z)] m' Q → Q' (.inl (some (iV (z)))) m') → T G (dp - 1) 0 0 M8_isOutOfReach [lV (l0), lV (l2), lV (l4), lV (l6), iV (i8)] m Q') (k4 : ¬ (0 < (lc l0 l6)) → Q (.inl (some (iV (0)))) m)  : X G dp a b M8_drawsDown 0 [some (lV (l0)), none, some (lV (l2)), none, some (lV (l4)), none, some (lV (l6)), none, some (iV (i8)), o9, o10, o11] [] m Q := by
  refine X_lload_n dX8_drawsDown_0 rfl rfl ?_
  refine X_lload dX8_drawsDown_1 rfl ?_
  refine X_lcmp dX8_drawsDown_3 ?_
  refine X_if_gt (tgt := 9) dX8_drawsDown_4 (by decide) (fun c1 => ?_) (fun c1 => ?_)
  · refine X_lload dX8_drawsDown_9 rfl ?_
    refine Y_lconst0 dX8_drawsDown_11 ?_
    refine X_lcmp dX8_drawsDown_12 ?_
    refine X_if_le (tgt := 37) dX8_drawsDown_13 (by decide) (fun c2 => ?_) (fun c2 => ?_)
    · refine Y_iconst dX8_drawsDown_37 (by unfold i32; omega) ?_
      exact X_iret dX8_drawsDown_38 rfl (k1 c1 c2)
    · refine X_lload_n dX8_drawsDown_16 rfl rfl ?_
      refine X_lload dX8_drawsDown_17 rfl ?_
      refine X_lcmp dX8_drawsDown_19 ?_
      refine X_if_ge (tgt := 37) dX8_drawsDown_20 (by decide) (fun c3 => ?_) (fun c3 => ?_)
      · refine Y_iconst dX8_drawsDown_37 (by unfold i32; omega) ?_
        exact X_iret dX8_drawsDown_38 rfl (k2 c1 c2 c3)
      · refine X_lload_n dX8_drawsDown_23 rfl rfl ?_
        refine X_lload_n dX8_drawsDown_24 rfl rfl ?_
        refine X_lload dX8_drawsDown_25 rfl ?_
        refine X_lload dX8_drawsDown_27 rfl ?_
        refine X_iload dX8_drawsDown_29 rfl ?_
        exact X_callS (As := [lV (l0), lV (l2), lV (l4), lV (l6), iV (i8)]) (rest := []) (a' := 0) (b' := 0) dX8_drawsDown_31 t8_isOutOfReach ml_8_424 rfl rfl (Nat.le_of_ble_eq_true rfl) rfl hdp (Nat.zero_le _) (Nat.zero_le _) ((k3 c1 c2 c3) _ (fun z m' h => h))
  · refine Y_iconst dX8_drawsDown_7 (by unfold i32; omega) ?_
    exact X_iret dX8_drawsDown_8 rfl (k4 c1)

theorem s8_drawsDown_34 {G : am_G} {dp a b : Nat} {m : am_M} {Q : am_Q} {i8 i90 l0 l2 l4 l6 : Int} {o9 o10 o11 : Option am_V}  (k1 : (i90 = 0) → X G dp a b M8_drawsDown 45 [some (lV (l0)), none, some (lV (l2)), none, some (lV (l4)), none, some (lV (l6)), none, some (iV (i8)), some (lV (l0)), none, some (iV (1))] [] m Q) (k2 : ¬ (i90 = 0) → Q (.inl (some (iV ((-1))))) m)  : X G dp a b M8_drawsDown 34 [some (lV (l0)), none, some (lV (l2)), none, some (lV (l4)), none, some (lV (l6)), none, some (iV (i8)), o9, o10, o11] [iV (i90)] m Q := by
  refine X_if_eq (tgt := 39) dX8_drawsDown_34 (by decide) (fun c1 => ?_) (fun c1 => ?_)
  · refine X_lload_n dX8_drawsDown_39 rfl rfl ?_
    refine X_lstore dX8_drawsDown_40 (Nat.le_of_ble_eq_true rfl) ?_
    refine Y_iconst dX8_drawsDown_42 (by unfold i32; omega) ?_
    refine X_istore dX8_drawsDown_43 (Nat.le_of_ble_eq_true rfl) ?_
    exact (k1 c1)
  · refine Y_iconst dX8_drawsDown_37 (by unfold i32; omega) ?_
    exact X_iret dX8_drawsDown_38 rfl (k2 c1)

theorem s8_drawsDown_45 {G : am_G} {dp a b : Nat} {m : am_M} {Q : am_Q} {i11 i8 l0 l2 l4 l6 l9 : Int} (hdp : 1 ≤ dp)  (k1 : (i8 < i11) → Q (.inl (some (iV ((-1))))) m) (k2 : ¬ (i8 < i11) → ∀ Q' : am_Q, (∀ (z : Int) (m' : am_M), X G dp a b M8_drawsDown 60 [some (lV (l0)), none, some (lV (l2)), none, some (lV (l4)), none, some (lV (l6)), none, some (iV (i8)), some (lV (l9)), none, some (iV (i11))] [lV (z)] m' Q → Q' (.inl (some (lV (z)))) m') → T G (dp - 1) 0 0 M8_scaled [lV (l9), lV (l2), lV (l4)] m Q')  : X G dp a b M8_drawsDown 45 [some (lV (l0)), none, some (lV (l2)), none, some (lV (l4)), none, some (lV (l6)), none, some (iV (i8)), some (lV (l9)), none, some (iV (i11))] [] m Q := by
  refine X_iload dX8_drawsDown_45 rfl ?_
  refine X_iload dX8_drawsDown_47 rfl ?_
  refine X_icmp_gt (tgt := 79) dX8_drawsDown_49 (by decide) (fun c1 => ?_) (fun c1 => ?_)
  · refine Y_iconst dX8_drawsDown_79 (by unfold i32; omega) ?_
    exact X_iret dX8_drawsDown_80 rfl (k1 c1)
  · refine X_lload dX8_drawsDown_52 rfl ?_
    refine X_lload_n dX8_drawsDown_54 rfl rfl ?_
    refine X_lload dX8_drawsDown_55 rfl ?_
    exact X_callS (As := [lV (l9), lV (l2), lV (l4)]) (rest := []) (a' := 0) (b' := 0) dX8_drawsDown_57 t8_scaled ml_8_420 rfl rfl (Nat.le_of_ble_eq_true rfl) rfl hdp (Nat.zero_le _) (Nat.zero_le _) ((k2 c1) _ (fun z m' h => h))

theorem s8_drawsDown_60 {G : am_G} {dp a b : Nat} {m : am_M} {Q : am_Q} {i11 i8 l0 l2 l4 l6 l9 l90 : Int}  (k1 : (0 < (lc l90 l6)) → X G dp a b M8_drawsDown 45 [some (lV (l0)), none, some (lV (l2)), none, some (lV (l4)), none, some (lV (l6)), none, some (iV (i8)), some (lV (l90)), none, some (iV (wr (i11 + 1)))] [] m Q) (k2 : ¬ (0 < (lc l90 l6)) → Q (.inl (some (iV (i11)))) m)  : X G dp a b M8_drawsDown 60 [some (lV (l0)), none, some (lV (l2)), none, some (lV (l4)), none, some (lV (l6)), none, some (iV (i8)), some (lV (l9)), none, some (iV (i11))] [lV (l90)] m Q := by
  refine X_lstore dX8_drawsDown_60 (Nat.le_of_ble_eq_true rfl) ?_
  refine X_lload dX8_drawsDown_62 rfl ?_
  refine X_lload dX8_drawsDown_64 rfl ?_
  refine X_lcmp dX8_drawsDown_66 ?_
  refine X_if_gt (tgt := 73) dX8_drawsDown_67 (by decide) (fun c1 => ?_) (fun c1 => ?_)
  · refine X_iinc dX8_drawsDown_73 rfl ?_
    refine X_goto (tgt := 45) dX8_drawsDown_76 (by decide) ?_
    exact (k1 c1)
  · refine X_iload dX8_drawsDown_70 rfl ?_
    exact X_iret dX8_drawsDown_72 rfl (k2 c1)

theorem s8_isOutOfReach_0 {G : am_G} {dp a b : Nat} {m : am_M} {Q : am_Q} {i8 l0 l2 l4 l6 : Int} {o9 o10 o11 o12 o13 : Option am_V} (h1 : 0 < (lc l4 0) → vf_n64 (FP.ddiv (FP.l2d (Int64.ofInt l2)) (FP.l2d (Int64.ofInt l4)))) (k1 : (0 < (lc l4 0)) → X G dp a b M8_isOutOfReach 27 [some (lV (l0)), none, some (lV (l2)), none, some (lV (l4)), none, some (lV (l6)), none, some (iV (i8)), some (dV (FP.l2d (Int64.ofInt l0))), none, some (dV (FP.ddiv (FP.l2d (Int64.ofInt l2)) (FP.l2d (Int64.ofInt l4)))), none, some (iV (i8))] [] m Q) (k2 : ¬ (0 < (lc l4 0)) → X G dp a b M8_isOutOfReach 27 [some (lV (l0)), none, some (lV (l2)), none, some (lV (l4)), none, some (lV (l6)), none, some (iV (i8)), some (dV (FP.l2d (Int64.ofInt l0))), none, some (dV (FP.dconst1)), none, some (iV (i8))] [] m Q)  : X G dp a b M8_isOutOfReach 0 [some (lV (l0)), none, some (lV (l2)), none, some (lV (l4)), none, some (lV (l6)), none, some (iV (i8)), o9, o10, o11, o12, o13] [] m Q := by
  refine X_lload_n dX8_isOutOfReach_0 rfl rfl ?_
  refine X_l2d dX8_isOutOfReach_1 ?_
  refine X_dstore dX8_isOutOfReach_2 (Nat.le_of_ble_eq_true rfl) ?_
  refine X_lload dX8_isOutOfReach_4 rfl ?_
  refine Y_lconst0 dX8_isOutOfReach_6 ?_
  refine X_lcmp dX8_isOutOfReach_7 ?_
  refine X_if_gt (tgt := 15) dX8_isOutOfReach_8 (by decide) (fun c1 => ?_) (fun c1 => ?_)
  · refine X_lload_n dX8_isOutOfReach_15 rfl rfl ?_
    refine X_l2d dX8_isOutOfReach_16 ?_
    refine X_lload dX8_isOutOfReach_17 rfl ?_
    refine X_l2d dX8_isOutOfReach_19 ?_
    refine X_ddiv dX8_isOutOfReach_20 (h1 c1) ?_
    refine X_dstore dX8_isOutOfReach_21 (Nat.le_of_ble_eq_true rfl) ?_
    refine X_iload dX8_isOutOfReach_23 rfl ?_
    refine X_istore dX8_isOutOfReach_25 (Nat.le_of_ble_eq_true rfl) ?_
    exact (k1 c1)
  · refine X_dconst1 dX8_isOutOfReach_11 ?_
    refine X_goto (tgt := 21) dX8_isOutOfReach_12 (by decide) ?_
    refine X_dstore dX8_isOutOfReach_21 (Nat.le_of_ble_eq_true rfl) ?_
    refine X_iload dX8_isOutOfReach_23 rfl ?_
    refine X_istore dX8_isOutOfReach_25 (Nat.le_of_ble_eq_true rfl) ?_
    exact (k2 c1)

theorem s8_isOutOfReach_27 {G : am_G} {dp a b : Nat} {m : am_M} {Q : am_Q} {i13 i8 l0 l2 l4 l6 : Int} {f11 f9 : UInt64} (h1 : i13 ≤ 0 → vf_n64 (FP.dmul (FP.l2d (Int64.ofInt l6)) 4607182423303617035)) (h2 : ¬ (i13 ≤ 0) → (ian i13 1) = 0 → vf_n64 (FP.dmul f11 f11)) (h3 : ¬ (i13 ≤ 0) → ¬ ((ian i13 1) = 0) → vf_n64 (FP.dmul f9 f11)) (h4 : ¬ (i13 ≤ 0) → ¬ ((ian i13 1) = 0) → vf_n64 (FP.dmul f11 f11)) (k1 : (i13 ≤ 0) → (((Op.cmpValue (FP.dcmp f9 (FP.dmul (FP.l2d (Int64.ofInt l6)) 4607182423303617035)) .l).toInt) ≤ 0) → Q (.inl (some (iV (0)))) m) (k2 : (i13 ≤ 0) → ¬ (((Op.cmpValue (FP.dcmp f9 (FP.dmul (FP.l2d (Int64.ofInt l6)) 4607182423303617035)) .l).toInt) ≤ 0) → Q (.inl (some (iV (1)))) m) (k3 : ¬ (i13 ≤ 0) → ((ian i13 1) = 0) → X G dp a b M8_isOutOfReach 27 [some (lV (l0)), none, some (lV (l2)), none, some (lV (l4)), none, some (lV (l6)), none, some (iV (i8)), some (dV (f9)), none, some (dV (FP.dmul f11 f11)), none, some (iV (ishx i13 1))] [] m Q) (k4 : ¬ (i13 ≤ 0) → ¬ ((ian i13 1) = 0) → X G dp a b M8_isOutOfReach 27 [some (lV (l0)), none, some (lV (l2)), none, some (lV (l4)), none, some (lV (l6)), none, some (iV (i8)), some (dV (FP.dmul f9 f11)), none, some (dV (FP.dmul f11 f11)), none, some (iV (ishx i13 1))] [] m Q)  : X G dp a b M8_isOutOfReach 27 [some (lV (l0)), none, some (lV (l2)), none, some (lV (l4)), none, some (lV (l6)), none, some (iV (i8)), some (dV (f9)), none, some (dV (f11)), none, some (iV (i13))] [] m Q := by
  refine X_iload dX8_isOutOfReach_27 rfl ?_
  refine X_if_le (tgt := 62) dX8_isOutOfReach_29 (by decide) (fun c1 => ?_) (fun c1 => ?_)
  · refine X_dload dX8_isOutOfReach_62 rfl ?_
    refine X_lload dX8_isOutOfReach_64 rfl ?_
    refine X_l2d dX8_isOutOfReach_66 ?_
    refine X_ldc2d dX8_isOutOfReach_67 kc_8_428 ?_
    refine X_dmul dX8_isOutOfReach_70 (h1 c1) ?_
    refine X_dcmp dX8_isOutOfReach_71 ?_
    refine X_if_le (tgt := 79) dX8_isOutOfReach_72 (by decide) (fun c2 => ?_) (fun c2 => ?_)
    · refine Y_iconst dX8_isOutOfReach_79 (by unfold i32; omega) ?_
      exact X_zret dX8_isOutOfReach_80 rfl (by decide) (k1 c1 c2)
    · refine Y_iconst dX8_isOutOfReach_75 (by unfold i32; omega) ?_
      refine X_goto (tgt := 80) dX8_isOutOfReach_76 (by decide) ?_
      exact X_zret dX8_isOutOfReach_80 rfl (by decide) (k2 c1 c2)
  · refine X_iload dX8_isOutOfReach_32 rfl ?_
    refine Y_iconst dX8_isOutOfReach_34 (by unfold i32; omega) ?_
    refine X_iand dX8_isOutOfReach_35  ?_
    refine X_if_eq (tgt := 46) dX8_isOutOfReach_36 (by decide) (fun c3 => ?_) (fun c3 => ?_)
    · refine X_dload dX8_isOutOfReach_46 rfl ?_
      refine X_dload dX8_isOutOfReach_48 rfl ?_
      refine X_dmul dX8_isOutOfReach_50 (h2 c1 c3) ?_
      refine X_dstore dX8_isOutOfReach_51 (Nat.le_of_ble_eq_true rfl) ?_
      refine X_iload dX8_isOutOfReach_53 rfl ?_
      refine Y_iconst dX8_isOutOfReach_55 (by unfold i32; omega) ?_
      refine X_ishr dX8_isOutOfReach_56  ?_
      refine X_istore dX8_isOutOfReach_57 (Nat.le_of_ble_eq_true rfl) ?_
      refine X_goto (tgt := 27) dX8_isOutOfReach_59 (by decide) ?_
      exact (k3 c1 c3)
    · refine X_dload dX8_isOutOfReach_39 rfl ?_
      refine X_dload dX8_isOutOfReach_41 rfl ?_
      refine X_dmul dX8_isOutOfReach_43 (h3 c1 c3) ?_
      refine X_dstore dX8_isOutOfReach_44 (Nat.le_of_ble_eq_true rfl) ?_
      refine X_dload dX8_isOutOfReach_46 rfl ?_
      refine X_dload dX8_isOutOfReach_48 rfl ?_
      refine X_dmul dX8_isOutOfReach_50 (h4 c1 c3) ?_
      refine X_dstore dX8_isOutOfReach_51 (Nat.le_of_ble_eq_true rfl) ?_
      refine X_iload dX8_isOutOfReach_53 rfl ?_
      refine Y_iconst dX8_isOutOfReach_55 (by unfold i32; omega) ?_
      refine X_ishr dX8_isOutOfReach_56  ?_
      refine X_istore dX8_isOutOfReach_57 (Nat.le_of_ble_eq_true rfl) ?_
      refine X_goto (tgt := 27) dX8_isOutOfReach_59 (by decide) ?_
      exact (k4 c1 c3)

