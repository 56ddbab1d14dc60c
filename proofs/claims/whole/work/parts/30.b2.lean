/-! TREES of bytecode, by program: X2_* -/
theorem s2_reckon_0 {G : am_G} {dp a b : Nat} {m : am_M} {Q : am_Q} {i1 : Int} {r0 p1 p2 : Nat} {o2 : Option am_V} (hdp : 1 ≤ dp) (h1 : am_ob m r0 2) (h2 : m.2.1 r0 0 = some p1) (h3 : m.2.1 r0 3 = some p2) (k1 : ∀ Q' : am_Q, (∀ (m' : am_M), X G dp a b M2_reckon 13 [some (rV (some r0)), some (iV (i1)), o2] [] m' Q → Q' (.inl none) m') → T G (dp - 1) 0 0 M2_tally [rV (some r0), rV (some p1), rV (some p2), iV (i1)] m Q')  : X G dp a b M2_reckon 0 [some (rV (some r0)), some (iV (i1)), o2] [] m Q := by
  refine X_aload_n dX2_reckon_0 rfl rfl ?_
  refine X_aload_n dX2_reckon_1 rfl rfl ?_
  refine X_getP dX2_reckon_2 fl_2_9 rfl h1 ?_
  refine am_ptr h2 ?_
  refine X_aload_n dX2_reckon_5 rfl rfl ?_
  refine X_getP dX2_reckon_6 fl_2_21 rfl h1 ?_
  refine am_ptr h3 ?_
  refine X_iload_n dX2_reckon_9 rfl rfl ?_
  exact X_callV (As := [rV (some p1), rV (some p2), iV (i1)]) (rest := []) (a' := 0) (b' := 0) dX2_reckon_10 t2_tally ml_2_53 h1 rfl rfl (Nat.le_of_ble_eq_true rfl) rfl hdp (Nat.zero_le _) (Nat.zero_le _) (k1 _ (fun m' h => h))

theorem s2_reckon_13 {G : am_G} {dp a b : Nat} {m : am_M} {Q : am_Q} {i1 : Int} {r0 p1 p2 : Nat} {o2 : Option am_V} (hdp : 1 ≤ dp) (h1 : am_ob m r0 2) (h2 : m.2.1 r0 1 = some p1) (h3 : m.2.1 r0 4 = some p2) (k1 : ∀ Q' : am_Q, (∀ (m' : am_M), X G dp a b M2_reckon 26 [some (rV (some r0)), some (iV (i1)), o2] [] m' Q → Q' (.inl none) m') → T G (dp - 1) 0 0 M2_tally [rV (some r0), rV (some p1), rV (some p2), iV (i1)] m Q')  : X G dp a b M2_reckon 13 [some (rV (some r0)), some (iV (i1)), o2] [] m Q := by
  refine X_aload_n dX2_reckon_13 rfl rfl ?_
  refine X_aload_n dX2_reckon_14 rfl rfl ?_
  refine X_getP dX2_reckon_15 fl_2_15 rfl h1 ?_
  refine am_ptr h2 ?_
  refine X_aload_n dX2_reckon_18 rfl rfl ?_
  refine X_getP dX2_reckon_19 fl_2_24 rfl h1 ?_
  refine am_ptr h3 ?_
  refine X_iload_n dX2_reckon_22 rfl rfl ?_
  exact X_callV (As := [rV (some p1), rV (some p2), iV (i1)]) (rest := []) (a' := 0) (b' := 0) dX2_reckon_23 t2_tally ml_2_53 h1 rfl rfl (Nat.le_of_ble_eq_true rfl) rfl hdp (Nat.zero_le _) (Nat.zero_le _) (k1 _ (fun m' h => h))

theorem s2_reckon_26 {G : am_G} {dp a b : Nat} {m : am_M} {Q : am_Q} {i1 : Int} {r0 p1 : Nat} {o2 : Option am_V} (hdp : 1 ≤ dp) (h1 : am_ob m r0 2) (h2 : m.2.1 r0 3 = some p1) (k1 : ∀ Q' : am_Q, (∀ (z : Int) (m' : am_M), X G dp a b M2_reckon 36 [some (rV (some r0)), some (iV (i1)), o2] [iV (z), rV (some r0)] m' Q → Q' (.inl (some (iV (z)))) m') → T G (dp - 1) 0 0 M2_leading [rV (some r0), rV (some p1), iV ((-1))] m Q')  : X G dp a b M2_reckon 26 [some (rV (some r0)), some (iV (i1)), o2] [] m Q := by
  refine X_aload_n dX2_reckon_26 rfl rfl ?_
  refine X_aload_n dX2_reckon_27 rfl rfl ?_
  refine X_aload_n dX2_reckon_28 rfl rfl ?_
  refine X_getP dX2_reckon_29 fl_2_21 rfl h1 ?_
  refine am_ptr h2 ?_
  refine Y_iconst dX2_reckon_32 (by unfold i32; omega) ?_
  exact X_callV (As := [rV (some p1), iV ((-1))]) (rest := [rV (some r0)]) (a' := 0) (b' := 0) dX2_reckon_33 t2_leading ml_2_57 h1 rfl rfl (Nat.le_of_ble_eq_true rfl) rfl hdp (Nat.zero_le _) (Nat.zero_le _) (k1 _ (fun z m' h => h))

theorem s2_reckon_36 {G : am_G} {dp a b : Nat} {m : am_M} {Q : am_Q} {i1 i90 : Int} {r0 r91 p1 : Nat} {o2 : Option am_V} (hdp : 1 ≤ dp) (h1 : am_obw m r91 2) (h2 : am_ob m r0 2) (h3 : m.2.1 r0 4 = some p1) (k1 : ∀ Q' : am_Q, (∀ (z : Int) (m' : am_M), X G dp a b M2_reckon 49 [some (rV (some r0)), some (iV (i1)), o2] [iV (z), rV (some r0)] m' Q → Q' (.inl (some (iV (z)))) m') → T G (dp - 1) 0 0 M2_leading [rV (some r0), rV (some p1), iV ((-1))] ((u2 m.1 r91 7 (i90)), m.2.1, m.2.2) Q')  : X G dp a b M2_reckon 36 [some (rV (some r0)), some (iV (i1)), o2] [iV (i90), rV (some r91)] m Q := by
  refine X_putI dX2_reckon_36 fw_2_34 rfl h1 ?_
  refine X_aload_n dX2_reckon_39 rfl rfl ?_
  refine X_aload_n dX2_reckon_40 rfl rfl ?_
  refine X_aload_n dX2_reckon_41 rfl rfl ?_
  refine X_getP dX2_reckon_42 fl_2_24 rfl h2 ?_
  refine am_ptr h3 ?_
  refine Y_iconst dX2_reckon_45 (by unfold i32; omega) ?_
  exact X_callV (As := [rV (some p1), iV ((-1))]) (rest := [rV (some r0)]) (a' := 0) (b' := 0) dX2_reckon_46 t2_leading ml_2_57 h2 rfl rfl (Nat.le_of_ble_eq_true rfl) rfl hdp (Nat.zero_le _) (Nat.zero_le _) (k1 _ (fun z m' h => h))

theorem s2_reckon_49 {G : am_G} {dp a b : Nat} {m : am_M} {Q : am_Q} {i1 i90 : Int} {r0 r91 p1 : Nat} {o2 : Option am_V} {n_p1 : Nat} (hdp : 1 ≤ dp) (h1 : am_obw m r91 2) (h2 : am_ob m r0 2) (h3 : m.2.1 r0 3 = some p1) (h4 : am_ar m p1 100 n_p1) (k1 : ∀ Q' : am_Q, (∀ (z : Int) (m' : am_M), X G dp a b M2_reckon 78 [some (rV (some r0)), some (iV (i1)), o2] [iV (z), rV (some p1), iV ((u2 m.1 r91 8 (i90)) p1 ((u2 m.1 r91 8 (i90)) r0 7).toNat), rV (some r0)] m' Q → Q' (.inl (some (iV (z)))) m') → T G (dp - 1) 0 0 M2_leading [rV (some r0), rV (some p1), iV ((u2 m.1 r91 8 (i90)) r0 7)] ((u2 m.1 r91 8 (i90)), m.2.1, m.2.2) Q') (h5 : 0 ≤ (u2 m.1 r91 8 (i90)) r0 7 := by intros; first | omega | (dsimp only at *; omega)) (h6 : (u2 m.1 r91 8 (i90)) r0 7 < (n_p1 : Int) := by intros; first | omega | (dsimp only at *; omega)) : X G dp a b M2_reckon 49 [some (rV (some r0)), some (iV (i1)), o2] [iV (i90), rV (some r91)] m Q := by
  refine X_putI dX2_reckon_49 fw_2_37 rfl h1 ?_
  refine X_aload_n dX2_reckon_52 rfl rfl ?_
  refine X_aload_n dX2_reckon_53 rfl rfl ?_
  refine X_getP dX2_reckon_54 fl_2_21 rfl h2 ?_
  refine am_ptr h3 ?_
  refine X_aload_n dX2_reckon_57 rfl rfl ?_
  refine X_getI dX2_reckon_58 fl_2_34 (by decide) h2 ?_
  refine X_iald dX2_reckon_61 h4 h5 h6 ?_
  refine X_aload_n dX2_reckon_62 rfl rfl ?_
  refine X_getP dX2_reckon_63 fl_2_21 rfl h2 ?_
  refine am_ptr h3 ?_
  refine X_aload_n dX2_reckon_66 rfl rfl ?_
  refine X_aload_n dX2_reckon_67 rfl rfl ?_
  refine X_getP dX2_reckon_68 fl_2_21 rfl h2 ?_
  refine am_ptr h3 ?_
  refine X_aload_n dX2_reckon_71 rfl rfl ?_
  refine X_getI dX2_reckon_72 fl_2_34 (by decide) h2 ?_
  exact X_callV (As := [rV (some p1), iV ((u2 m.1 r91 8 (i90)) r0 7)]) (rest := [rV (some p1), iV ((u2 m.1 r91 8 (i90)) p1 ((u2 m.1 r91 8 (i90)) r0 7).toNat), rV (some r0)]) (a' := 0) (b' := 0) dX2_reckon_75 t2_leading ml_2_57 h2 rfl rfl (Nat.le_of_ble_eq_true rfl) rfl hdp (Nat.zero_le _) (Nat.zero_le _) (k1 _ (fun z m' h => h))

theorem s2_reckon_78 {G : am_G} {dp a b : Nat} {m : am_M} {Q : am_Q} {i1 i90 i92 : Int} {r0 r91 r93 : Nat} {o2 : Option am_V} {n_r91 : Nat} (h1 : am_ar m r91 100 n_r91) (h4 : am_obw m r93 2) (k1 : X G dp a b M2_reckon 85 [some (rV (some r0)), some (iV (i1)), some (iV (0))] [] ((u2 m.1 r93 9 (wr (i92 - (m.1 r91 (i90).toNat)))), m.2.1, m.2.2) Q) (h2 : 0 ≤ i90 := by intros; first | omega | (dsimp only at *; omega)) (h3 : i90 < (n_r91 : Int) := by intros; first | omega | (dsimp only at *; omega)) : X G dp a b M2_reckon 78 [some (rV (some r0)), some (iV (i1)), o2] [iV (i90), rV (some r91), iV (i92), rV (some r93)] m Q := by
  refine X_iald dX2_reckon_78 h1 h2 h3 ?_
  refine X_isub dX2_reckon_79  ?_
  refine X_putI dX2_reckon_80 fw_2_40 rfl h4 ?_
  refine Y_iconst dX2_reckon_83 (by unfold i32; omega) ?_
  refine X_istore_n dX2_reckon_84 rfl (Nat.le_of_ble_eq_true rfl) ?_
  exact k1

theorem s2_reckon_85 {G : am_G} {dp a b : Nat} {m : am_M} {Q : am_Q} {i1 i2 : Int} {r0 p1 p2 p3 : Nat} {n_p2 n_p3 : Nat} (hdp : 1 ≤ dp) (h1 : am_ob m r0 2) (h2 : m.2.1 r0 2 = some p1) (h3 : m.2.1 r0 0 = some p2) (h4 : am_ar m p2 100 n_p2) (h7 : m.2.1 r0 1 = some p3) (h8 : am_ar m p3 100 n_p3) (k1 : (i1 ≤ i2) → Q (.inl none) m) (k2 : ¬ (i1 ≤ i2) → (200 ≤ i2) → Q (.inl none) m) (k3 : ¬ (i1 ≤ i2) → ¬ (200 ≤ i2) → ∀ Q' : am_Q, (∀ (z : Int) (m' : am_M), X G dp a b M2_reckon 118 [some (rV (some r0)), some (iV (i1)), some (iV (i2))] [iV (z), iV (i2), rV (some p1)] m' Q → Q' (.inl (some (iV (z)))) m') → T G (dp - 1) 0 0 M2_slip [rV (some r0), iV (m.1 p2 (i2).toNat), iV (m.1 p3 (i2).toNat)] m Q') (h5 : ¬ (i1 ≤ i2) → ¬ (200 ≤ i2) → 0 ≤ i2 := by intros; first | omega | (dsimp only at *; omega)) (h6 : ¬ (i1 ≤ i2) → ¬ (200 ≤ i2) → i2 < (n_p2 : Int) := by intros; first | omega | (dsimp only at *; omega)) (h9 : ¬ (i1 ≤ i2) → ¬ (200 ≤ i2) → i2 < (n_p3 : Int) := by intros; first | omega | (dsimp only at *; omega)) : X G dp a b M2_reckon 85 [some (rV (some r0)), some (iV (i1)), some (iV (i2))] [] m Q := by
  refine X_iload_n dX2_reckon_85 rfl rfl ?_
  refine X_iload_n dX2_reckon_86 rfl rfl ?_
  refine X_icmp_ge (tgt := 125) dX2_reckon_87 (by decide) (fun c1 => ?_) (fun c1 => ?_)
  · exact X_vret dX2_reckon_125 rfl (k1 c1)
  · refine X_iload_n dX2_reckon_90 rfl rfl ?_
    refine Y_sipush dX2_reckon_91 (by omega) ?_
    refine X_icmp_ge (tgt := 125) dX2_reckon_94 (by decide) (fun c2 => ?_) (fun c2 => ?_)
    · exact X_vret dX2_reckon_125 rfl (k2 c1 c2)
    · refine X_aload_n dX2_reckon_97 rfl rfl ?_
      refine X_getP dX2_reckon_98 fl_2_18 rfl h1 ?_
      refine am_ptr h2 ?_
      refine X_iload_n dX2_reckon_101 rfl rfl ?_
      refine X_aload_n dX2_reckon_102 rfl rfl ?_
      refine X_aload_n dX2_reckon_103 rfl rfl ?_
      refine X_getP dX2_reckon_104 fl_2_9 rfl h1 ?_
      refine am_ptr h3 ?_
      refine X_iload_n dX2_reckon_107 rfl rfl ?_
      refine X_iald dX2_reckon_108 h4 (h5 c1 c2) (h6 c1 c2) ?_
      refine X_aload_n dX2_reckon_109 rfl rfl ?_
      refine X_getP dX2_reckon_110 fl_2_15 rfl h1 ?_
      refine am_ptr h7 ?_
      refine X_iload_n dX2_reckon_113 rfl rfl ?_
      refine X_iald dX2_reckon_114 h8 (h5 c1 c2) (h9 c1 c2) ?_
      exact X_callV (As := [iV (m.1 p2 (i2).toNat), iV (m.1 p3 (i2).toNat)]) (rest := [iV (i2), rV (some p1)]) (a' := 0) (b' := 0) dX2_reckon_115 t2_slip ml_2_61 h1 rfl rfl (Nat.le_of_ble_eq_true rfl) rfl hdp (Nat.zero_le _) (Nat.zero_le _) ((k3 c1 c2) _ (fun z m' h => h))

theorem s2_reckon_118 {G : am_G} {dp a b : Nat} {m : am_M} {Q : am_Q} {i1 i2 i90 i91 : Int} {r0 r92 : Nat} {n_r92 : Nat} (h1 : am_arw m r92 100 n_r92) (k1 : X G dp a b M2_reckon 85 [some (rV (some r0)), some (iV (i1)), some (iV (wr (i2 + 1)))] [] ((u2 m.1 r92 (i91).toNat (i90)), m.2.1, m.2.2) Q) (h2 : 0 ≤ i91 := by intros; first | omega | (dsimp only at *; omega)) (h3 : i91 < (n_r92 : Int) := by intros; first | omega | (dsimp only at *; omega)) : X G dp a b M2_reckon 118 [some (rV (some r0)), some (iV (i1)), some (iV (i2))] [iV (i90), iV (i91), rV (some r92)] m Q := by
  refine X_iast dX2_reckon_118 h1 h2 h3 ?_
  refine X_iinc dX2_reckon_119 rfl ?_
  refine X_goto (tgt := 85) dX2_reckon_122 (by decide) ?_
  exact k1

theorem s2_tally_0 {G : am_G} {dp a b : Nat} {m : am_M} {Q : am_Q} {i3 : Int} {r0 r1 r2 : Nat} {o4 o5 : Option am_V} (hdp : 1 ≤ dp)  (k1 : ∀ Q' : am_Q, (∀ (m' : am_M), X G dp a b M2_tally 5 [some (rV (some r0)), some (rV (some r1)), some (rV (some r2)), some (iV (i3)), o4, o5] [] m' Q → Q' (.inl none) m') → T G (dp - 1) 0 0 MJ7_fill_53178 [rV (some r2), iV (0)] m Q')  : X G dp a b M2_tally 0 [some (rV (some r0)), some (rV (some r1)), some (rV (some r2)), some (iV (i3)), o4, o5] [] m Q := by
  refine X_aload_n dX2_tally_0 rfl rfl ?_
  refine Y_iconst dX2_tally_1 (by unfold i32; omega) ?_
  exact X_callS (As := [rV (some r2), iV (0)]) (rest := []) (a' := 0) (b' := 0) dX2_tally_2 tJ7_fill_53178 ml_2_65 rfl rfl (Nat.le_of_ble_eq_true rfl) rfl hdp (Nat.zero_le _) (Nat.zero_le _) (k1 _ (fun m' h => h))

theorem s2_tally_5 {G : am_G} {dp a b : Nat} {m : am_M} {Q : am_Q} {i3 : Int} {r0 r1 r2 : Nat} {o4 o5 : Option am_V}  (k1 : X G dp a b M2_tally 8 [some (rV (some r0)), some (rV (some r1)), some (rV (some r2)), some (iV (i3)), some (iV (0)), o5] [] m Q)  : X G dp a b M2_tally 5 [some (rV (some r0)), some (rV (some r1)), some (rV (some r2)), some (iV (i3)), o4, o5] [] m Q := by
  refine Y_iconst dX2_tally_5 (by unfold i32; omega) ?_
  refine X_istore dX2_tally_6 (Nat.le_of_ble_eq_true rfl) ?_
  exact k1

theorem s2_tally_8 {G : am_G} {dp a b : Nat} {m : am_M} {Q : am_Q} {i3 i4 : Int} {r0 r1 r2 : Nat} {o5 : Option am_V} {n_r1 n_r2 : Nat} (h1 : am_ar m r1 100 n_r1) (h11 : am_arw m r2 100 n_r2) (k1 : (i3 ≤ i4) → Q (.inl none) m) (k2 : ¬ (i3 ≤ i4) → ((n_r1 : Int) ≤ i4) → Q (.inl none) m) (k3 : ¬ (i3 ≤ i4) → ¬ ((n_r1 : Int) ≤ i4) → ((m.1 r1 (i4).toNat) < 0) → X G dp a b M2_tally 8 [some (rV (some r0)), some (rV (some r1)), some (rV (some r2)), some (iV (i3)), some (iV (wr (i4 + 1))), some (iV (m.1 r1 (i4).toNat))] [] m Q) (k4 : ¬ (i3 ≤ i4) → ¬ ((n_r1 : Int) ≤ i4) → ¬ ((m.1 r1 (i4).toNat) < 0) → ((n_r2 : Int) ≤ (m.1 r1 (i4).toNat)) → X G dp a b M2_tally 8 [some (rV (some r0)), some (rV (some r1)), some (rV (some r2)), some (iV (i3)), some (iV (wr (i4 + 1))), some (iV (m.1 r1 (i4).toNat))] [] m Q) (k5 : ¬ (i3 ≤ i4) → ¬ ((n_r1 : Int) ≤ i4) → ¬ ((m.1 r1 (i4).toNat) < 0) → ¬ ((n_r2 : Int) ≤ (m.1 r1 (i4).toNat)) → X G dp a b M2_tally 8 [some (rV (some r0)), some (rV (some r1)), some (rV (some r2)), some (iV (i3)), some (iV (wr (i4 + 1))), some (iV (m.1 r1 (i4).toNat))] [] ((u2 m.1 r2 (m.1 r1 (i4).toNat).toNat (wr ((m.1 r2 (m.1 r1 (i4).toNat).toNat) + 1))), m.2.1, m.2.2) Q) (h4 : ¬ (i3 ≤ i4) → ¬ ((n_r1 : Int) ≤ i4) → 0 ≤ i4 := by intros; first | omega | (dsimp only at *; omega)) (h5 : ¬ (i3 ≤ i4) → ¬ ((n_r1 : Int) ≤ i4) → i4 < (n_r1 : Int) := by intros; first | omega | (dsimp only at *; omega)) (h9 : ¬ (i3 ≤ i4) → ¬ ((n_r1 : Int) ≤ i4) → ¬ ((m.1 r1 (i4).toNat) < 0) → ¬ ((n_r2 : Int) ≤ (m.1 r1 (i4).toNat)) → 0 ≤ m.1 r1 (i4).toNat := by intros; first | omega | (dsimp only at *; omega)) (h10 : ¬ (i3 ≤ i4) → ¬ ((n_r1 : Int) ≤ i4) → ¬ ((m.1 r1 (i4).toNat) < 0) → ¬ ((n_r2 : Int) ≤ (m.1 r1 (i4).toNat)) → m.1 r1 (i4).toNat < (n_r2 : Int) := by intros; first | omega | (dsimp only at *; omega)) : X G dp a b M2_tally 8 [some (rV (some r0)), some (rV (some r1)), some (rV (some r2)), some (iV (i3)), some (iV (i4)), o5] [] m Q := by
  refine X_iload dX2_tally_8 rfl ?_
  refine X_iload_n dX2_tally_10 rfl rfl ?_
  refine X_icmp_ge (tgt := 53) dX2_tally_11 (by decide) (fun c1 => ?_) (fun c1 => ?_)
  · exact X_vret dX2_tally_53 rfl (k1 c1)
  · refine X_iload dX2_tally_14 rfl ?_
    refine X_aload_n dX2_tally_16 rfl rfl ?_
    refine X_alen dX2_tally_17 (by decide) h1 ?_
    refine X_icmp_ge (tgt := 53) dX2_tally_18 (by decide) (fun c2 => ?_) (fun c2 => ?_)
    · exact X_vret dX2_tally_53 rfl (k2 c1 c2)
    · refine X_aload_n dX2_tally_21 rfl rfl ?_
      refine X_iload dX2_tally_22 rfl ?_
      refine X_iald dX2_tally_24 h1 (h4 c1 c2) (h5 c1 c2) ?_
      refine X_istore dX2_tally_25 (Nat.le_of_ble_eq_true rfl) ?_
      refine X_iload dX2_tally_27 rfl ?_
      refine X_if_lt (tgt := 47) dX2_tally_29 (by decide) (fun c3 => ?_) (fun c3 => ?_)
      · refine X_iinc dX2_tally_47 rfl ?_
        refine X_goto (tgt := 8) dX2_tally_50 (by decide) ?_
        exact (k3 c1 c2 c3)
      · refine X_iload dX2_tally_32 rfl ?_
        refine X_aload_n dX2_tally_34 rfl rfl ?_
        refine X_alen dX2_tally_35 (by decide) (am_rw h11) ?_
        refine X_icmp_ge (tgt := 47) dX2_tally_36 (by decide) (fun c4 => ?_) (fun c4 => ?_)
        · refine X_iinc dX2_tally_47 rfl ?_
          refine X_goto (tgt := 8) dX2_tally_50 (by decide) ?_
          exact (k4 c1 c2 c3 c4)
        · refine X_aload_n dX2_tally_39 rfl rfl ?_
          refine X_iload dX2_tally_40 rfl ?_
          refine X_dup2 dX2_tally_42 rfl rfl ?_
          refine X_iald dX2_tally_43 (am_rw h11) (h9 c1 c2 c3 c4) (h10 c1 c2 c3 c4) ?_
          refine Y_iconst dX2_tally_44 (by unfold i32; omega) ?_
          refine X_iadd dX2_tally_45  ?_
          refine X_iast dX2_tally_46 h11 (h9 c1 c2 c3 c4) (h10 c1 c2 c3 c4) ?_
          refine X_iinc dX2_tally_47 rfl ?_
          refine X_goto (tgt := 8) dX2_tally_50 (by decide) ?_
          exact (k5 c1 c2 c3 c4)

theorem s2_leading_0 {G : am_G} {dp a b : Nat} {m : am_M} {Q : am_Q} {i2 : Int} {r0 r1 : Nat} {o3 o4 : Option am_V}  (k1 : ¬ (i2 = 0) → X G dp a b M2_leading 15 [some (rV (some r0)), some (rV (some r1)), some (iV (i2)), some (iV (0)), some (iV (wr (0 + 1)))] [] m Q) (k2 : (i2 = 0) → X G dp a b M2_leading 15 [some (rV (some r0)), some (rV (some r1)), some (iV (i2)), some (iV (1)), some (iV (wr (1 + 1)))] [] m Q)  : X G dp a b M2_leading 0 [some (rV (some r0)), some (rV (some r1)), some (iV (i2)), o3, o4] [] m Q := by
  refine X_iload_n dX2_leading_0 rfl rfl ?_
  refine X_if_ne (tgt := 8) dX2_leading_1 (by decide) (fun c1 => ?_) (fun c1 => ?_)
  · refine Y_iconst dX2_leading_8 (by unfold i32; omega) ?_
    refine X_istore_n dX2_leading_9 rfl (Nat.le_of_ble_eq_true rfl) ?_
    refine X_iload_n dX2_leading_10 rfl rfl ?_
    refine Y_iconst dX2_leading_11 (by unfold i32; omega) ?_
    refine X_iadd dX2_leading_12  ?_
    refine X_istore dX2_leading_13 (Nat.le_of_ble_eq_true rfl) ?_
    exact (k1 c1)
  · refine Y_iconst dX2_leading_4 (by unfold i32; omega) ?_
    refine X_goto (tgt := 9) dX2_leading_5 (by decide) ?_
    refine X_istore_n dX2_leading_9 rfl (Nat.le_of_ble_eq_true rfl) ?_
    refine X_iload_n dX2_leading_10 rfl rfl ?_
    refine Y_iconst dX2_leading_11 (by unfold i32; omega) ?_
    refine X_iadd dX2_leading_12  ?_
    refine X_istore dX2_leading_13 (Nat.le_of_ble_eq_true rfl) ?_
    exact (k2 c1)

theorem s2_leading_15 {G : am_G} {dp a b : Nat} {m : am_M} {Q : am_Q} {i2 i3 i4 : Int} {r0 r1 : Nat} {n_r1 : Nat} (h1 : am_ob m r0 2) (h2 : am_ar m r1 100 n_r1) (k1 : ((m.1 r0 5) ≤ i4) → Q (.inl (some (iV (i3)))) m) (k2 : ¬ ((m.1 r0 5) ≤ i4) → ((n_r1 : Int) ≤ i4) → Q (.inl (some (iV (i3)))) m) (k3 : ¬ ((m.1 r0 5) ≤ i4) → ¬ ((n_r1 : Int) ≤ i4) → (i4 = i2) → X G dp a b M2_leading 15 [some (rV (some r0)), some (rV (some r1)), some (iV (i2)), some (iV (i3)), some (iV (wr (i4 + 1)))] [] m Q) (k4 : ¬ ((m.1 r0 5) ≤ i4) → ¬ ((n_r1 : Int) ≤ i4) → ¬ (i4 = i2) → ((m.1 r1 (i4).toNat) ≤ (m.1 r1 (i3).toNat)) → X G dp a b M2_leading 15 [some (rV (some r0)), some (rV (some r1)), some (iV (i2)), some (iV (i3)), some (iV (wr (i4 + 1)))] [] m Q) (k5 : ¬ ((m.1 r0 5) ≤ i4) → ¬ ((n_r1 : Int) ≤ i4) → ¬ (i4 = i2) → ¬ ((m.1 r1 (i4).toNat) ≤ (m.1 r1 (i3).toNat)) → X G dp a b M2_leading 15 [some (rV (some r0)), some (rV (some r1)), some (iV (i2)), some (iV (i4)), some (iV (wr (i4 + 1)))] [] m Q) (h5 : ¬ ((m.1 r0 5) ≤ i4) → ¬ ((n_r1 : Int) ≤ i4) → ¬ (i4 = i2) → 0 ≤ i4 := by intros; first | omega | (dsimp only at *; omega)) (h6 : ¬ ((m.1 r0 5) ≤ i4) → ¬ ((n_r1 : Int) ≤ i4) → ¬ (i4 = i2) → i4 < (n_r1 : Int) := by intros; first | omega | (dsimp only at *; omega)) (h7 : ¬ ((m.1 r0 5) ≤ i4) → ¬ ((n_r1 : Int) ≤ i4) → ¬ (i4 = i2) → 0 ≤ i3 := by intros; first | omega | (dsimp only at *; omega)) (h8 : ¬ ((m.1 r0 5) ≤ i4) → ¬ ((n_r1 : Int) ≤ i4) → ¬ (i4 = i2) → i3 < (n_r1 : Int) := by intros; first | omega | (dsimp only at *; omega)) : X G dp a b M2_leading 15 [some (rV (some r0)), some (rV (some r1)), some (iV (i2)), some (iV (i3)), some (iV (i4))] [] m Q := by
  refine X_iload dX2_leading_15 rfl ?_
  refine X_aload_n dX2_leading_17 rfl rfl ?_
  refine X_getI dX2_leading_18 fl_2_27 (by decide) h1 ?_
  refine X_icmp_ge (tgt := 56) dX2_leading_21 (by decide) (fun c1 => ?_) (fun c1 => ?_)
  · refine X_iload_n dX2_leading_56 rfl rfl ?_
    exact X_iret dX2_leading_57 rfl (k1 c1)
  · refine X_iload dX2_leading_24 rfl ?_
    refine X_aload_n dX2_leading_26 rfl rfl ?_
    refine X_alen dX2_leading_27 (by decide) h2 ?_
    refine X_icmp_ge (tgt := 56) dX2_leading_28 (by decide) (fun c2 => ?_) (fun c2 => ?_)
    · refine X_iload_n dX2_leading_56 rfl rfl ?_
      exact X_iret dX2_leading_57 rfl (k2 c1 c2)
    · refine X_iload dX2_leading_31 rfl ?_
      refine X_iload_n dX2_leading_33 rfl rfl ?_
      refine X_icmp_eq (tgt := 50) dX2_leading_34 (by decide) (fun c3 => ?_) (fun c3 => ?_)
      · refine X_iinc dX2_leading_50 rfl ?_
        refine X_goto (tgt := 15) dX2_leading_53 (by decide) ?_
        exact (k3 c1 c2 c3)
      · refine X_aload_n dX2_leading_37 rfl rfl ?_
        refine X_iload dX2_leading_38 rfl ?_
        refine X_iald dX2_leading_40 h2 (h5 c1 c2 c3) (h6 c1 c2 c3) ?_
        refine X_aload_n dX2_leading_41 rfl rfl ?_
        refine X_iload_n dX2_leading_42 rfl rfl ?_
        refine X_iald dX2_leading_43 h2 (h7 c1 c2 c3) (h8 c1 c2 c3) ?_
        refine X_icmp_le (tgt := 50) dX2_leading_44 (by decide) (fun c4 => ?_) (fun c4 => ?_)
        · refine X_iinc dX2_leading_50 rfl ?_
          refine X_goto (tgt := 15) dX2_leading_53 (by decide) ?_
          exact (k4 c1 c2 c3 c4)
        · refine X_iload dX2_leading_47 rfl ?_
          refine X_istore_n dX2_leading_49 rfl (Nat.le_of_ble_eq_true rfl) ?_
          refine X_iinc dX2_leading_50 rfl ?_
          refine X_goto (tgt := 15) dX2_leading_53 (by decide) ?_
          exact (k5 c1 c2 c3 c4)

theorem s2_slip_0 {G : am_G} {dp a b : Nat} {m : am_M} {Q : am_Q} {i1 i2 : Int} {r0 : Nat} {o3 o4 : Option am_V}  (k1 : X G dp a b M2_slip 6 [some (rV (some r0)), some (iV (i1)), some (iV (i2)), some (iV ((-2))), some (iV (0))] [] m Q)  : X G dp a b M2_slip 0 [some (rV (some r0)), some (iV (i1)), some (iV (i2)), o3, o4] [] m Q := by
  refine Y_bipush dX2_slip_0 (by omega) ?_
  refine X_istore_n dX2_slip_2 rfl (Nat.le_of_ble_eq_true rfl) ?_
  refine Y_iconst dX2_slip_3 (by unfold i32; omega) ?_
  refine X_istore dX2_slip_4 (Nat.le_of_ble_eq_true rfl) ?_
  exact k1

theorem s2_slip_6 {G : am_G} {dp a b : Nat} {m : am_M} {Q : am_Q} {i1 i2 i3 i4 : Int} {r0 : Nat} (hdp : 1 ≤ dp) (h1 : am_ob m r0 2) (k1 : ((m.1 r0 5) ≤ i4) → Q (.inl (some (iV (i3)))) m) (k2 : ¬ ((m.1 r0 5) ≤ i4) → (i4 = (m.1 r0 7)) → X G dp a b M2_slip 6 [some (rV (some r0)), some (iV (i1)), some (iV (i2)), some (iV (i3)), some (iV (wr (i4 + 1)))] [] m Q) (k3 : ¬ ((m.1 r0 5) ≤ i4) → ¬ (i4 = (m.1 r0 7)) → ∀ Q' : am_Q, (∀ (z : Int) (m' : am_M), X G dp a b M2_slip 32 [some (rV (some r0)), some (iV (i1)), some (iV (i2)), some (iV (i3)), some (iV (i4))] [iV (z), iV (i3)] m' Q → Q' (.inl (some (iV (z)))) m') → T G (dp - 1) 0 0 M2_lead [rV (some r0), iV (i1), iV (i4)] m Q')  : X G dp a b M2_slip 6 [some (rV (some r0)), some (iV (i1)), some (iV (i2)), some (iV (i3)), some (iV (i4))] [] m Q := by
  refine X_iload dX2_slip_6 rfl ?_
  refine X_aload_n dX2_slip_8 rfl rfl ?_
  refine X_getI dX2_slip_9 fl_2_27 (by decide) h1 ?_
  refine X_icmp_ge (tgt := 50) dX2_slip_12 (by decide) (fun c1 => ?_) (fun c1 => ?_)
  · refine X_iload_n dX2_slip_50 rfl rfl ?_
    exact X_iret dX2_slip_51 rfl (k1 c1)
  · refine X_iload dX2_slip_15 rfl ?_
    refine X_aload_n dX2_slip_17 rfl rfl ?_
    refine X_getI dX2_slip_18 fl_2_34 (by decide) h1 ?_
    refine X_icmp_eq (tgt := 44) dX2_slip_21 (by decide) (fun c2 => ?_) (fun c2 => ?_)
    · refine X_iinc dX2_slip_44 rfl ?_
      refine X_goto (tgt := 6) dX2_slip_47 (by decide) ?_
      exact (k2 c1 c2)
    · refine X_iload_n dX2_slip_24 rfl rfl ?_
      refine X_aload_n dX2_slip_25 rfl rfl ?_
      refine X_iload_n dX2_slip_26 rfl rfl ?_
      refine X_iload dX2_slip_27 rfl ?_
      exact X_callV (As := [iV (i1), iV (i4)]) (rest := [iV (i3)]) (a' := 0) (b' := 0) dX2_slip_29 t2_lead ml_2_71 h1 rfl rfl (Nat.le_of_ble_eq_true rfl) rfl hdp (Nat.zero_le _) (Nat.zero_le _) ((k3 c1 c2) _ (fun z m' h => h))

theorem s2_slip_32 {G : am_G} {dp a b : Nat} {m : am_M} {Q : am_Q} {i1 i2 i3 i4 i90 i91 : Int} {r0 : Nat} (hdp : 1 ≤ dp) (h1 : am_ob m r0 2) (k1 : ∀ Q' : am_Q, (∀ (z : Int) (m' : am_M), X G dp a b M2_slip 39 [some (rV (some r0)), some (iV (i1)), some (iV (i2)), some (iV (i3)), some (iV (i4))] [iV (z), iV (i90), iV (i91)] m' Q → Q' (.inl (some (iV (z)))) m') → T G (dp - 1) 0 0 M2_lead [rV (some r0), iV (i2), iV (i4)] m Q')  : X G dp a b M2_slip 32 [some (rV (some r0)), some (iV (i1)), some (iV (i2)), some (iV (i3)), some (iV (i4))] [iV (i90), iV (i91)] m Q := by
  refine X_aload_n dX2_slip_32 rfl rfl ?_
  refine X_iload_n dX2_slip_33 rfl rfl ?_
  refine X_iload dX2_slip_34 rfl ?_
  exact X_callV (As := [iV (i2), iV (i4)]) (rest := [iV (i90), iV (i91)]) (a' := 0) (b' := 0) dX2_slip_36 t2_lead ml_2_71 h1 rfl rfl (Nat.le_of_ble_eq_true rfl) rfl hdp (Nat.zero_le _) (Nat.zero_le _) (k1 _ (fun z m' h => h))

theorem s2_slip_39 {G : am_G} {dp a b : Nat} {m : am_M} {Q : am_Q} {i1 i2 i3 i4 i90 i91 i92 : Int} {r0 : Nat}  (k1 : X G dp a b M2_slip 6 [some (rV (some r0)), some (iV (i1)), some (iV (i2)), some (iV (max i92 (wr (i91 - i90)))), some (iV (wr (i4 + 1)))] [] m Q)  : X G dp a b M2_slip 39 [some (rV (some r0)), some (iV (i1)), some (iV (i2)), some (iV (i3)), some (iV (i4))] [iV (i90), iV (i91), iV (i92)] m Q := by
  refine X_isub dX2_slip_39  ?_
  refine X_maxI dX2_slip_40 ml_2_74 (Nat.le_of_ble_eq_true rfl) ?_
  refine X_istore_n dX2_slip_43 rfl (Nat.le_of_ble_eq_true rfl) ?_
  refine X_iinc dX2_slip_44 rfl ?_
  refine X_goto (tgt := 6) dX2_slip_47 (by decide) ?_
  exact k1

theorem s2_lead_0 {G : am_G} {dp a b : Nat} {m : am_M} {Q : am_Q} {i1 i2 : Int} {r0 : Nat} (h1 : am_ob m r0 2) (k1 : ¬ (i1 = (m.1 r0 7)) → ¬ (i1 = i2) → Q (.inl (some (iV (0)))) m) (k2 : ¬ (i1 = (m.1 r0 7)) → (i1 = i2) → Q (.inl (some (iV ((-1))))) m) (k3 : (i1 = (m.1 r0 7)) → Q (.inl (some (iV (1)))) m)  : X G dp a b M2_lead 0 [some (rV (some r0)), some (iV (i1)), some (iV (i2))] [] m Q := by
  refine X_iload_n dX2_lead_0 rfl rfl ?_
  refine X_aload_n dX2_lead_1 rfl rfl ?_
  refine X_getI dX2_lead_2 fl_2_34 (by decide) h1 ?_
  refine X_icmp_ne (tgt := 10) dX2_lead_5 (by decide) (fun c1 => ?_) (fun c1 => ?_)
  · refine X_iload_n dX2_lead_10 rfl rfl ?_
    refine X_iload_n dX2_lead_11 rfl rfl ?_
    refine X_icmp_ne (tgt := 19) dX2_lead_12 (by decide) (fun c2 => ?_) (fun c2 => ?_)
    · refine Y_iconst dX2_lead_19 (by unfold i32; omega) ?_
      exact X_iret dX2_lead_20 rfl (k1 c1 c2)
    · refine Y_iconst dX2_lead_15 (by unfold i32; omega) ?_
      refine X_goto (tgt := 20) dX2_lead_16 (by decide) ?_
      exact X_iret dX2_lead_20 rfl (k2 c1 c2)
  · refine Y_iconst dX2_lead_8 (by unfold i32; omega) ?_
    exact X_iret dX2_lead_9 rfl (k3 c1)

theorem s2_mistaken_0 {G : am_G} {dp a b : Nat} {m : am_M} {Q : am_Q} {i1 : Int} {r0 : Nat} {o2 o3 : Option am_V}  (k1 : X G dp a b M2_mistaken 4 [some (rV (some r0)), some (iV (i1)), some (iV (0)), some (iV (0))] [] m Q)  : X G dp a b M2_mistaken 0 [some (rV (some r0)), some (iV (i1)), o2, o3] [] m Q := by
  refine Y_iconst dX2_mistaken_0 (by unfold i32; omega) ?_
  refine X_istore_n dX2_mistaken_1 rfl (Nat.le_of_ble_eq_true rfl) ?_
  refine Y_iconst dX2_mistaken_2 (by unfold i32; omega) ?_
  refine X_istore_n dX2_mistaken_3 rfl (Nat.le_of_ble_eq_true rfl) ?_
  exact k1

theorem s2_mistaken_4 {G : am_G} {dp a b : Nat} {m : am_M} {Q : am_Q} {i1 i2 i3 : Int} {r0 p1 : Nat} {n_p1 : Nat} (h1 : am_ob m r0 2) (h2 : m.2.1 r0 2 = some p1) (h3 : am_ar m p1 100 n_p1) (k1 : (i1 ≤ i3) → Q (.inl (some (iV (i2)))) m) (k2 : ¬ (i1 ≤ i3) → (200 ≤ i3) → Q (.inl (some (iV (i2)))) m) (k3 : ¬ (i1 ≤ i3) → ¬ (200 ≤ i3) → ((m.1 p1 (i3).toNat) ≤ 0) → X G dp a b M2_mistaken 4 [some (rV (some r0)), some (iV (i1)), some (iV (i2)), some (iV (wr (i3 + 1)))] [] m Q) (k4 : ¬ (i1 ≤ i3) → ¬ (200 ≤ i3) → ¬ ((m.1 p1 (i3).toNat) ≤ 0) → X G dp a b M2_mistaken 4 [some (rV (some r0)), some (iV (i1)), some (iV (wr (i2 + 1))), some (iV (wr (i3 + 1)))] [] m Q) (h4 : ¬ (i1 ≤ i3) → ¬ (200 ≤ i3) → 0 ≤ i3 := by intros; first | omega | (dsimp only at *; omega)) (h5 : ¬ (i1 ≤ i3) → ¬ (200 ≤ i3) → i3 < (n_p1 : Int) := by intros; first | omega | (dsimp only at *; omega)) : X G dp a b M2_mistaken 4 [some (rV (some r0)), some (iV (i1)), some (iV (i2)), some (iV (i3))] [] m Q := by
  refine X_iload_n dX2_mistaken_4 rfl rfl ?_
  refine X_iload_n dX2_mistaken_5 rfl rfl ?_
  refine X_icmp_ge (tgt := 34) dX2_mistaken_6 (by decide) (fun c1 => ?_) (fun c1 => ?_)
  · refine X_iload_n dX2_mistaken_34 rfl rfl ?_
    exact X_iret dX2_mistaken_35 rfl (k1 c1)
  · refine X_iload_n dX2_mistaken_9 rfl rfl ?_
    refine Y_sipush dX2_mistaken_10 (by omega) ?_
    refine X_icmp_ge (tgt := 34) dX2_mistaken_13 (by decide) (fun c2 => ?_) (fun c2 => ?_)
    · refine X_iload_n dX2_mistaken_34 rfl rfl ?_
      exact X_iret dX2_mistaken_35 rfl (k2 c1 c2)
    · refine X_aload_n dX2_mistaken_16 rfl rfl ?_
      refine X_getP dX2_mistaken_17 fl_2_18 rfl h1 ?_
      refine am_ptr h2 ?_
      refine X_iload_n dX2_mistaken_20 rfl rfl ?_
      refine X_iald dX2_mistaken_21 h3 (h4 c1 c2) (h5 c1 c2) ?_
      refine X_if_le (tgt := 28) dX2_mistaken_22 (by decide) (fun c3 => ?_) (fun c3 => ?_)
      · refine X_iinc dX2_mistaken_28 rfl ?_
        refine X_goto (tgt := 4) dX2_mistaken_31 (by decide) ?_
        exact (k3 c1 c2 c3)
      · refine X_iinc dX2_mistaken_25 rfl ?_
        refine X_iinc dX2_mistaken_28 rfl ?_
        refine X_goto (tgt := 4) dX2_mistaken_31 (by decide) ?_
        exact (k4 c1 c2 c3)

theorem s2_flipsFor_0 {G : am_G} {dp a b : Nat} {m : am_M} {Q : am_Q} {i1 : Int} {r0 p1 : Nat} {o2 : Option am_V} {n_p1 : Nat} (h1 : am_ob m r0 2) (h2 : m.2.1 r0 4 = some p1) (h3 : am_ar m p1 100 n_p1) (k1 : ((m.1 r0 8) ≤ i1) → Q (.inl (some (iV (wr ((wr (Int.tdiv (wr ((m.1 p1 (m.1 r0 8).toNat) - (m.1 p1 (i1).toNat))) 2)) + 1))))) m) (k2 : ¬ ((m.1 r0 8) ≤ i1) → Q (.inl (some (iV (wr (Int.tdiv (wr ((wr ((m.1 p1 (m.1 r0 8).toNat) - (m.1 p1 (i1).toNat))) + 1)) 2))))) m) (h4 : 0 ≤ m.1 r0 8 := by intros; first | omega | (dsimp only at *; omega)) (h5 : m.1 r0 8 < (n_p1 : Int) := by intros; first | omega | (dsimp only at *; omega)) (h6 : 0 ≤ i1 := by intros; first | omega | (dsimp only at *; omega)) (h7 : i1 < (n_p1 : Int) := by intros; first | omega | (dsimp only at *; omega)) : X G dp a b M2_flipsFor 0 [some (rV (some r0)), some (iV (i1)), o2] [] m Q := by
  refine X_aload_n dX2_flipsFor_0 rfl rfl ?_
  refine X_getP dX2_flipsFor_1 fl_2_24 rfl h1 ?_
  refine am_ptr h2 ?_
  refine X_aload_n dX2_flipsFor_4 rfl rfl ?_
  refine X_getI dX2_flipsFor_5 fl_2_37 (by decide) h1 ?_
  refine X_iald dX2_flipsFor_8 h3 h4 h5 ?_
  refine X_aload_n dX2_flipsFor_9 rfl rfl ?_
  refine X_getP dX2_flipsFor_10 fl_2_24 rfl h1 ?_
  refine am_ptr h2 ?_
  refine X_iload_n dX2_flipsFor_13 rfl rfl ?_
  refine X_iald dX2_flipsFor_14 h3 h6 h7 ?_
  refine X_isub dX2_flipsFor_15  ?_
  refine X_istore_n dX2_flipsFor_16 rfl (Nat.le_of_ble_eq_true rfl) ?_
  refine X_iload_n dX2_flipsFor_17 rfl rfl ?_
  refine X_aload_n dX2_flipsFor_18 rfl rfl ?_
  refine X_getI dX2_flipsFor_19 fl_2_37 (by decide) h1 ?_
  refine X_icmp_ge (tgt := 33) dX2_flipsFor_22 (by decide) (fun c1 => ?_) (fun c1 => ?_)
  · refine X_iload_n dX2_flipsFor_33 rfl rfl ?_
    refine Y_iconst dX2_flipsFor_34 (by unfold i32; omega) ?_
    refine X_idiv dX2_flipsFor_35 (by decide) ?_
    refine Y_iconst dX2_flipsFor_36 (by unfold i32; omega) ?_
    refine X_iadd dX2_flipsFor_37  ?_
    exact X_iret dX2_flipsFor_38 rfl (k1 c1)
  · refine X_iload_n dX2_flipsFor_25 rfl rfl ?_
    refine Y_iconst dX2_flipsFor_26 (by unfold i32; omega) ?_
    refine X_iadd dX2_flipsFor_27  ?_
    refine Y_iconst dX2_flipsFor_28 (by unfold i32; omega) ?_
    refine X_idiv dX2_flipsFor_29 (by decide) ?_
    refine X_goto (tgt := 38) dX2_flipsFor_30 (by decide) ?_
    exact X_iret dX2_flipsFor_38 rfl (k2 c1)

theorem s2_comparedTimes_0 {G : am_G} {dp a b : Nat} {m : am_M} {Q : am_Q} {i1 i2 : Int} {r0 : Nat} (h1 : am_ob m r0 2) (k1 : Q (.inl (some (lV (wrl ((wrl (i2 * i1)) - (wrl (50 * (m.1 r0 9)))))))) m)  : X G dp a b M2_comparedTimes 0 [some (rV (some r0)), some (iV (i1)), some (iV (i2))] [] m Q := by
  refine X_iload_n dX2_comparedTimes_0 rfl rfl ?_
  refine X_i2l dX2_comparedTimes_1 ?_
  refine X_iload_n dX2_comparedTimes_2 rfl rfl ?_
  refine X_i2l dX2_comparedTimes_3 ?_
  refine X_lmul dX2_comparedTimes_4  ?_
  refine X_ldc2 dX2_comparedTimes_5 kc_2_79 (by unfold i64; omega) ?_
  refine X_aload_n dX2_comparedTimes_8 rfl rfl ?_
  refine X_getI dX2_comparedTimes_9 fl_2_40 (by decide) h1 ?_
  refine X_i2l dX2_comparedTimes_12 ?_
  refine X_lmul dX2_comparedTimes_13  ?_
  refine X_lsub dX2_comparedTimes_14  ?_
  exact X_lret dX2_comparedTimes_15 rfl k1

theorem s2_comparedBy_0 {G : am_G} {dp a b : Nat} {m : am_M} {Q : am_Q} {i0 i1 i2 : Int}  (k1 : Q (.inl (some (lV (wrl (i0 * (wr (i1 - (wr (50 * i2))))))))) m)  : X G dp a b M2_comparedBy 0 [some (iV (i0)), some (iV (i1)), some (iV (i2))] [] m Q := by
  refine X_iload_n dX2_comparedBy_0 rfl rfl ?_
  refine X_i2l dX2_comparedBy_1 ?_
  refine X_iload_n dX2_comparedBy_2 rfl rfl ?_
  refine Y_bipush dX2_comparedBy_3 (by omega) ?_
  refine X_iload_n dX2_comparedBy_5 rfl rfl ?_
  refine X_imul dX2_comparedBy_6  ?_
  refine X_isub dX2_comparedBy_7  ?_
  refine X_i2l dX2_comparedBy_8 ?_
  refine X_lmul dX2_comparedBy_9  ?_
  exact X_lret dX2_comparedBy_10 rfl k1

theorem s2_votesOfBoth_0 {G : am_G} {dp a b : Nat} {m : am_M} {Q : am_Q} {i1 : Int} {r0 p1 : Nat} {n_p1 : Nat} (h1 : am_ob m r0 2) (h2 : m.2.1 r0 3 = some p1) (h3 : am_ar m p1 100 n_p1) (k1 : Q (.inl (some (lV (wrl ((m.1 p1 (m.1 r0 7).toNat) + (m.1 p1 (i1).toNat)))))) m) (h4 : 0 ≤ m.1 r0 7 := by intros; first | omega | (dsimp only at *; omega)) (h5 : m.1 r0 7 < (n_p1 : Int) := by intros; first | omega | (dsimp only at *; omega)) (h6 : 0 ≤ i1 := by intros; first | omega | (dsimp only at *; omega)) (h7 : i1 < (n_p1 : Int) := by intros; first | omega | (dsimp only at *; omega)) : X G dp a b M2_votesOfBoth 0 [some (rV (some r0)), some (iV (i1))] [] m Q := by
  refine X_aload_n dX2_votesOfBoth_0 rfl rfl ?_
  refine X_getP dX2_votesOfBoth_1 fl_2_21 rfl h1 ?_
  refine am_ptr h2 ?_
  refine X_aload_n dX2_votesOfBoth_4 rfl rfl ?_
  refine X_getI dX2_votesOfBoth_5 fl_2_34 (by decide) h1 ?_
  refine X_iald dX2_votesOfBoth_8 h3 h4 h5 ?_
  refine X_i2l dX2_votesOfBoth_9 ?_
  refine X_aload_n dX2_votesOfBoth_10 rfl rfl ?_
  refine X_getP dX2_votesOfBoth_11 fl_2_21 rfl h1 ?_
  refine am_ptr h2 ?_
  refine X_iload_n dX2_votesOfBoth_14 rfl rfl ?_
  refine X_iald dX2_votesOfBoth_15 h3 h6 h7 ?_
  refine X_i2l dX2_votesOfBoth_16 ?_
  refine X_ladd dX2_votesOfBoth_17  ?_
  exact X_lret dX2_votesOfBoth_18 rfl k1

theorem s2_polled_0 {G : am_G} {dp a b : Nat} {m : am_M} {Q : am_Q} {i3 i4 l1 : Int} {r0 : Nat} (hdp : 1 ≤ dp) (h1 : am_ob m r0 2) (k1 : (i4 = (m.1 r0 7)) → ∀ Q' : am_Q, (∀ (z : Int) (m' : am_M), X G dp a b M2_polled 21 [some (rV (some r0)), some (lV (l1)), none, some (iV (i3)), some (iV (i4))] [lV (z), lV (l1)] m' Q → Q' (.inl (some (lV (z)))) m') → T G (dp - 1) 0 0 M2_votesOfBoth [rV (some r0), iV (i3)] m Q') (k2 : ¬ (i4 = (m.1 r0 7)) → ¬ (i4 = i3) → Q (.inl (some (lV (l1)))) m) (k3 : ¬ (i4 = (m.1 r0 7)) → (i4 = i3) → ∀ Q' : am_Q, (∀ (z : Int) (m' : am_M), X G dp a b M2_polled 21 [some (rV (some r0)), some (lV (l1)), none, some (iV (i3)), some (iV (i4))] [lV (z), lV (l1)] m' Q → Q' (.inl (some (lV (z)))) m') → T G (dp - 1) 0 0 M2_votesOfBoth [rV (some r0), iV (i3)] m Q')  : X G dp a b M2_polled 0 [some (rV (some r0)), some (lV (l1)), none, some (iV (i3)), some (iV (i4))] [] m Q := by
  refine X_iload dX2_polled_0 rfl ?_
  refine X_aload_n dX2_polled_2 rfl rfl ?_
  refine X_getI dX2_polled_3 fl_2_34 (by decide) h1 ?_
  refine X_icmp_eq (tgt := 15) dX2_polled_6 (by decide) (fun c1 => ?_) (fun c1 => ?_)
  · refine X_lload_n dX2_polled_15 rfl rfl ?_
    refine X_aload_n dX2_polled_16 rfl rfl ?_
    refine X_iload_n dX2_polled_17 rfl rfl ?_
    exact X_callV (As := [iV (i3)]) (rest := [lV (l1)]) (a' := 0) (b' := 0) dX2_polled_18 t2_votesOfBoth ml_2_81 h1 rfl rfl (Nat.le_of_ble_eq_true rfl) rfl hdp (Nat.zero_le _) (Nat.zero_le _) ((k1 c1) _ (fun z m' h => h))
  · refine X_iload dX2_polled_9 rfl ?_
    refine X_iload_n dX2_polled_11 rfl rfl ?_
    refine X_icmp_ne (tgt := 37) dX2_polled_12 (by decide) (fun c2 => ?_) (fun c2 => ?_)
    · refine X_lload_n dX2_polled_37 rfl rfl ?_
      exact X_lret dX2_polled_38 rfl (k2 c1 c2)
    · refine X_lload_n dX2_polled_15 rfl rfl ?_
      refine X_aload_n dX2_polled_16 rfl rfl ?_
      refine X_iload_n dX2_polled_17 rfl rfl ?_
      exact X_callV (As := [iV (i3)]) (rest := [lV (l1)]) (a' := 0) (b' := 0) dX2_polled_18 t2_votesOfBoth ml_2_81 h1 rfl rfl (Nat.le_of_ble_eq_true rfl) rfl hdp (Nat.zero_le _) (Nat.zero_le _) ((k3 c1 c2) _ (fun z m' h => h))

theorem s2_polled_21 {G : am_G} {dp a b : Nat} {m : am_M} {Q : am_Q} {i3 i4 l1 l90 l91 : Int} {r0 p1 : Nat} {n_p1 : Nat} (hdp : 1 ≤ dp) (h1 : am_ob m r0 2) (h2 : m.2.1 r0 3 = some p1) (h3 : am_ar m p1 100 n_p1) (k1 : ∀ Q' : am_Q, (∀ (z : Int) (m' : am_M), X G dp a b M2_polled 36 [some (rV (some r0)), some (lV (l1)), none, some (iV (i3)), some (iV (i4))] [lV (z)] m' Q → Q' (.inl (some (lV (z)))) m') → T G (dp - 1) 0 0 M8_scaled [lV (l91), lV (l90), lV (wrl (2 * (m.1 p1 (i4).toNat)))] m Q') (h4 : 0 ≤ i4 := by intros; first | omega | (dsimp only at *; omega)) (h5 : i4 < (n_p1 : Int) := by intros; first | omega | (dsimp only at *; omega)) : X G dp a b M2_polled 21 [some (rV (some r0)), some (lV (l1)), none, some (iV (i3)), some (iV (i4))] [lV (l90), lV (l91)] m Q := by
  refine X_ldc2 dX2_polled_21 kc_2_85 (by unfold i64; omega) ?_
  refine X_aload_n dX2_polled_24 rfl rfl ?_
  refine X_getP dX2_polled_25 fl_2_21 rfl h1 ?_
  refine am_ptr h2 ?_
  refine X_iload dX2_polled_28 rfl ?_
  refine X_iald dX2_polled_30 h3 h4 h5 ?_
  refine X_i2l dX2_polled_31 ?_
  refine X_lmul dX2_polled_32  ?_
  exact X_callSN (As := [lV (l91), lV (l90), lV (wrl (2 * (m.1 p1 (i4).toNat)))]) (rest := []) (a' := 0) (b' := 0) dX2_polled_33 t8_scaled mn_2_87 rfl rfl (Nat.le_of_ble_eq_true rfl) rfl hdp (Nat.zero_le _) (Nat.zero_le _) (k1 _ (fun z m' h => h))

theorem s2_polled_36 {G : am_G} {dp a b : Nat} {m : am_M} {Q : am_Q} {i3 i4 l1 l90 : Int} {r0 : Nat}  (k1 : Q (.inl (some (lV (l90)))) m)  : X G dp a b M2_polled 36 [some (rV (some r0)), some (lV (l1)), none, some (iV (i3)), some (iV (i4))] [lV (l90)] m Q := by
  exact X_lret dX2_polled_36 rfl k1

