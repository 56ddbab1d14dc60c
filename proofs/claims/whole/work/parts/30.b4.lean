/-! TREES of bytecode, by program: X4_* -/
theorem s4_tell_0 {G : am_G} {dp a b : Nat} {m : am_M} {Q : am_Q} {r0 r1 : Nat} {o2 : Option am_V} (hdp : 1 ≤ dp) (h1 : am_ob m r1 3) (k1 : ∀ Q' : am_Q, (∀ (m' : am_M), X G dp a b M4_tell 4 [some (rV (some r0)), some (rV (some r1)), o2] [] m' Q → Q' (.inl none) m') → T G (dp - 1) 0 0 M3_empty [rV (some r1)] m Q')  : X G dp a b M4_tell 0 [some (rV (some r0)), some (rV (some r1)), o2] [] m Q := by
  refine X_aload_n dX4_tell_0 rfl rfl ?_
  exact X_callV (As := []) (rest := []) (a' := 0) (b' := 0) dX4_tell_1 t3_empty ml_4_9 h1 rfl rfl (Nat.le_of_ble_eq_true rfl) rfl hdp (Nat.zero_le _) (Nat.zero_le _) (k1 _ (fun m' h => h))

theorem s4_tell_4 {G : am_G} {dp a b : Nat} {m : am_M} {Q : am_Q} {r0 r1 : Nat} {o2 : Option am_V} (hdp : 1 ≤ dp)  (k1 : ∀ Q' : am_Q, (∀ (m' : am_M), X G dp a b M4_tell 9 [some (rV (some r0)), some (rV (some r1)), o2] [] m' Q → Q' (.inl none) m') → T G (dp - 1) 0 0 M4_readRace [rV (some r0), rV (some r1)] m Q')  : X G dp a b M4_tell 4 [some (rV (some r0)), some (rV (some r1)), o2] [] m Q := by
  refine X_aload_n dX4_tell_4 rfl rfl ?_
  refine X_aload_n dX4_tell_5 rfl rfl ?_
  exact X_callS (As := [rV (some r0), rV (some r1)]) (rest := []) (a' := 0) (b' := 0) dX4_tell_6 t4_readRace ml_4_14 rfl rfl (Nat.le_of_ble_eq_true rfl) rfl hdp (Nat.zero_le _) (Nat.zero_le _) (k1 _ (fun m' h => h))

theorem s4_tell_9 {G : am_G} {dp a b : Nat} {m : am_M} {Q : am_Q} {r0 r1 : Nat} {o2 : Option am_V}  (k1 : X G dp a b M4_tell 11 [some (rV (some r0)), some (rV (some r1)), some (iV (0))] [] m Q)  : X G dp a b M4_tell 9 [some (rV (some r0)), some (rV (some r1)), o2] [] m Q := by
  refine Y_iconst dX4_tell_9 (by unfold i32; omega) ?_
  refine X_istore_n dX4_tell_10 rfl (Nat.le_of_ble_eq_true rfl) ?_
  exact k1

theorem s4_tell_11 {G : am_G} {dp a b : Nat} {m : am_M} {Q : am_Q} {i2 : Int} {r0 r1 : Nat} (hdp : 1 ≤ dp) (h1 : am_ob m r0 5) (k1 : (600 ≤ i2) → X G dp a b M4_tell 40 [some (rV (some r0)), some (rV (some r1)), some (iV (0))] [] m Q) (k2 : ¬ (600 ≤ i2) → ∀ Q' : am_Q, (∀ (z : Int) (m' : am_M), X G dp a b M4_tell 24 [some (rV (some r0)), some (rV (some r1)), some (iV (i2))] [iV (z)] m' Q → Q' (.inl (some (iV (z)))) m') → T G (dp - 1) 0 0 M6_isWord [rV (some r0), sV (1)] m Q')  : X G dp a b M4_tell 11 [some (rV (some r0)), some (rV (some r1)), some (iV (i2))] [] m Q := by
  refine X_iload_n dX4_tell_11 rfl rfl ?_
  refine Y_sipush dX4_tell_12 (by omega) ?_
  refine X_icmp_ge (tgt := 38) dX4_tell_15 (by decide) (fun c1 => ?_) (fun c1 => ?_)
  · refine Y_iconst dX4_tell_38 (by unfold i32; omega) ?_
    refine X_istore_n dX4_tell_39 rfl (Nat.le_of_ble_eq_true rfl) ?_
    exact (k1 c1)
  · refine X_aload_n dX4_tell_18 rfl rfl ?_
    refine X_ldcS (j := 1) (tx := "race") dX4_tell_19 rfl ?_
    exact X_callV (As := [sV (1)]) (rest := []) (a' := 0) (b' := 0) dX4_tell_21 t6_isWord ml_4_22 h1 rfl rfl (Nat.le_of_ble_eq_true rfl) rfl hdp (Nat.zero_le _) (Nat.zero_le _) ((k2 c1) _ (fun z m' h => h))

theorem s4_tell_24 {G : am_G} {dp a b : Nat} {m : am_M} {Q : am_Q} {i2 i90 : Int} {r0 r1 : Nat} (hdp : 1 ≤ dp)  (k1 : (i90 = 0) → X G dp a b M4_tell 40 [some (rV (some r0)), some (rV (some r1)), some (iV (0))] [] m Q) (k2 : ¬ (i90 = 0) → ∀ Q' : am_Q, (∀ (m' : am_M), X G dp a b M4_tell 32 [some (rV (some r0)), some (rV (some r1)), some (iV (i2))] [] m' Q → Q' (.inl none) m') → T G (dp - 1) 0 0 M4_readRace [rV (some r0), rV (some r1)] m Q')  : X G dp a b M4_tell 24 [some (rV (some r0)), some (rV (some r1)), some (iV (i2))] [iV (i90)] m Q := by
  refine X_if_eq (tgt := 38) dX4_tell_24 (by decide) (fun c1 => ?_) (fun c1 => ?_)
  · refine Y_iconst dX4_tell_38 (by unfold i32; omega) ?_
    refine X_istore_n dX4_tell_39 rfl (Nat.le_of_ble_eq_true rfl) ?_
    exact (k1 c1)
  · refine X_aload_n dX4_tell_27 rfl rfl ?_
    refine X_aload_n dX4_tell_28 rfl rfl ?_
    exact X_callS (As := [rV (some r0), rV (some r1)]) (rest := []) (a' := 0) (b' := 0) dX4_tell_29 t4_readRace ml_4_14 rfl rfl (Nat.le_of_ble_eq_true rfl) rfl hdp (Nat.zero_le _) (Nat.zero_le _) ((k2 c1) _ (fun m' h => h))

theorem s4_tell_32 {G : am_G} {dp a b : Nat} {m : am_M} {Q : am_Q} {i2 : Int} {r0 r1 : Nat}  (k1 : X G dp a b M4_tell 11 [some (rV (some r0)), some (rV (some r1)), some (iV (wr (i2 + 1)))] [] m Q)  : X G dp a b M4_tell 32 [some (rV (some r0)), some (rV (some r1)), some (iV (i2))] [] m Q := by
  refine X_iinc dX4_tell_32 rfl ?_
  refine X_goto (tgt := 11) dX4_tell_35 (by decide) ?_
  exact k1

theorem s4_tell_40 {G : am_G} {dp a b : Nat} {m : am_M} {Q : am_Q} {i2 : Int} {r0 r1 : Nat} (hdp : 1 ≤ dp) (h1 : am_ob m r0 5) (k1 : (600 ≤ i2) → ∀ Q' : am_Q, (∀ (z : Int) (m' : am_M), X G dp a b M4_tell 76 [some (rV (some r0)), some (rV (some r1)), some (iV (i2))] [iV (z)] m' Q → Q' (.inl (some (iV (z)))) m') → T G (dp - 1) 0 0 M6_isFine [rV (some r0)] m Q') (k2 : ¬ (600 ≤ i2) → ∀ Q' : am_Q, (∀ (z : Int) (m' : am_M), X G dp a b M4_tell 51 [some (rV (some r0)), some (rV (some r1)), some (iV (i2))] [iV (z)] m' Q → Q' (.inl (some (iV (z)))) m') → T G (dp - 1) 0 0 M6_isFine [rV (some r0)] m Q')  : X G dp a b M4_tell 40 [some (rV (some r0)), some (rV (some r1)), some (iV (i2))] [] m Q := by
  refine X_iload_n dX4_tell_40 rfl rfl ?_
  refine Y_sipush dX4_tell_41 (by omega) ?_
  refine X_icmp_ge (tgt := 72) dX4_tell_44 (by decide) (fun c1 => ?_) (fun c1 => ?_)
  · refine X_aload_n dX4_tell_72 rfl rfl ?_
    exact X_callV (As := []) (rest := []) (a' := 0) (b' := 0) dX4_tell_73 t6_isFine ml_4_28 h1 rfl rfl (Nat.le_of_ble_eq_true rfl) rfl hdp (Nat.zero_le _) (Nat.zero_le _) ((k1 c1) _ (fun z m' h => h))
  · refine X_aload_n dX4_tell_47 rfl rfl ?_
    exact X_callV (As := []) (rest := []) (a' := 0) (b' := 0) dX4_tell_48 t6_isFine ml_4_28 h1 rfl rfl (Nat.le_of_ble_eq_true rfl) rfl hdp (Nat.zero_le _) (Nat.zero_le _) ((k2 c1) _ (fun z m' h => h))

theorem s4_tell_51 {G : am_G} {dp a b : Nat} {m : am_M} {Q : am_Q} {i2 i90 : Int} {r0 r1 : Nat} (hdp : 1 ≤ dp) (h1 : am_ob m r0 5) (k1 : (i90 = 0) → ∀ Q' : am_Q, (∀ (z : Int) (m' : am_M), X G dp a b M4_tell 76 [some (rV (some r0)), some (rV (some r1)), some (iV (i2))] [iV (z)] m' Q → Q' (.inl (some (iV (z)))) m') → T G (dp - 1) 0 0 M6_isFine [rV (some r0)] m Q') (k2 : ¬ (i90 = 0) → ∀ Q' : am_Q, (∀ (z : Int) (m' : am_M), X G dp a b M4_tell 58 [some (rV (some r0)), some (rV (some r1)), some (iV (i2))] [iV (z)] m' Q → Q' (.inl (some (iV (z)))) m') → T G (dp - 1) 0 0 M6_isEnd [rV (some r0)] m Q')  : X G dp a b M4_tell 51 [some (rV (some r0)), some (rV (some r1)), some (iV (i2))] [iV (i90)] m Q := by
  refine X_if_eq (tgt := 72) dX4_tell_51 (by decide) (fun c1 => ?_) (fun c1 => ?_)
  · refine X_aload_n dX4_tell_72 rfl rfl ?_
    exact X_callV (As := []) (rest := []) (a' := 0) (b' := 0) dX4_tell_73 t6_isFine ml_4_28 h1 rfl rfl (Nat.le_of_ble_eq_true rfl) rfl hdp (Nat.zero_le _) (Nat.zero_le _) ((k1 c1) _ (fun z m' h => h))
  · refine X_aload_n dX4_tell_54 rfl rfl ?_
    exact X_callV (As := []) (rest := []) (a' := 0) (b' := 0) dX4_tell_55 t6_isEnd ml_4_32 h1 rfl rfl (Nat.le_of_ble_eq_true rfl) rfl hdp (Nat.zero_le _) (Nat.zero_le _) ((k2 c1) _ (fun z m' h => h))

theorem s4_tell_58 {G : am_G} {dp a b : Nat} {m : am_M} {Q : am_Q} {i2 i90 : Int} {r0 r1 : Nat} (hdp : 1 ≤ dp) (h1 : am_ob m r0 5) (k1 : ¬ (i90 = 0) → ∀ Q' : am_Q, (∀ (z : Int) (m' : am_M), X G dp a b M4_tell 76 [some (rV (some r0)), some (rV (some r1)), some (iV (i2))] [iV (z)] m' Q → Q' (.inl (some (iV (z)))) m') → T G (dp - 1) 0 0 M6_isFine [rV (some r0)] m Q') (k2 : (i90 = 0) → ∀ Q' : am_Q, (∀ (m' : am_M), X G dp a b M4_tell 66 [some (rV (some r0)), some (rV (some r1)), some (iV (i2))] [] m' Q → Q' (.inl none) m') → T G (dp - 1) 0 0 M4_readLine [rV (some r0), rV (some r1)] m Q')  : X G dp a b M4_tell 58 [some (rV (some r0)), some (rV (some r1)), some (iV (i2))] [iV (i90)] m Q := by
  refine X_if_ne (tgt := 72) dX4_tell_58 (by decide) (fun c1 => ?_) (fun c1 => ?_)
  · refine X_aload_n dX4_tell_72 rfl rfl ?_
    exact X_callV (As := []) (rest := []) (a' := 0) (b' := 0) dX4_tell_73 t6_isFine ml_4_28 h1 rfl rfl (Nat.le_of_ble_eq_true rfl) rfl hdp (Nat.zero_le _) (Nat.zero_le _) ((k1 c1) _ (fun z m' h => h))
  · refine X_aload_n dX4_tell_61 rfl rfl ?_
    refine X_aload_n dX4_tell_62 rfl rfl ?_
    exact X_callS (As := [rV (some r0), rV (some r1)]) (rest := []) (a' := 0) (b' := 0) dX4_tell_63 t4_readLine ml_4_35 rfl rfl (Nat.le_of_ble_eq_true rfl) rfl hdp (Nat.zero_le _) (Nat.zero_le _) ((k2 c1) _ (fun m' h => h))

theorem s4_tell_66 {G : am_G} {dp a b : Nat} {m : am_M} {Q : am_Q} {i2 : Int} {r0 r1 : Nat}  (k1 : X G dp a b M4_tell 40 [some (rV (some r0)), some (rV (some r1)), some (iV (wr (i2 + 1)))] [] m Q)  : X G dp a b M4_tell 66 [some (rV (some r0)), some (rV (some r1)), some (iV (i2))] [] m Q := by
  refine X_iinc dX4_tell_66 rfl ?_
  refine X_goto (tgt := 40) dX4_tell_69 (by decide) ?_
  exact k1

theorem s4_tell_76 {G : am_G} {dp a b : Nat} {m : am_M} {Q : am_Q} {i2 i90 : Int} {r0 r1 : Nat} (hdp : 1 ≤ dp) (h1 : am_ob m r1 3) (k1 : (i90 = 0) → X G dp a b M4_tell 83 [some (rV (some r0)), some (rV (some r1)), some (iV (i2))] [] m Q) (k2 : ¬ (i90 = 0) → ∀ Q' : am_Q, (∀ (m' : am_M), X G dp a b M4_tell 83 [some (rV (some r0)), some (rV (some r1)), some (iV (i2))] [] m' Q → Q' (.inl none) m') → T G (dp - 1) 0 0 M3_reckonAll [rV (some r1)] m Q')  : X G dp a b M4_tell 76 [some (rV (some r0)), some (rV (some r1)), some (iV (i2))] [iV (i90)] m Q := by
  refine X_if_eq (tgt := 83) dX4_tell_76 (by decide) (fun c1 => ?_) (fun c1 => ?_)
  · exact (k1 c1)
  · refine X_aload_n dX4_tell_79 rfl rfl ?_
    exact X_callV (As := []) (rest := []) (a' := 0) (b' := 0) dX4_tell_80 t3_reckonAll ml_4_38 h1 rfl rfl (Nat.le_of_ble_eq_true rfl) rfl hdp (Nat.zero_le _) (Nat.zero_le _) ((k2 c1) _ (fun m' h => h))

theorem s4_tell_83 {G : am_G} {dp a b : Nat} {m : am_M} {Q : am_Q} {i2 : Int} {r0 r1 : Nat}  (k1 : Q (.inl none) m)  : X G dp a b M4_tell 83 [some (rV (some r0)), some (rV (some r1)), some (iV (i2))] [] m Q := by
  exact X_vret dX4_tell_83 rfl k1

theorem s4_readRace_0 {G : am_G} {dp a b : Nat} {m : am_M} {Q : am_Q} {r0 r1 : Nat} {o2 o3 : Option am_V} (hdp : 1 ≤ dp) (h1 : am_ob m r0 5) (k1 : ∀ Q' : am_Q, (∀ (z : Int) (m' : am_M), X G dp a b M4_readRace 6 [some (rV (some r0)), some (rV (some r1)), o2, o3] [iV (z)] m' Q → Q' (.inl (some (iV (z)))) m') → T G (dp - 1) 0 0 M6_isWord [rV (some r0), sV (1)] m Q')  : X G dp a b M4_readRace 0 [some (rV (some r0)), some (rV (some r1)), o2, o3] [] m Q := by
  refine X_aload_n dX4_readRace_0 rfl rfl ?_
  refine X_ldcS (j := 1) (tx := "race") dX4_readRace_1 rfl ?_
  exact X_callV (As := [sV (1)]) (rest := []) (a' := 0) (b' := 0) dX4_readRace_3 t6_isWord ml_4_22 h1 rfl rfl (Nat.le_of_ble_eq_true rfl) rfl hdp (Nat.zero_le _) (Nat.zero_le _) (k1 _ (fun z m' h => h))

theorem s4_readRace_6 {G : am_G} {dp a b : Nat} {m : am_M} {Q : am_Q} {i90 : Int} {r0 r1 : Nat} {o2 o3 : Option am_V} (hdp : 1 ≤ dp) (h1 : am_ob m r1 3) (h2 : am_ob m r0 5) (k1 : ¬ (i90 = 0) → ((m.1 r1 2) < 3) → ∀ Q' : am_Q, (∀ (m' : am_M), X G dp a b M4_readRace 33 [some (rV (some r0)), some (rV (some r1)), o2, o3] [] m' Q → Q' (.inl none) m') → T G (dp - 1) 0 0 M6_step [rV (some r0)] m Q') (k2 : ¬ (i90 = 0) → ¬ ((m.1 r1 2) < 3) → ∀ Q' : am_Q, (∀ (m' : am_M), X G dp a b M4_readRace 28 [some (rV (some r0)), some (rV (some r1)), o2, o3] [] m' Q → Q' (.inl none) m') → T G (dp - 1) 0 0 M6_fail [rV (some r0), iV (3)] m Q') (k3 : (i90 = 0) → ∀ Q' : am_Q, (∀ (m' : am_M), X G dp a b M4_readRace 14 [some (rV (some r0)), some (rV (some r1)), o2, o3] [] m' Q → Q' (.inl none) m') → T G (dp - 1) 0 0 M6_fail [rV (some r0), iV (1)] m Q')  : X G dp a b M4_readRace 6 [some (rV (some r0)), some (rV (some r1)), o2, o3] [iV (i90)] m Q := by
  refine X_if_ne (tgt := 15) dX4_readRace_6 (by decide) (fun c1 => ?_) (fun c1 => ?_)
  · refine X_aload_n dX4_readRace_15 rfl rfl ?_
    refine X_getI dX4_readRace_16 fl_4_45 (by decide) h1 ?_
    refine Y_iconst dX4_readRace_19 (by unfold i32; omega) ?_
    refine X_icmp_lt (tgt := 29) dX4_readRace_20 (by decide) (fun c2 => ?_) (fun c2 => ?_)
    · refine X_aload_n dX4_readRace_29 rfl rfl ?_
      exact X_callV (As := []) (rest := []) (a' := 0) (b' := 0) dX4_readRace_30 t6_step ml_4_49 h2 rfl rfl (Nat.le_of_ble_eq_true rfl) rfl hdp (Nat.zero_le _) (Nat.zero_le _) ((k1 c1 c2) _ (fun m' h => h))
    · refine X_aload_n dX4_readRace_23 rfl rfl ?_
      refine Y_iconst dX4_readRace_24 (by unfold i32; omega) ?_
      exact X_callV (As := [iV (3)]) (rest := []) (a' := 0) (b' := 0) dX4_readRace_25 t6_fail ml_4_41 h2 rfl rfl (Nat.le_of_ble_eq_true rfl) rfl hdp (Nat.zero_le _) (Nat.zero_le _) ((k2 c1 c2) _ (fun m' h => h))
  · refine X_aload_n dX4_readRace_9 rfl rfl ?_
    refine Y_iconst dX4_readRace_10 (by unfold i32; omega) ?_
    exact X_callV (As := [iV (1)]) (rest := []) (a' := 0) (b' := 0) dX4_readRace_11 t6_fail ml_4_41 h2 rfl rfl (Nat.le_of_ble_eq_true rfl) rfl hdp (Nat.zero_le _) (Nat.zero_le _) ((k3 c1) _ (fun m' h => h))

theorem s4_readRace_14 {G : am_G} {dp a b : Nat} {m : am_M} {Q : am_Q} {r0 r1 : Nat} {o2 o3 : Option am_V}  (k1 : Q (.inl none) m)  : X G dp a b M4_readRace 14 [some (rV (some r0)), some (rV (some r1)), o2, o3] [] m Q := by
  exact X_vret dX4_readRace_14 rfl k1

theorem s4_readRace_28 {G : am_G} {dp a b : Nat} {m : am_M} {Q : am_Q} {r0 r1 : Nat} {o2 o3 : Option am_V}  (k1 : Q (.inl none) m)  : X G dp a b M4_readRace 28 [some (rV (some r0)), some (rV (some r1)), o2, o3] [] m Q := by
  exact X_vret dX4_readRace_28 rfl k1

theorem s4_readRace_33 {G : am_G} {dp a b : Nat} {m : am_M} {Q : am_Q} {r0 r1 : Nat} {o2 o3 : Option am_V} (hdp : 1 ≤ dp) (h1 : am_ob m r0 5) (k1 : ∀ Q' : am_Q, (∀ (z : Int) (m' : am_M), X G dp a b M4_readRace 41 [some (rV (some r0)), some (rV (some r1)), o2, o3] [iV (z)] m' Q → Q' (.inl (some (iV (z)))) m') → T G (dp - 1) 0 0 M6_needNumber [rV (some r0), iV (2), iV (4), iV (100000000)] m Q')  : X G dp a b M4_readRace 33 [some (rV (some r0)), some (rV (some r1)), o2, o3] [] m Q := by
  refine X_aload_n dX4_readRace_33 rfl rfl ?_
  refine Y_iconst dX4_readRace_34 (by unfold i32; omega) ?_
  refine Y_iconst dX4_readRace_35 (by unfold i32; omega) ?_
  refine X_ldcI dX4_readRace_36 kc_4_52 (by unfold i32; omega) ?_
  exact X_callV (As := [iV (2), iV (4), iV (100000000)]) (rest := []) (a' := 0) (b' := 0) dX4_readRace_38 t6_needNumber ml_4_53 h1 rfl rfl (Nat.le_of_ble_eq_true rfl) rfl hdp (Nat.zero_le _) (Nat.zero_le _) (k1 _ (fun z m' h => h))

theorem s4_readRace_41 {G : am_G} {dp a b : Nat} {m : am_M} {Q : am_Q} {i90 : Int} {r0 r1 : Nat} {o2 o3 : Option am_V} (hdp : 1 ≤ dp)  (k1 : ∀ Q' : am_Q, (∀ (z : Int) (m' : am_M), X G dp a b M4_readRace 46 [some (rV (some r0)), some (rV (some r1)), some (iV (i90)), o3] [iV (z)] m' Q → Q' (.inl (some (iV (z)))) m') → T G (dp - 1) 0 0 M4_readWay [rV (some r0)] m Q')  : X G dp a b M4_readRace 41 [some (rV (some r0)), some (rV (some r1)), o2, o3] [iV (i90)] m Q := by
  refine X_istore_n dX4_readRace_41 rfl (Nat.le_of_ble_eq_true rfl) ?_
  refine X_aload_n dX4_readRace_42 rfl rfl ?_
  exact X_callS (As := [rV (some r0)]) (rest := []) (a' := 0) (b' := 0) dX4_readRace_43 t4_readWay ml_4_57 rfl rfl (Nat.le_of_ble_eq_true rfl) rfl hdp (Nat.zero_le _) (Nat.zero_le _) (k1 _ (fun z m' h => h))

theorem s4_readRace_46 {G : am_G} {dp a b : Nat} {m : am_M} {Q : am_Q} {i2 i90 : Int} {r0 r1 : Nat} {o3 : Option am_V} (hdp : 1 ≤ dp) (h1 : am_ob m r0 5) (k1 : ∀ Q' : am_Q, (∀ (m' : am_M), X G dp a b M4_readRace 53 [some (rV (some r0)), some (rV (some r1)), some (iV (i2)), some (iV (i90))] [] m' Q → Q' (.inl none) m') → T G (dp - 1) 0 0 M6_needSign [rV (some r0), iV (59)] m Q')  : X G dp a b M4_readRace 46 [some (rV (some r0)), some (rV (some r1)), some (iV (i2)), o3] [iV (i90)] m Q := by
  refine X_istore_n dX4_readRace_46 rfl (Nat.le_of_ble_eq_true rfl) ?_
  refine X_aload_n dX4_readRace_47 rfl rfl ?_
  refine Y_bipush dX4_readRace_48 (by omega) ?_
  exact X_callV (As := [iV (59)]) (rest := []) (a' := 0) (b' := 0) dX4_readRace_50 t6_needSign ml_4_61 h1 rfl rfl (Nat.le_of_ble_eq_true rfl) rfl hdp (Nat.zero_le _) (Nat.zero_le _) (k1 _ (fun m' h => h))

theorem s4_readRace_53 {G : am_G} {dp a b : Nat} {m : am_M} {Q : am_Q} {i2 i3 : Int} {r0 r1 p1 p2 p3 : Nat} {t_p1 n_p1 : Nat} (h2 : m.2.1 r1 0 = some p1) (h3 : t_p1 = 103 ∨ t_p1 = 104) (h4 : am_ar m p1 t_p1 n_p1) (h7 : m.2.1 p1 (m.1 r1 2).toNat = some p2) (h8 : am_obw m p2 2) (h11 : m.2.1 p1 ((u2 m.1 p2 5 (i2)) r1 2).toNat = some p3) (h12 : am_obw m p3 2) (h13 : am_obw m r1 3) (k1 : Q (.inl none) ((u2 (u2 (u2 m.1 p2 5 (i2)) p3 6 (i3)) r1 2 (wr (((u2 (u2 m.1 p2 5 (i2)) p3 6 (i3)) r1 2) + 1))), m.2.1, m.2.2)) (h5 : 0 ≤ m.1 r1 2 := by intros; first | omega | (dsimp only at *; omega)) (h6 : m.1 r1 2 < (n_p1 : Int) := by intros; first | omega | (dsimp only at *; omega)) (h9 : 0 ≤ (u2 m.1 p2 5 (i2)) r1 2 := by intros; first | omega | (dsimp only at *; omega)) (h10 : (u2 m.1 p2 5 (i2)) r1 2 < (n_p1 : Int) := by intros; first | omega | (dsimp only at *; omega)) : X G dp a b M4_readRace 53 [some (rV (some r0)), some (rV (some r1)), some (iV (i2)), some (iV (i3))] [] m Q := by
  refine X_aload_n dX4_readRace_53 rfl rfl ?_
  refine X_getP dX4_readRace_54 fl_4_65 rfl (am_ow h13) ?_
  refine am_ptr h2 ?_
  refine X_aload_n dX4_readRace_57 rfl rfl ?_
  refine X_getI dX4_readRace_58 fl_4_45 (by decide) (am_ow h13) ?_
  refine X_aald dX4_readRace_61 h3 h4 h5 h6 ?_
  refine am_ptr h7 ?_
  refine X_iload_n dX4_readRace_62 rfl rfl ?_
  refine X_putI dX4_readRace_63 fw_4_69 rfl h8 ?_
  refine X_aload_n dX4_readRace_66 rfl rfl ?_
  refine X_getP dX4_readRace_67 fl_4_65 rfl (am_ow h13) ?_
  refine am_ptr h2 ?_
  refine X_aload_n dX4_readRace_70 rfl rfl ?_
  refine X_getI dX4_readRace_71 fl_4_45 (by decide) (am_ow h13) ?_
  refine X_aald dX4_readRace_74 h3 h4 h9 h10 ?_
  refine am_ptr h11 ?_
  refine X_iload_n dX4_readRace_75 rfl rfl ?_
  refine X_putI dX4_readRace_76 fw_4_74 rfl h12 ?_
  refine X_aload_n dX4_readRace_79 rfl rfl ?_
  refine X_dup dX4_readRace_80 rfl ?_
  refine X_getI dX4_readRace_81 fl_4_45 (by decide) (am_ow h13) ?_
  refine Y_iconst dX4_readRace_84 (by unfold i32; omega) ?_
  refine X_iadd dX4_readRace_85  ?_
  refine X_putI dX4_readRace_86 fw_4_45 rfl h13 ?_
  exact X_vret dX4_readRace_89 rfl k1

theorem s4_readWay_0 {G : am_G} {dp a b : Nat} {m : am_M} {Q : am_Q} {r0 : Nat} (hdp : 1 ≤ dp) (h1 : am_ob m r0 5) (k1 : ∀ Q' : am_Q, (∀ (z : Int) (m' : am_M), X G dp a b M4_readWay 6 [some (rV (some r0))] [iV (z)] m' Q → Q' (.inl (some (iV (z)))) m') → T G (dp - 1) 0 0 M6_skipWord [rV (some r0), sV (2)] m Q')  : X G dp a b M4_readWay 0 [some (rV (some r0))] [] m Q := by
  refine X_aload_n dX4_readWay_0 rfl rfl ?_
  refine X_ldcS (j := 2) (tx := "poll") dX4_readWay_1 rfl ?_
  exact X_callV (As := [sV (2)]) (rest := []) (a' := 0) (b' := 0) dX4_readWay_3 t6_skipWord ml_4_79 h1 rfl rfl (Nat.le_of_ble_eq_true rfl) rfl hdp (Nat.zero_le _) (Nat.zero_le _) (k1 _ (fun z m' h => h))

theorem s4_readWay_6 {G : am_G} {dp a b : Nat} {m : am_M} {Q : am_Q} {i90 : Int} {r0 : Nat} (hdp : 1 ≤ dp) (h1 : am_ob m r0 5) (k1 : (i90 = 0) → ∀ Q' : am_Q, (∀ (z : Int) (m' : am_M), X G dp a b M4_readWay 17 [some (rV (some r0))] [iV (z)] m' Q → Q' (.inl (some (iV (z)))) m') → T G (dp - 1) 0 0 M6_skipWord [rV (some r0), sV (3)] m Q') (k2 : ¬ (i90 = 0) → Q (.inl (some (iV (1)))) m)  : X G dp a b M4_readWay 6 [some (rV (some r0))] [iV (i90)] m Q := by
  refine X_if_eq (tgt := 11) dX4_readWay_6 (by decide) (fun c1 => ?_) (fun c1 => ?_)
  · refine X_aload_n dX4_readWay_11 rfl rfl ?_
    refine X_ldcS (j := 3) (tx := "compare") dX4_readWay_12 rfl ?_
    exact X_callV (As := [sV (3)]) (rest := []) (a' := 0) (b' := 0) dX4_readWay_14 t6_skipWord ml_4_79 h1 rfl rfl (Nat.le_of_ble_eq_true rfl) rfl hdp (Nat.zero_le _) (Nat.zero_le _) ((k1 c1) _ (fun z m' h => h))
  · refine Y_iconst dX4_readWay_9 (by unfold i32; omega) ?_
    exact X_iret dX4_readWay_10 rfl (k2 c1)

theorem s4_readWay_17 {G : am_G} {dp a b : Nat} {m : am_M} {Q : am_Q} {i90 : Int} {r0 : Nat} (hdp : 1 ≤ dp) (h1 : am_ob m r0 5) (k1 : ¬ (i90 = 0) → X G dp a b M4_readWay 25 [some (rV (some r0))] [] m Q) (k2 : (i90 = 0) → ∀ Q' : am_Q, (∀ (m' : am_M), X G dp a b M4_readWay 25 [some (rV (some r0))] [] m' Q → Q' (.inl none) m') → T G (dp - 1) 0 0 M6_fail [rV (some r0), iV (1)] m Q')  : X G dp a b M4_readWay 17 [some (rV (some r0))] [iV (i90)] m Q := by
  refine X_if_ne (tgt := 25) dX4_readWay_17 (by decide) (fun c1 => ?_) (fun c1 => ?_)
  · exact (k1 c1)
  · refine X_aload_n dX4_readWay_20 rfl rfl ?_
    refine Y_iconst dX4_readWay_21 (by unfold i32; omega) ?_
    exact X_callV (As := [iV (1)]) (rest := []) (a' := 0) (b' := 0) dX4_readWay_22 t6_fail ml_4_41 h1 rfl rfl (Nat.le_of_ble_eq_true rfl) rfl hdp (Nat.zero_le _) (Nat.zero_le _) ((k2 c1) _ (fun m' h => h))

theorem s4_readWay_25 {G : am_G} {dp a b : Nat} {m : am_M} {Q : am_Q} {r0 : Nat}  (k1 : Q (.inl (some (iV (0)))) m)  : X G dp a b M4_readWay 25 [some (rV (some r0))] [] m Q := by
  refine Y_iconst dX4_readWay_25 (by unfold i32; omega) ?_
  exact X_iret dX4_readWay_26 rfl k1

theorem s4_readLine_0 {G : am_G} {dp a b : Nat} {m : am_M} {Q : am_Q} {r0 r1 : Nat} (hdp : 1 ≤ dp) (h1 : am_ob m r0 5) (k1 : ∀ Q' : am_Q, (∀ (z : Int) (m' : am_M), X G dp a b M4_readLine 6 [some (rV (some r0)), some (rV (some r1))] [iV (z)] m' Q → Q' (.inl (some (iV (z)))) m') → T G (dp - 1) 0 0 M6_skipWord [rV (some r0), sV (4)] m Q')  : X G dp a b M4_readLine 0 [some (rV (some r0)), some (rV (some r1))] [] m Q := by
  refine X_aload_n dX4_readLine_0 rfl rfl ?_
  refine X_ldcS (j := 4) (tx := "ballots") dX4_readLine_1 rfl ?_
  exact X_callV (As := [sV (4)]) (rest := []) (a' := 0) (b' := 0) dX4_readLine_3 t6_skipWord ml_4_79 h1 rfl rfl (Nat.le_of_ble_eq_true rfl) rfl hdp (Nat.zero_le _) (Nat.zero_le _) (k1 _ (fun z m' h => h))

theorem s4_readLine_6 {G : am_G} {dp a b : Nat} {m : am_M} {Q : am_Q} {i90 : Int} {r0 r1 : Nat} (hdp : 1 ≤ dp) (h1 : am_ob m r0 5) (k1 : (i90 = 0) → ∀ Q' : am_Q, (∀ (z : Int) (m' : am_M), X G dp a b M4_readLine 23 [some (rV (some r0)), some (rV (some r1))] [iV (z)] m' Q → Q' (.inl (some (iV (z)))) m') → T G (dp - 1) 0 0 M6_skipWord [rV (some r0), sV (7)] m Q') (k2 : ¬ (i90 = 0) → ∀ Q' : am_Q, (∀ (m' : am_M), X G dp a b M4_readLine 14 [some (rV (some r0)), some (rV (some r1))] [] m' Q → Q' (.inl none) m') → T G (dp - 1) 0 0 M4_readBallots [rV (some r0), rV (some r1)] m Q')  : X G dp a b M4_readLine 6 [some (rV (some r0)), some (rV (some r1))] [iV (i90)] m Q := by
  refine X_if_eq (tgt := 17) dX4_readLine_6 (by decide) (fun c1 => ?_) (fun c1 => ?_)
  · refine X_aload_n dX4_readLine_17 rfl rfl ?_
    refine X_ldcS (j := 7) (tx := "paper") dX4_readLine_18 rfl ?_
    exact X_callV (As := [sV (7)]) (rest := []) (a' := 0) (b' := 0) dX4_readLine_20 t6_skipWord ml_4_79 h1 rfl rfl (Nat.le_of_ble_eq_true rfl) rfl hdp (Nat.zero_le _) (Nat.zero_le _) ((k1 c1) _ (fun z m' h => h))
  · refine X_aload_n dX4_readLine_9 rfl rfl ?_
    refine X_aload_n dX4_readLine_10 rfl rfl ?_
    exact X_callS (As := [rV (some r0), rV (some r1)]) (rest := []) (a' := 0) (b' := 0) dX4_readLine_11 t4_readBallots ml_4_86 rfl rfl (Nat.le_of_ble_eq_true rfl) rfl hdp (Nat.zero_le _) (Nat.zero_le _) ((k2 c1) _ (fun m' h => h))

theorem s4_readLine_14 {G : am_G} {dp a b : Nat} {m : am_M} {Q : am_Q} {r0 r1 : Nat}  (k1 : X G dp a b M4_readLine 118 [some (rV (some r0)), some (rV (some r1))] [] m Q)  : X G dp a b M4_readLine 14 [some (rV (some r0)), some (rV (some r1))] [] m Q := by
  refine X_goto (tgt := 118) dX4_readLine_14 (by decide) ?_
  exact k1

theorem s4_readLine_23 {G : am_G} {dp a b : Nat} {m : am_M} {Q : am_Q} {i90 : Int} {r0 r1 : Nat} (hdp : 1 ≤ dp) (h1 : am_ob m r0 5) (k1 : (i90 = 0) → ∀ Q' : am_Q, (∀ (z : Int) (m' : am_M), X G dp a b M4_readLine 40 [some (rV (some r0)), some (rV (some r1))] [iV (z)] m' Q → Q' (.inl (some (iV (z)))) m') → T G (dp - 1) 0 0 M6_skipWord [rV (some r0), sV (8)] m Q') (k2 : ¬ (i90 = 0) → ∀ Q' : am_Q, (∀ (m' : am_M), X G dp a b M4_readLine 31 [some (rV (some r0)), some (rV (some r1))] [] m' Q → Q' (.inl none) m') → T G (dp - 1) 0 0 M4_readPaper [rV (some r0), rV (some r1)] m Q')  : X G dp a b M4_readLine 23 [some (rV (some r0)), some (rV (some r1))] [iV (i90)] m Q := by
  refine X_if_eq (tgt := 34) dX4_readLine_23 (by decide) (fun c1 => ?_) (fun c1 => ?_)
  · refine X_aload_n dX4_readLine_34 rfl rfl ?_
    refine X_ldcS (j := 8) (tx := "limit") dX4_readLine_35 rfl ?_
    exact X_callV (As := [sV (8)]) (rest := []) (a' := 0) (b' := 0) dX4_readLine_37 t6_skipWord ml_4_79 h1 rfl rfl (Nat.le_of_ble_eq_true rfl) rfl hdp (Nat.zero_le _) (Nat.zero_le _) ((k1 c1) _ (fun z m' h => h))
  · refine X_aload_n dX4_readLine_26 rfl rfl ?_
    refine X_aload_n dX4_readLine_27 rfl rfl ?_
    exact X_callS (As := [rV (some r0), rV (some r1)]) (rest := []) (a' := 0) (b' := 0) dX4_readLine_28 t4_readPaper ml_4_91 rfl rfl (Nat.le_of_ble_eq_true rfl) rfl hdp (Nat.zero_le _) (Nat.zero_le _) ((k2 c1) _ (fun m' h => h))

theorem s4_readLine_31 {G : am_G} {dp a b : Nat} {m : am_M} {Q : am_Q} {r0 r1 : Nat}  (k1 : X G dp a b M4_readLine 118 [some (rV (some r0)), some (rV (some r1))] [] m Q)  : X G dp a b M4_readLine 31 [some (rV (some r0)), some (rV (some r1))] [] m Q := by
  refine X_goto (tgt := 118) dX4_readLine_31 (by decide) ?_
  exact k1

theorem s4_readLine_40 {G : am_G} {dp a b : Nat} {m : am_M} {Q : am_Q} {i90 : Int} {r0 r1 : Nat} (hdp : 1 ≤ dp) (h1 : am_ob m r0 5) (k1 : (i90 = 0) → ∀ Q' : am_Q, (∀ (z : Int) (m' : am_M), X G dp a b M4_readLine 58 [some (rV (some r0)), some (rV (some r1))] [iV (z)] m' Q → Q' (.inl (some (iV (z)))) m') → T G (dp - 1) 0 0 M6_skipWord [rV (some r0), sV (9)] m Q') (k2 : ¬ (i90 = 0) → ∀ Q' : am_Q, (∀ (m' : am_M), X G dp a b M4_readLine 49 [some (rV (some r0)), some (rV (some r1))] [] m' Q → Q' (.inl none) m') → T G (dp - 1) 0 0 M4_readRule [rV (some r0), rV (some r1), iV (0)] m Q')  : X G dp a b M4_readLine 40 [some (rV (some r0)), some (rV (some r1))] [iV (i90)] m Q := by
  refine X_if_eq (tgt := 52) dX4_readLine_40 (by decide) (fun c1 => ?_) (fun c1 => ?_)
  · refine X_aload_n dX4_readLine_52 rfl rfl ?_
    refine X_ldcS (j := 9) (tx := "factor") dX4_readLine_53 rfl ?_
    exact X_callV (As := [sV (9)]) (rest := []) (a' := 0) (b' := 0) dX4_readLine_55 t6_skipWord ml_4_79 h1 rfl rfl (Nat.le_of_ble_eq_true rfl) rfl hdp (Nat.zero_le _) (Nat.zero_le _) ((k1 c1) _ (fun z m' h => h))
  · refine X_aload_n dX4_readLine_43 rfl rfl ?_
    refine X_aload_n dX4_readLine_44 rfl rfl ?_
    refine Y_iconst dX4_readLine_45 (by unfold i32; omega) ?_
    exact X_callS (As := [rV (some r0), rV (some r1), iV (0)]) (rest := []) (a' := 0) (b' := 0) dX4_readLine_46 t4_readRule ml_4_96 rfl rfl (Nat.le_of_ble_eq_true rfl) rfl hdp (Nat.zero_le _) (Nat.zero_le _) ((k2 c1) _ (fun m' h => h))

theorem s4_readLine_49 {G : am_G} {dp a b : Nat} {m : am_M} {Q : am_Q} {r0 r1 : Nat}  (k1 : X G dp a b M4_readLine 118 [some (rV (some r0)), some (rV (some r1))] [] m Q)  : X G dp a b M4_readLine 49 [some (rV (some r0)), some (rV (some r1))] [] m Q := by
  refine X_goto (tgt := 118) dX4_readLine_49 (by decide) ?_
  exact k1

theorem s4_readLine_58 {G : am_G} {dp a b : Nat} {m : am_M} {Q : am_Q} {i90 : Int} {r0 r1 : Nat} (hdp : 1 ≤ dp) (h1 : am_ob m r0 5) (k1 : (i90 = 0) → ∀ Q' : am_Q, (∀ (z : Int) (m' : am_M), X G dp a b M4_readLine 76 [some (rV (some r0)), some (rV (some r1))] [iV (z)] m' Q → Q' (.inl (some (iV (z)))) m') → T G (dp - 1) 0 0 M6_skipWord [rV (some r0), sV (10)] m Q') (k2 : ¬ (i90 = 0) → ∀ Q' : am_Q, (∀ (m' : am_M), X G dp a b M4_readLine 67 [some (rV (some r0)), some (rV (some r1))] [] m' Q → Q' (.inl none) m') → T G (dp - 1) 0 0 M4_readRule [rV (some r0), rV (some r1), iV (1)] m Q')  : X G dp a b M4_readLine 58 [some (rV (some r0)), some (rV (some r1))] [iV (i90)] m Q := by
  refine X_if_eq (tgt := 70) dX4_readLine_58 (by decide) (fun c1 => ?_) (fun c1 => ?_)
  · refine X_aload_n dX4_readLine_70 rfl rfl ?_
    refine X_ldcS (j := 10) (tx := "most") dX4_readLine_71 rfl ?_
    exact X_callV (As := [sV (10)]) (rest := []) (a' := 0) (b' := 0) dX4_readLine_73 t6_skipWord ml_4_79 h1 rfl rfl (Nat.le_of_ble_eq_true rfl) rfl hdp (Nat.zero_le _) (Nat.zero_le _) ((k1 c1) _ (fun z m' h => h))
  · refine X_aload_n dX4_readLine_61 rfl rfl ?_
    refine X_aload_n dX4_readLine_62 rfl rfl ?_
    refine Y_iconst dX4_readLine_63 (by unfold i32; omega) ?_
    exact X_callS (As := [rV (some r0), rV (some r1), iV (1)]) (rest := []) (a' := 0) (b' := 0) dX4_readLine_64 t4_readRule ml_4_96 rfl rfl (Nat.le_of_ble_eq_true rfl) rfl hdp (Nat.zero_le _) (Nat.zero_le _) ((k2 c1) _ (fun m' h => h))

theorem s4_readLine_67 {G : am_G} {dp a b : Nat} {m : am_M} {Q : am_Q} {r0 r1 : Nat}  (k1 : X G dp a b M4_readLine 118 [some (rV (some r0)), some (rV (some r1))] [] m Q)  : X G dp a b M4_readLine 67 [some (rV (some r0)), some (rV (some r1))] [] m Q := by
  refine X_goto (tgt := 118) dX4_readLine_67 (by decide) ?_
  exact k1

theorem s4_readLine_76 {G : am_G} {dp a b : Nat} {m : am_M} {Q : am_Q} {i90 : Int} {r0 r1 : Nat} (hdp : 1 ≤ dp) (h1 : am_ob m r0 5) (k1 : (i90 = 0) → ∀ Q' : am_Q, (∀ (z : Int) (m' : am_M), X G dp a b M4_readLine 94 [some (rV (some r0)), some (rV (some r1))] [iV (z)] m' Q → Q' (.inl (some (iV (z)))) m') → T G (dp - 1) 0 0 M6_skipWord [rV (some r0), sV (11)] m Q') (k2 : ¬ (i90 = 0) → ∀ Q' : am_Q, (∀ (m' : am_M), X G dp a b M4_readLine 85 [some (rV (some r0)), some (rV (some r1))] [] m' Q → Q' (.inl none) m') → T G (dp - 1) 0 0 M4_readRule [rV (some r0), rV (some r1), iV (2)] m Q')  : X G dp a b M4_readLine 76 [some (rV (some r0)), some (rV (some r1))] [iV (i90)] m Q := by
  refine X_if_eq (tgt := 88) dX4_readLine_76 (by decide) (fun c1 => ?_) (fun c1 => ?_)
  · refine X_aload_n dX4_readLine_88 rfl rfl ?_
    refine X_ldcS (j := 11) (tx := "seed") dX4_readLine_89 rfl ?_
    exact X_callV (As := [sV (11)]) (rest := []) (a' := 0) (b' := 0) dX4_readLine_91 t6_skipWord ml_4_79 h1 rfl rfl (Nat.le_of_ble_eq_true rfl) rfl hdp (Nat.zero_le _) (Nat.zero_le _) ((k1 c1) _ (fun z m' h => h))
  · refine X_aload_n dX4_readLine_79 rfl rfl ?_
    refine X_aload_n dX4_readLine_80 rfl rfl ?_
    refine Y_iconst dX4_readLine_81 (by unfold i32; omega) ?_
    exact X_callS (As := [rV (some r0), rV (some r1), iV (2)]) (rest := []) (a' := 0) (b' := 0) dX4_readLine_82 t4_readRule ml_4_96 rfl rfl (Nat.le_of_ble_eq_true rfl) rfl hdp (Nat.zero_le _) (Nat.zero_le _) ((k2 c1) _ (fun m' h => h))

theorem s4_readLine_85 {G : am_G} {dp a b : Nat} {m : am_M} {Q : am_Q} {r0 r1 : Nat}  (k1 : X G dp a b M4_readLine 118 [some (rV (some r0)), some (rV (some r1))] [] m Q)  : X G dp a b M4_readLine 85 [some (rV (some r0)), some (rV (some r1))] [] m Q := by
  refine X_goto (tgt := 118) dX4_readLine_85 (by decide) ?_
  exact k1

theorem s4_readLine_94 {G : am_G} {dp a b : Nat} {m : am_M} {Q : am_Q} {i90 : Int} {r0 r1 : Nat} (hdp : 1 ≤ dp) (h1 : am_ob m r0 5) (k1 : (i90 = 0) → ∀ Q' : am_Q, (∀ (m' : am_M), X G dp a b M4_readLine 118 [some (rV (some r0)), some (rV (some r1))] [] m' Q → Q' (.inl none) m') → T G (dp - 1) 0 0 M6_fail [rV (some r0), iV (1)] m Q') (k2 : ¬ (i90 = 0) → ∀ Q' : am_Q, (∀ (z : Int) (m' : am_M), X G dp a b M4_readLine 107 [some (rV (some r0)), some (rV (some r1))] [iV (z), rV (some r1)] m' Q → Q' (.inl (some (iV (z)))) m') → T G (dp - 1) 0 0 M6_needNumber [rV (some r0), iV (0), iV (999999), iV (100000000)] m Q')  : X G dp a b M4_readLine 94 [some (rV (some r0)), some (rV (some r1))] [iV (i90)] m Q := by
  refine X_if_eq (tgt := 113) dX4_readLine_94 (by decide) (fun c1 => ?_) (fun c1 => ?_)
  · refine X_aload_n dX4_readLine_113 rfl rfl ?_
    refine Y_iconst dX4_readLine_114 (by unfold i32; omega) ?_
    exact X_callV (As := [iV (1)]) (rest := []) (a' := 0) (b' := 0) dX4_readLine_115 t6_fail ml_4_41 h1 rfl rfl (Nat.le_of_ble_eq_true rfl) rfl hdp (Nat.zero_le _) (Nat.zero_le _) ((k1 c1) _ (fun m' h => h))
  · refine X_aload_n dX4_readLine_97 rfl rfl ?_
    refine X_aload_n dX4_readLine_98 rfl rfl ?_
    refine Y_iconst dX4_readLine_99 (by unfold i32; omega) ?_
    refine X_ldcI dX4_readLine_100 kc_4_106 (by unfold i32; omega) ?_
    refine X_ldcI dX4_readLine_102 kc_4_52 (by unfold i32; omega) ?_
    exact X_callV (As := [iV (0), iV (999999), iV (100000000)]) (rest := [rV (some r1)]) (a' := 0) (b' := 0) dX4_readLine_104 t6_needNumber ml_4_53 h1 rfl rfl (Nat.le_of_ble_eq_true rfl) rfl hdp (Nat.zero_le _) (Nat.zero_le _) ((k2 c1) _ (fun z m' h => h))

theorem s4_readLine_107 {G : am_G} {dp a b : Nat} {m : am_M} {Q : am_Q} {i90 : Int} {r0 r1 r91 : Nat} (h1 : am_obw m r91 3) (k1 : X G dp a b M4_readLine 118 [some (rV (some r0)), some (rV (some r1))] [] ((u2 m.1 r91 4 (i90)), m.2.1, m.2.2) Q)  : X G dp a b M4_readLine 107 [some (rV (some r0)), some (rV (some r1))] [iV (i90), rV (some r91)] m Q := by
  refine X_putI dX4_readLine_107 fw_4_107 rfl h1 ?_
  refine X_goto (tgt := 118) dX4_readLine_110 (by decide) ?_
  exact k1

theorem s4_readLine_118 {G : am_G} {dp a b : Nat} {m : am_M} {Q : am_Q} {r0 r1 : Nat} (hdp : 1 ≤ dp) (h1 : am_ob m r0 5) (k1 : ∀ Q' : am_Q, (∀ (m' : am_M), X G dp a b M4_readLine 124 [some (rV (some r0)), some (rV (some r1))] [] m' Q → Q' (.inl none) m') → T G (dp - 1) 0 0 M6_needSign [rV (some r0), iV (59)] m Q')  : X G dp a b M4_readLine 118 [some (rV (some r0)), some (rV (some r1))] [] m Q := by
  refine X_aload_n dX4_readLine_118 rfl rfl ?_
  refine Y_bipush dX4_readLine_119 (by omega) ?_
  exact X_callV (As := [iV (59)]) (rest := []) (a' := 0) (b' := 0) dX4_readLine_121 t6_needSign ml_4_61 h1 rfl rfl (Nat.le_of_ble_eq_true rfl) rfl hdp (Nat.zero_le _) (Nat.zero_le _) (k1 _ (fun m' h => h))

theorem s4_readLine_124 {G : am_G} {dp a b : Nat} {m : am_M} {Q : am_Q} {r0 r1 : Nat}  (k1 : Q (.inl none) m)  : X G dp a b M4_readLine 124 [some (rV (some r0)), some (rV (some r1))] [] m Q := by
  exact X_vret dX4_readLine_124 rfl k1

theorem s4_readBallots_0 {G : am_G} {dp a b : Nat} {m : am_M} {Q : am_Q} {r0 r1 : Nat} {o2 o3 o4 o5 o6 o7 o8 : Option am_V} (hdp : 1 ≤ dp) (h1 : am_ob m r1 3) (h2 : am_ob m r0 5) (k1 : ∀ Q' : am_Q, (∀ (z : Int) (m' : am_M), X G dp a b M4_readBallots 15 [some (rV (some r0)), some (rV (some r1)), o2, o3, o4, o5, o6, o7, o8] [iV (z)] m' Q → Q' (.inl (some (iV (z)))) m') → T G (dp - 1) 0 0 M6_needNumber [rV (some r0), iV (1), iV (99), iV (wr (200 - (m.1 r1 3)))] m Q')  : X G dp a b M4_readBallots 0 [some (rV (some r0)), some (rV (some r1)), o2, o3, o4, o5, o6, o7, o8] [] m Q := by
  refine X_aload_n dX4_readBallots_0 rfl rfl ?_
  refine Y_iconst dX4_readBallots_1 (by unfold i32; omega) ?_
  refine Y_bipush dX4_readBallots_2 (by omega) ?_
  refine Y_sipush dX4_readBallots_4 (by omega) ?_
  refine X_aload_n dX4_readBallots_7 rfl rfl ?_
  refine X_getI dX4_readBallots_8 fl_4_109 (by decide) h1 ?_
  refine X_isub dX4_readBallots_11  ?_
  exact X_callV (As := [iV (1), iV (99), iV (wr (200 - (m.1 r1 3)))]) (rest := []) (a' := 0) (b' := 0) dX4_readBallots_12 t6_needNumber ml_4_53 h2 rfl rfl (Nat.le_of_ble_eq_true rfl) rfl hdp (Nat.zero_le _) (Nat.zero_le _) (k1 _ (fun z m' h => h))

theorem s4_readBallots_15 {G : am_G} {dp a b : Nat} {m : am_M} {Q : am_Q} {i90 : Int} {r0 r1 : Nat} {o2 o3 o4 o5 o6 o7 o8 : Option am_V} (h1 : am_ob m r1 3) (k1 : X G dp a b M4_readBallots 35 [some (rV (some r0)), some (rV (some r1)), some (iV (i90)), some (iV (m.1 r1 3)), some (iV (min (wr ((m.1 r1 3) + i90)) 200)), some (iV (0)), o6, o7, o8] [] m Q)  : X G dp a b M4_readBallots 15 [some (rV (some r0)), some (rV (some r1)), o2, o3, o4, o5, o6, o7, o8] [iV (i90)] m Q := by
  refine X_istore_n dX4_readBallots_15 rfl (Nat.le_of_ble_eq_true rfl) ?_
  refine X_aload_n dX4_readBallots_16 rfl rfl ?_
  refine X_getI dX4_readBallots_17 fl_4_109 (by decide) h1 ?_
  refine X_istore_n dX4_readBallots_20 rfl (Nat.le_of_ble_eq_true rfl) ?_
  refine X_iload_n dX4_readBallots_21 rfl rfl ?_
  refine X_iload_n dX4_readBallots_22 rfl rfl ?_
  refine X_iadd dX4_readBallots_23  ?_
  refine Y_sipush dX4_readBallots_24 (by omega) ?_
  refine X_minI dX4_readBallots_27 ml_4_111 (Nat.le_of_ble_eq_true rfl) ?_
  refine X_istore dX4_readBallots_30 (Nat.le_of_ble_eq_true rfl) ?_
  refine Y_iconst dX4_readBallots_32 (by unfold i32; omega) ?_
  refine X_istore dX4_readBallots_33 (Nat.le_of_ble_eq_true rfl) ?_
  exact k1

theorem s4_readBallots_35 {G : am_G} {dp a b : Nat} {m : am_M} {Q : am_Q} {i2 i3 i4 i5 : Int} {r0 r1 p1 p2 : Nat} {o6 o7 o8 : Option am_V} {t_p1 n_p1 : Nat} (hdp : 1 ≤ dp) (h2 : am_obw m r1 3) (h3 : m.2.1 r1 0 = some p1) (h4 : t_p1 = 103 ∨ t_p1 = 104) (h5 : am_ar m p1 t_p1 n_p1) (h8 : ¬ ((m.1 r1 2) ≤ i5) → ¬ (3 ≤ i5) → m.2.1 p1 (i5).toNat = some p2) (k1 : ((m.1 r1 2) ≤ i5) → Q (.inl none) ((u2 m.1 r1 3 (i4)), m.2.1, m.2.2)) (k2 : ¬ ((m.1 r1 2) ≤ i5) → (3 ≤ i5) → Q (.inl none) ((u2 m.1 r1 3 (i4)), m.2.1, m.2.2)) (k3 : ¬ ((m.1 r1 2) ≤ i5) → ¬ (3 ≤ i5) → ∀ Q' : am_Q, (∀ (z : Int) (m' : am_M), X G dp a b M4_readBallots 65 [some (rV (some r0)), some (rV (some r1)), some (iV (i2)), some (iV (i3)), some (iV (i4)), some (iV (i5)), some (rV (some p2)), o7, o8] [iV (z)] m' Q → Q' (.inl (some (iV (z)))) m') → T G (dp - 1) 0 0 M4_readChoice [rV (some r0), rV (some p2)] m Q') (h6 : ¬ ((m.1 r1 2) ≤ i5) → ¬ (3 ≤ i5) → 0 ≤ i5 := by intros; first | omega | (dsimp only at *; omega)) (h7 : ¬ ((m.1 r1 2) ≤ i5) → ¬ (3 ≤ i5) → i5 < (n_p1 : Int) := by intros; first | omega | (dsimp only at *; omega)) : X G dp a b M4_readBallots 35 [some (rV (some r0)), some (rV (some r1)), some (iV (i2)), some (iV (i3)), some (iV (i4)), some (iV (i5)), o6, o7, o8] [] m Q := by
  refine X_iload dX4_readBallots_35 rfl ?_
  refine X_aload_n dX4_readBallots_37 rfl rfl ?_
  refine X_getI dX4_readBallots_38 fl_4_45 (by decide) (am_ow h2) ?_
  refine X_icmp_ge (tgt := 109) dX4_readBallots_41 (by decide) (fun c1 => ?_) (fun c1 => ?_)
  · refine X_aload_n dX4_readBallots_109 rfl rfl ?_
    refine X_iload dX4_readBallots_110 rfl ?_
    refine X_putI dX4_readBallots_112 fw_4_109 rfl h2 ?_
    exact X_vret dX4_readBallots_115 rfl (k1 c1)
  · refine X_iload dX4_readBallots_44 rfl ?_
    refine Y_iconst dX4_readBallots_46 (by unfold i32; omega) ?_
    refine X_icmp_ge (tgt := 109) dX4_readBallots_47 (by decide) (fun c2 => ?_) (fun c2 => ?_)
    · refine X_aload_n dX4_readBallots_109 rfl rfl ?_
      refine X_iload dX4_readBallots_110 rfl ?_
      refine X_putI dX4_readBallots_112 fw_4_109 rfl h2 ?_
      exact X_vret dX4_readBallots_115 rfl (k2 c1 c2)
    · refine X_aload_n dX4_readBallots_50 rfl rfl ?_
      refine X_getP dX4_readBallots_51 fl_4_65 rfl (am_ow h2) ?_
      refine am_ptr h3 ?_
      refine X_iload dX4_readBallots_54 rfl ?_
      refine X_aald dX4_readBallots_56 h4 h5 (h6 c1 c2) (h7 c1 c2) ?_
      refine am_ptr (h8 c1 c2) ?_
      refine X_astore dX4_readBallots_57 (Nat.le_of_ble_eq_true rfl) ?_
      refine X_aload_n dX4_readBallots_59 rfl rfl ?_
      refine X_aload dX4_readBallots_60 rfl ?_
      exact X_callS (As := [rV (some r0), rV (some p2)]) (rest := []) (a' := 0) (b' := 0) dX4_readBallots_62 t4_readChoice ml_4_117 rfl rfl (Nat.le_of_ble_eq_true rfl) rfl hdp (Nat.zero_le _) (Nat.zero_le _) ((k3 c1 c2) _ (fun z m' h => h))

theorem s4_readBallots_65 {G : am_G} {dp a b : Nat} {m : am_M} {Q : am_Q} {i2 i3 i4 i5 i90 : Int} {r0 r1 r6 : Nat} {o7 o8 : Option am_V}  (k1 : X G dp a b M4_readBallots 70 [some (rV (some r0)), some (rV (some r1)), some (iV (i2)), some (iV (i3)), some (iV (i4)), some (iV (i5)), some (rV (some r6)), some (iV (i90)), some (iV (i3))] [] m Q)  : X G dp a b M4_readBallots 65 [some (rV (some r0)), some (rV (some r1)), some (iV (i2)), some (iV (i3)), some (iV (i4)), some (iV (i5)), some (rV (some r6)), o7, o8] [iV (i90)] m Q := by
  refine X_istore dX4_readBallots_65 (Nat.le_of_ble_eq_true rfl) ?_
  refine X_iload_n dX4_readBallots_67 rfl rfl ?_
  refine X_istore dX4_readBallots_68 (Nat.le_of_ble_eq_true rfl) ?_
  exact k1

theorem s4_readBallots_70 {G : am_G} {dp a b : Nat} {m : am_M} {Q : am_Q} {i2 i3 i4 i5 i7 i8 : Int} {r0 r1 r6 p1 p2 : Nat} {n_p1 n_p2 : Nat} (h1 : am_ob m r6 2) (h2 : m.2.1 r6 0 = some p1) (h3 : am_arw m p1 100 n_p1) (h6 : m.2.1 r6 1 = some p2) (h7 : am_arw m p2 100 n_p2) (k1 : (i4 ≤ i8) → X G dp a b M4_readBallots 35 [some (rV (some r0)), some (rV (some r1)), some (iV (i2)), some (iV (i3)), some (iV (i4)), some (iV (wr (i5 + 1))), some (rV (some r6)), some (iV (i7)), some (iV (i8))] [] m Q) (k2 : ¬ (i4 ≤ i8) → X G dp a b M4_readBallots 70 [some (rV (some r0)), some (rV (some r1)), some (iV (i2)), some (iV (i3)), some (iV (i4)), some (iV (i5)), some (rV (some r6)), some (iV (i7)), some (iV (wr (i8 + 1)))] [] ((u2 (u2 m.1 p1 (i8).toNat (i7)) p2 (i8).toNat (i7)), m.2.1, m.2.2) Q) (h4 : ¬ (i4 ≤ i8) → 0 ≤ i8 := by intros; first | omega | (dsimp only at *; omega)) (h5 : ¬ (i4 ≤ i8) → i8 < (n_p1 : Int) := by intros; first | omega | (dsimp only at *; omega)) (h8 : ¬ (i4 ≤ i8) → i8 < (n_p2 : Int) := by intros; first | omega | (dsimp only at *; omega)) : X G dp a b M4_readBallots 70 [some (rV (some r0)), some (rV (some r1)), some (iV (i2)), some (iV (i3)), some (iV (i4)), some (iV (i5)), some (rV (some r6)), some (iV (i7)), some (iV (i8))] [] m Q := by
  refine X_iload dX4_readBallots_70 rfl ?_
  refine X_iload dX4_readBallots_72 rfl ?_
  refine X_icmp_ge (tgt := 103) dX4_readBallots_74 (by decide) (fun c1 => ?_) (fun c1 => ?_)
  · refine X_iinc dX4_readBallots_103 rfl ?_
    refine X_goto (tgt := 35) dX4_readBallots_106 (by decide) ?_
    exact (k1 c1)
  · refine X_aload dX4_readBallots_77 rfl ?_
    refine X_getP dX4_readBallots_79 fl_4_121 rfl h1 ?_
    refine am_ptr h2 ?_
    refine X_iload dX4_readBallots_82 rfl ?_
    refine X_iload dX4_readBallots_84 rfl ?_
    refine X_iast dX4_readBallots_86 h3 (h4 c1) (h5 c1) ?_
    refine X_aload dX4_readBallots_87 rfl ?_
    refine X_getP dX4_readBallots_89 fl_4_125 rfl h1 ?_
    refine am_ptr h6 ?_
    refine X_iload dX4_readBallots_92 rfl ?_
    refine X_iload dX4_readBallots_94 rfl ?_
    refine X_iast dX4_readBallots_96 h7 (h4 c1) (h8 c1) ?_
    refine X_iinc dX4_readBallots_97 rfl ?_
    refine X_goto (tgt := 70) dX4_readBallots_100 (by decide) ?_
    exact (k2 c1)

theorem s4_readPaper_0 {G : am_G} {dp a b : Nat} {m : am_M} {Q : am_Q} {r0 r1 : Nat} {o2 o3 o4 : Option am_V} (hdp : 1 ≤ dp) (h1 : am_ob m r1 3) (h2 : am_ob m r0 5) (k1 : ∀ Q' : am_Q, (∀ (z : Int) (m' : am_M), X G dp a b M4_readPaper 13 [some (rV (some r0)), some (rV (some r1)), o2, o3, o4] [iV (z)] m' Q → Q' (.inl (some (iV (z)))) m') → T G (dp - 1) 0 0 M6_needNumber [rV (some r0), iV (0), iV (wr ((m.1 r1 3) - 1)), iV (100000000)] m Q')  : X G dp a b M4_readPaper 0 [some (rV (some r0)), some (rV (some r1)), o2, o3, o4] [] m Q := by
  refine X_aload_n dX4_readPaper_0 rfl rfl ?_
  refine Y_iconst dX4_readPaper_1 (by unfold i32; omega) ?_
  refine X_aload_n dX4_readPaper_2 rfl rfl ?_
  refine X_getI dX4_readPaper_3 fl_4_109 (by decide) h1 ?_
  refine Y_iconst dX4_readPaper_6 (by unfold i32; omega) ?_
  refine X_isub dX4_readPaper_7  ?_
  refine X_ldcI dX4_readPaper_8 kc_4_52 (by unfold i32; omega) ?_
  exact X_callV (As := [iV (0), iV (wr ((m.1 r1 3) - 1)), iV (100000000)]) (rest := []) (a' := 0) (b' := 0) dX4_readPaper_10 t6_needNumber ml_4_53 h2 rfl rfl (Nat.le_of_ble_eq_true rfl) rfl hdp (Nat.zero_le _) (Nat.zero_le _) (k1 _ (fun z m' h => h))

theorem s4_readPaper_13 {G : am_G} {dp a b : Nat} {m : am_M} {Q : am_Q} {i90 : Int} {r0 r1 : Nat} {o2 o3 o4 : Option am_V} (hdp : 1 ≤ dp) (h1 : am_ob m r1 3) (h2 : am_ob m r0 5) (k1 : ∀ Q' : am_Q, (∀ (z : Int) (m' : am_M), X G dp a b M4_readPaper 27 [some (rV (some r0)), some (rV (some r1)), some (iV (i90)), o3, o4] [iV (z)] m' Q → Q' (.inl (some (iV (z)))) m') → T G (dp - 1) 0 0 M6_needNumber [rV (some r0), iV (0), iV (wr ((m.1 r1 2) - 1)), iV (100000000)] m Q')  : X G dp a b M4_readPaper 13 [some (rV (some r0)), some (rV (some r1)), o2, o3, o4] [iV (i90)] m Q := by
  refine X_istore_n dX4_readPaper_13 rfl (Nat.le_of_ble_eq_true rfl) ?_
  refine X_aload_n dX4_readPaper_14 rfl rfl ?_
  refine Y_iconst dX4_readPaper_15 (by unfold i32; omega) ?_
  refine X_aload_n dX4_readPaper_16 rfl rfl ?_
  refine X_getI dX4_readPaper_17 fl_4_45 (by decide) h1 ?_
  refine Y_iconst dX4_readPaper_20 (by unfold i32; omega) ?_
  refine X_isub dX4_readPaper_21  ?_
  refine X_ldcI dX4_readPaper_22 kc_4_52 (by unfold i32; omega) ?_
  exact X_callV (As := [iV (0), iV (wr ((m.1 r1 2) - 1)), iV (100000000)]) (rest := []) (a' := 0) (b' := 0) dX4_readPaper_24 t6_needNumber ml_4_53 h2 rfl rfl (Nat.le_of_ble_eq_true rfl) rfl hdp (Nat.zero_le _) (Nat.zero_le _) (k1 _ (fun z m' h => h))

theorem s4_readPaper_27 {G : am_G} {dp a b : Nat} {m : am_M} {Q : am_Q} {i2 i90 : Int} {r0 r1 p1 p2 : Nat} {o3 o4 : Option am_V} {t_p1 n_p1 : Nat} (hdp : 1 ≤ dp) (h1 : am_ob m r1 3) (h2 : m.2.1 r1 0 = some p1) (h3 : t_p1 = 103 ∨ t_p1 = 104) (h4 : am_ar m p1 t_p1 n_p1) (h7 : ¬ ((m.1 r1 2) ≤ i90) → i90 < 3 → m.2.1 p1 (i90).toNat = some p2) (k1 : ((m.1 r1 2) ≤ i90) → Q (.inl none) m) (k2 : ¬ ((m.1 r1 2) ≤ i90) → (i90 < 3) → ∀ Q' : am_Q, (∀ (z : Int) (m' : am_M), X G dp a b M4_readPaper 52 [some (rV (some r0)), some (rV (some r1)), some (iV (i2)), some (iV (i90)), o4] [iV (z)] m' Q → Q' (.inl (some (iV (z)))) m') → T G (dp - 1) 0 0 M4_readChoice [rV (some r0), rV (some p2)] m Q') (k3 : ¬ ((m.1 r1 2) ≤ i90) → ¬ (i90 < 3) → Q (.inl none) m) (h5 : ¬ ((m.1 r1 2) ≤ i90) → i90 < 3 → 0 ≤ i90 := by intros; first | omega | (dsimp only at *; omega)) (h6 : ¬ ((m.1 r1 2) ≤ i90) → i90 < 3 → i90 < (n_p1 : Int) := by intros; first | omega | (dsimp only at *; omega)) : X G dp a b M4_readPaper 27 [some (rV (some r0)), some (rV (some r1)), some (iV (i2)), o3, o4] [iV (i90)] m Q := by
  refine X_istore_n dX4_readPaper_27 rfl (Nat.le_of_ble_eq_true rfl) ?_
  refine X_iload_n dX4_readPaper_28 rfl rfl ?_
  refine X_aload_n dX4_readPaper_29 rfl rfl ?_
  refine X_getI dX4_readPaper_30 fl_4_45 (by decide) h1 ?_
  refine X_icmp_ge (tgt := 41) dX4_readPaper_33 (by decide) (fun c1 => ?_) (fun c1 => ?_)
  · exact X_vret dX4_readPaper_41 rfl (k1 c1)
  · refine X_iload_n dX4_readPaper_36 rfl rfl ?_
    refine Y_iconst dX4_readPaper_37 (by unfold i32; omega) ?_
    refine X_icmp_lt (tgt := 42) dX4_readPaper_38 (by decide) (fun c2 => ?_) (fun c2 => ?_)
    · refine X_aload_n dX4_readPaper_42 rfl rfl ?_
      refine X_aload_n dX4_readPaper_43 rfl rfl ?_
      refine X_getP dX4_readPaper_44 fl_4_65 rfl h1 ?_
      refine am_ptr h2 ?_
      refine X_iload_n dX4_readPaper_47 rfl rfl ?_
      refine X_aald dX4_readPaper_48 h3 h4 (h5 c1 c2) (h6 c1 c2) ?_
      refine am_ptr (h7 c1 c2) ?_
      exact X_callS (As := [rV (some r0), rV (some p2)]) (rest := []) (a' := 0) (b' := 0) dX4_readPaper_49 t4_readChoice ml_4_117 rfl rfl (Nat.le_of_ble_eq_true rfl) rfl hdp (Nat.zero_le _) (Nat.zero_le _) ((k2 c1 c2) _ (fun z m' h => h))
    · exact X_vret dX4_readPaper_41 rfl (k3 c1 c2)

theorem s4_readPaper_52 {G : am_G} {dp a b : Nat} {m : am_M} {Q : am_Q} {i2 i3 i90 : Int} {r0 r1 : Nat} {o4 : Option am_V} (hdp : 1 ≤ dp) (h1 : am_ob m r0 5) (k1 : ∀ Q' : am_Q, (∀ (z : Int) (m' : am_M), X G dp a b M4_readPaper 58 [some (rV (some r0)), some (rV (some r1)), some (iV (i2)), some (iV (i3)), some (iV (i90))] [iV (z)] m' Q → Q' (.inl (some (iV (z)))) m') → T G (dp - 1) 0 0 M6_isFine [rV (some r0)] m Q')  : X G dp a b M4_readPaper 52 [some (rV (some r0)), some (rV (some r1)), some (iV (i2)), some (iV (i3)), o4] [iV (i90)] m Q := by
  refine X_istore dX4_readPaper_52 (Nat.le_of_ble_eq_true rfl) ?_
  refine X_aload_n dX4_readPaper_54 rfl rfl ?_
  exact X_callV (As := []) (rest := []) (a' := 0) (b' := 0) dX4_readPaper_55 t6_isFine ml_4_28 h1 rfl rfl (Nat.le_of_ble_eq_true rfl) rfl hdp (Nat.zero_le _) (Nat.zero_le _) (k1 _ (fun z m' h => h))

theorem s4_readPaper_58 {G : am_G} {dp a b : Nat} {m : am_M} {Q : am_Q} {i2 i3 i4 i90 : Int} {r0 r1 p1 p2 p3 : Nat} {t_p1 n_p1 n_p3 : Nat} (h1 : am_ob m r1 3) (h2 : m.2.1 r1 0 = some p1) (h3 : t_p1 = 103 ∨ t_p1 = 104) (h4 : am_ar m p1 t_p1 n_p1) (h7 : ¬ (i90 = 0) → ¬ ((m.1 r1 3) ≤ i2) → m.2.1 p1 (i3).toNat = some p2) (h8 : ¬ (i90 = 0) → ¬ ((m.1 r1 3) ≤ i2) → am_ob m p2 2) (h9 : ¬ (i90 = 0) → ¬ ((m.1 r1 3) ≤ i2) → m.2.1 p2 1 = some p3) (h10 : ¬ (i90 = 0) → ¬ ((m.1 r1 3) ≤ i2) → am_arw m p3 100 n_p3) (k1 : (i90 = 0) → Q (.inl none) m) (k2 : ¬ (i90 = 0) → ((m.1 r1 3) ≤ i2) → Q (.inl none) m) (k3 : ¬ (i90 = 0) → ¬ ((m.1 r1 3) ≤ i2) → Q (.inl none) ((u2 m.1 p3 (i2).toNat (i4)), m.2.1, m.2.2)) (h5 : ¬ (i90 = 0) → ¬ ((m.1 r1 3) ≤ i2) → 0 ≤ i3 := by intros; first | omega | (dsimp only at *; omega)) (h6 : ¬ (i90 = 0) → ¬ ((m.1 r1 3) ≤ i2) → i3 < (n_p1 : Int) := by intros; first | omega | (dsimp only at *; omega)) (h11 : ¬ (i90 = 0) → ¬ ((m.1 r1 3) ≤ i2) → 0 ≤ i2 := by intros; first | omega | (dsimp only at *; omega)) (h12 : ¬ (i90 = 0) → ¬ ((m.1 r1 3) ≤ i2) → i2 < (n_p3 : Int) := by intros; first | omega | (dsimp only at *; omega)) : X G dp a b M4_readPaper 58 [some (rV (some r0)), some (rV (some r1)), some (iV (i2)), some (iV (i3)), some (iV (i4))] [iV (i90)] m Q := by
  refine X_if_eq (tgt := 82) dX4_readPaper_58 (by decide) (fun c1 => ?_) (fun c1 => ?_)
  · exact X_vret dX4_readPaper_82 rfl (k1 c1)
  · refine X_iload_n dX4_readPaper_61 rfl rfl ?_
    refine X_aload_n dX4_readPaper_62 rfl rfl ?_
    refine X_getI dX4_readPaper_63 fl_4_109 (by decide) h1 ?_
    refine X_icmp_ge (tgt := 82) dX4_readPaper_66 (by decide) (fun c2 => ?_) (fun c2 => ?_)
    · exact X_vret dX4_readPaper_82 rfl (k2 c1 c2)
    · refine X_aload_n dX4_readPaper_69 rfl rfl ?_
      refine X_getP dX4_readPaper_70 fl_4_65 rfl h1 ?_
      refine am_ptr h2 ?_
      refine X_iload_n dX4_readPaper_73 rfl rfl ?_
      refine X_aald dX4_readPaper_74 h3 h4 (h5 c1 c2) (h6 c1 c2) ?_
      refine am_ptr (h7 c1 c2) ?_
      refine X_getP dX4_readPaper_75 fl_4_125 rfl (h8 c1 c2) ?_
      refine am_ptr (h9 c1 c2) ?_
      refine X_iload_n dX4_readPaper_78 rfl rfl ?_
      refine X_iload dX4_readPaper_79 rfl ?_
      refine X_iast dX4_readPaper_81 (h10 c1 c2) (h11 c1 c2) (h12 c1 c2) ?_
      exact X_vret dX4_readPaper_82 rfl (k3 c1 c2)

theorem s4_readRule_0 {G : am_G} {dp a b : Nat} {m : am_M} {Q : am_Q} {i2 : Int} {r0 r1 : Nat} (hdp : 1 ≤ dp)  (k1 : ∀ Q' : am_Q, (∀ (z : Int) (m' : am_M), X G dp a b M4_readRule 7 [some (rV (some r0)), some (rV (some r1)), some (iV (i2))] [iV (z), rV (some r0), iV (i2), rV (some r1)] m' Q → Q' (.inl (some (iV (z)))) m') → T G (dp - 1) 0 0 M8_leastOf [iV (i2)] m Q')  : X G dp a b M4_readRule 0 [some (rV (some r0)), some (rV (some r1)), some (iV (i2))] [] m Q := by
  refine X_aload_n dX4_readRule_0 rfl rfl ?_
  refine X_iload_n dX4_readRule_1 rfl rfl ?_
  refine X_aload_n dX4_readRule_2 rfl rfl ?_
  refine X_iload_n dX4_readRule_3 rfl rfl ?_
  exact X_callSN (As := [iV (i2)]) (rest := [rV (some r0), iV (i2), rV (some r1)]) (a' := 0) (b' := 0) dX4_readRule_4 t8_leastOf mn_4_128 rfl rfl (Nat.le_of_ble_eq_true rfl) rfl hdp (Nat.zero_le _) (Nat.zero_le _) (k1 _ (fun z m' h => h))

theorem s4_readRule_7 {G : am_G} {dp a b : Nat} {m : am_M} {Q : am_Q} {i2 i90 i92 : Int} {r0 r1 r91 r93 : Nat} (hdp : 1 ≤ dp)  (k1 : ∀ Q' : am_Q, (∀ (z : Int) (m' : am_M), X G dp a b M4_readRule 11 [some (rV (some r0)), some (rV (some r1)), some (iV (i2))] [iV (z), iV (i90), rV (some r91), iV (i92), rV (some r93)] m' Q → Q' (.inl (some (iV (z)))) m') → T G (dp - 1) 0 0 M8_mostOf [iV (i2)] m Q')  : X G dp a b M4_readRule 7 [some (rV (some r0)), some (rV (some r1)), some (iV (i2))] [iV (i90), rV (some r91), iV (i92), rV (some r93)] m Q := by
  refine X_iload_n dX4_readRule_7 rfl rfl ?_
  exact X_callSN (As := [iV (i2)]) (rest := [iV (i90), rV (some r91), iV (i92), rV (some r93)]) (a' := 0) (b' := 0) dX4_readRule_8 t8_mostOf mn_4_132 rfl rfl (Nat.le_of_ble_eq_true rfl) rfl hdp (Nat.zero_le _) (Nat.zero_le _) (k1 _ (fun z m' h => h))

theorem s4_readRule_11 {G : am_G} {dp a b : Nat} {m : am_M} {Q : am_Q} {i2 i90 i91 i93 : Int} {r0 r1 r92 r94 : Nat} (hdp : 1 ≤ dp) (h1 : am_ob m r92 5) (k1 : ∀ Q' : am_Q, (∀ (z : Int) (m' : am_M), X G dp a b M4_readRule 16 [some (rV (some r0)), some (rV (some r1)), some (iV (i2))] [iV (z), iV (i93), rV (some r94)] m' Q → Q' (.inl (some (iV (z)))) m') → T G (dp - 1) 0 0 M6_needNumber [rV (some r92), iV (i91), iV (i90), iV (100000000)] m Q')  : X G dp a b M4_readRule 11 [some (rV (some r0)), some (rV (some r1)), some (iV (i2))] [iV (i90), iV (i91), rV (some r92), iV (i93), rV (some r94)] m Q := by
  refine X_ldcI dX4_readRule_11 kc_4_52 (by unfold i32; omega) ?_
  exact X_callV (As := [iV (i91), iV (i90), iV (100000000)]) (rest := [iV (i93), rV (some r94)]) (a' := 0) (b' := 0) dX4_readRule_13 t6_needNumber ml_4_53 h1 rfl rfl (Nat.le_of_ble_eq_true rfl) rfl hdp (Nat.zero_le _) (Nat.zero_le _) (k1 _ (fun z m' h => h))

theorem s4_readRule_16 {G : am_G} {dp a b : Nat} {m : am_M} {Q : am_Q} {i2 i90 i91 : Int} {r0 r1 r92 : Nat} (hdp : 1 ≤ dp) (h1 : am_ob m r92 3) (k1 : ∀ Q' : am_Q, (∀ (m' : am_M), X G dp a b M4_readRule 19 [some (rV (some r0)), some (rV (some r1)), some (iV (i2))] [] m' Q → Q' (.inl none) m') → T G (dp - 1) 0 0 M3_setRule [rV (some r92), iV (i91), iV (i90)] m Q')  : X G dp a b M4_readRule 16 [some (rV (some r0)), some (rV (some r1)), some (iV (i2))] [iV (i90), iV (i91), rV (some r92)] m Q := by
  exact X_callV (As := [iV (i91), iV (i90)]) (rest := []) (a' := 0) (b' := 0) dX4_readRule_16 t3_setRule ml_4_135 h1 rfl rfl (Nat.le_of_ble_eq_true rfl) rfl hdp (Nat.zero_le _) (Nat.zero_le _) (k1 _ (fun m' h => h))

theorem s4_readRule_19 {G : am_G} {dp a b : Nat} {m : am_M} {Q : am_Q} {i2 : Int} {r0 r1 : Nat}  (k1 : Q (.inl none) m)  : X G dp a b M4_readRule 19 [some (rV (some r0)), some (rV (some r1)), some (iV (i2))] [] m Q := by
  exact X_vret dX4_readRule_19 rfl k1

theorem s4_readChoice_0 {G : am_G} {dp a b : Nat} {m : am_M} {Q : am_Q} {r0 r1 : Nat} (hdp : 1 ≤ dp) (h1 : am_ob m r0 5) (k1 : ∀ Q' : am_Q, (∀ (z : Int) (m' : am_M), X G dp a b M4_readChoice 6 [some (rV (some r0)), some (rV (some r1))] [iV (z)] m' Q → Q' (.inl (some (iV (z)))) m') → T G (dp - 1) 0 0 M6_skipWord [rV (some r0), sV (5)] m Q')  : X G dp a b M4_readChoice 0 [some (rV (some r0)), some (rV (some r1))] [] m Q := by
  refine X_aload_n dX4_readChoice_0 rfl rfl ?_
  refine X_ldcS (j := 5) (tx := "blank") dX4_readChoice_1 rfl ?_
  exact X_callV (As := [sV (5)]) (rest := []) (a' := 0) (b' := 0) dX4_readChoice_3 t6_skipWord ml_4_79 h1 rfl rfl (Nat.le_of_ble_eq_true rfl) rfl hdp (Nat.zero_le _) (Nat.zero_le _) (k1 _ (fun z m' h => h))

theorem s4_readChoice_6 {G : am_G} {dp a b : Nat} {m : am_M} {Q : am_Q} {i90 : Int} {r0 r1 : Nat} (hdp : 1 ≤ dp) (h1 : am_ob m r0 5) (k1 : (i90 = 0) → ∀ Q' : am_Q, (∀ (z : Int) (m' : am_M), X G dp a b M4_readChoice 17 [some (rV (some r0)), some (rV (some r1))] [iV (z)] m' Q → Q' (.inl (some (iV (z)))) m') → T G (dp - 1) 0 0 M6_skipWord [rV (some r0), sV (6)] m Q') (k2 : ¬ (i90 = 0) → Q (.inl (some (iV ((-1))))) m)  : X G dp a b M4_readChoice 6 [some (rV (some r0)), some (rV (some r1))] [iV (i90)] m Q := by
  refine X_if_eq (tgt := 11) dX4_readChoice_6 (by decide) (fun c1 => ?_) (fun c1 => ?_)
  · refine X_aload_n dX4_readChoice_11 rfl rfl ?_
    refine X_ldcS (j := 6) (tx := "off") dX4_readChoice_12 rfl ?_
    exact X_callV (As := [sV (6)]) (rest := []) (a' := 0) (b' := 0) dX4_readChoice_14 t6_skipWord ml_4_79 h1 rfl rfl (Nat.le_of_ble_eq_true rfl) rfl hdp (Nat.zero_le _) (Nat.zero_le _) ((k1 c1) _ (fun z m' h => h))
  · refine Y_iconst dX4_readChoice_9 (by unfold i32; omega) ?_
    exact X_iret dX4_readChoice_10 rfl (k2 c1)

theorem s4_readChoice_17 {G : am_G} {dp a b : Nat} {m : am_M} {Q : am_Q} {i90 : Int} {r0 r1 : Nat} (hdp : 1 ≤ dp) (h1 : am_ob m r1 2) (h2 : am_ob m r0 5) (k1 : (i90 = 0) → ∀ Q' : am_Q, (∀ (z : Int) (m' : am_M), X G dp a b M4_readChoice 36 [some (rV (some r0)), some (rV (some r1))] [iV (z)] m' Q → Q' (.inl (some (iV (z)))) m') → T G (dp - 1) 0 0 M6_needNumber [rV (some r0), iV (0), iV (wr ((m.1 r1 5) - 1)), iV (100000000)] m Q') (k2 : ¬ (i90 = 0) → Q (.inl (some (iV ((-2))))) m)  : X G dp a b M4_readChoice 17 [some (rV (some r0)), some (rV (some r1))] [iV (i90)] m Q := by
  refine X_if_eq (tgt := 23) dX4_readChoice_17 (by decide) (fun c1 => ?_) (fun c1 => ?_)
  · refine X_aload_n dX4_readChoice_23 rfl rfl ?_
    refine Y_iconst dX4_readChoice_24 (by unfold i32; omega) ?_
    refine X_aload_n dX4_readChoice_25 rfl rfl ?_
    refine X_getI dX4_readChoice_26 fl_4_69 (by decide) h1 ?_
    refine Y_iconst dX4_readChoice_29 (by unfold i32; omega) ?_
    refine X_isub dX4_readChoice_30  ?_
    refine X_ldcI dX4_readChoice_31 kc_4_52 (by unfold i32; omega) ?_
    exact X_callV (As := [iV (0), iV (wr ((m.1 r1 5) - 1)), iV (100000000)]) (rest := []) (a' := 0) (b' := 0) dX4_readChoice_33 t6_needNumber ml_4_53 h2 rfl rfl (Nat.le_of_ble_eq_true rfl) rfl hdp (Nat.zero_le _) (Nat.zero_le _) ((k1 c1) _ (fun z m' h => h))
  · refine Y_bipush dX4_readChoice_20 (by omega) ?_
    exact X_iret dX4_readChoice_22 rfl (k2 c1)

theorem s4_readChoice_36 {G : am_G} {dp a b : Nat} {m : am_M} {Q : am_Q} {i90 : Int} {r0 r1 : Nat}  (k1 : Q (.inl (some (iV (i90)))) m)  : X G dp a b M4_readChoice 36 [some (rV (some r0)), some (rV (some r1))] [iV (i90)] m Q := by
  exact X_iret dX4_readChoice_36 rfl k1

