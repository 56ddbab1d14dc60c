/-! TREES of bytecode, by program: X9_* -/
theorem s9_bare_0 {G : am_G} {dp a b : Nat} {m : am_M} {Q : am_Q} {r0 : Nat} {o1 : Option am_V}  (k1 : X G dp a b M9_bare 2 [some (rV (some r0)), some (iV (0))] [] m Q)  : X G dp a b M9_bare 0 [some (rV (some r0)), o1] [] m Q := by
  refine Y_iconst dX9_bare_0 (by unfold i32; omega) ?_
  refine X_istore_n dX9_bare_1 rfl (Nat.le_of_ble_eq_true rfl) ?_
  exact k1

theorem s9_bare_2 {G : am_G} {dp a b : Nat} {m : am_M} {Q : am_Q} {i1 : Int} {r0 : Nat} {n_r0 : Nat} (h1 : am_arw m r0 100 n_r0) (k1 : (1514 ≤ i1) → Q (.inl none) ((u2 (u2 (u2 m.1 r0 ((2 : Int)).toNat (50)) r0 ((3 : Int)).toNat (110)) r0 ((4 : Int)).toNat (100)), m.2.1, m.2.2)) (k2 : ¬ (1514 ≤ i1) → X G dp a b M9_bare 2 [some (rV (some r0)), some (iV (wr (i1 + 1)))] [] ((u2 m.1 r0 (i1).toNat (0)), m.2.1, m.2.2) Q) (h2 : 1514 ≤ i1 → 2 < (n_r0 : Int) := by intros; first | omega | (dsimp only at *; omega)) (h3 : 1514 ≤ i1 → 3 < (n_r0 : Int) := by intros; first | omega | (dsimp only at *; omega)) (h4 : 1514 ≤ i1 → 4 < (n_r0 : Int) := by intros; first | omega | (dsimp only at *; omega)) (h5 : ¬ (1514 ≤ i1) → 0 ≤ i1 := by intros; first | omega | (dsimp only at *; omega)) (h6 : ¬ (1514 ≤ i1) → i1 < (n_r0 : Int) := by intros; first | omega | (dsimp only at *; omega)) : X G dp a b M9_bare 2 [some (rV (some r0)), some (iV (i1))] [] m Q := by
  refine X_iload_n dX9_bare_2 rfl rfl ?_
  refine Y_sipush dX9_bare_3 (by omega) ?_
  refine X_icmp_ge (tgt := 19) dX9_bare_6 (by decide) (fun c1 => ?_) (fun c1 => ?_)
  · refine X_aload_n dX9_bare_19 rfl rfl ?_
    refine Y_iconst dX9_bare_20 (by unfold i32; omega) ?_
    refine Y_bipush dX9_bare_21 (by omega) ?_
    refine X_iast dX9_bare_23 h1 (by decide) (h2 c1) ?_
    refine X_aload_n dX9_bare_24 rfl rfl ?_
    refine Y_iconst dX9_bare_25 (by unfold i32; omega) ?_
    refine Y_bipush dX9_bare_26 (by omega) ?_
    refine X_iast dX9_bare_28 h1 (by decide) (h3 c1) ?_
    refine X_aload_n dX9_bare_29 rfl rfl ?_
    refine Y_iconst dX9_bare_30 (by unfold i32; omega) ?_
    refine Y_bipush dX9_bare_31 (by omega) ?_
    refine X_iast dX9_bare_33 h1 (by decide) (h4 c1) ?_
    exact X_vret dX9_bare_34 rfl (k1 c1)
  · refine X_aload_n dX9_bare_9 rfl rfl ?_
    refine X_iload_n dX9_bare_10 rfl rfl ?_
    refine Y_iconst dX9_bare_11 (by unfold i32; omega) ?_
    refine X_iast dX9_bare_12 h1 (h5 c1) (h6 c1) ?_
    refine X_iinc dX9_bare_13 rfl ?_
    refine X_goto (tgt := 2) dX9_bare_16 (by decide) ?_
    exact (k2 c1)

theorem s9_thrown_0 {G : am_G} {dp a b : Nat} {m : am_M} {Q : am_Q} {r0 : Nat} (h1 : am_ob m r0 8) (k1 : Q (.inl (some (iV (m.1 r0 7)))) m)  : X G dp a b M9_thrown 0 [some (rV (some r0))] [] m Q := by
  refine X_aload_n dX9_thrown_0 rfl rfl ?_
  refine X_getI dX9_thrown_1 fl_9_73 (by decide) h1 ?_
  exact X_iret dX9_thrown_4 rfl k1

theorem s9_fail_0 {G : am_G} {dp a b : Nat} {m : am_M} {Q : am_Q} {i1 : Int} {r0 : Nat} (h1 : am_obw m r0 8) (k1 : Q (.inl (some (iV (0)))) ((u2 m.1 r0 7 (i1)), m.2.1, m.2.2))  : X G dp a b M9_fail 0 [some (rV (some r0)), some (iV (i1))] [] m Q := by
  refine X_aload_n dX9_fail_0 rfl rfl ?_
  refine X_iload_n dX9_fail_1 rfl rfl ?_
  refine X_putI dX9_fail_2 fw_9_73 rfl h1 ?_
  refine Y_iconst dX9_fail_5 (by unfold i32; omega) ?_
  exact X_iret dX9_fail_6 rfl k1

theorem s9_isIn_0 {G : am_G} {dp a b : Nat} {m : am_M} {Q : am_Q} {i0 i1 i2 : Int}  (k1 : (i0 < i1) → Q (.inl (some (iV (0)))) m) (k2 : ¬ (i0 < i1) → (i2 < i0) → Q (.inl (some (iV (0)))) m) (k3 : ¬ (i0 < i1) → ¬ (i2 < i0) → Q (.inl (some (iV (1)))) m)  : X G dp a b M9_isIn 0 [some (iV (i0)), some (iV (i1)), some (iV (i2))] [] m Q := by
  refine X_iload_n dX9_isIn_0 rfl rfl ?_
  refine X_iload_n dX9_isIn_1 rfl rfl ?_
  refine X_icmp_lt (tgt := 14) dX9_isIn_2 (by decide) (fun c1 => ?_) (fun c1 => ?_)
  · refine Y_iconst dX9_isIn_14 (by unfold i32; omega) ?_
    exact X_zret dX9_isIn_15 rfl (by decide) (k1 c1)
  · refine X_iload_n dX9_isIn_5 rfl rfl ?_
    refine X_iload_n dX9_isIn_6 rfl rfl ?_
    refine X_icmp_gt (tgt := 14) dX9_isIn_7 (by decide) (fun c2 => ?_) (fun c2 => ?_)
    · refine Y_iconst dX9_isIn_14 (by unfold i32; omega) ?_
      exact X_zret dX9_isIn_15 rfl (by decide) (k2 c1 c2)
    · refine Y_iconst dX9_isIn_10 (by unfold i32; omega) ?_
      refine X_goto (tgt := 15) dX9_isIn_11 (by decide) ?_
      exact X_zret dX9_isIn_15 rfl (by decide) (k3 c1 c2)

theorem s9_copy_0 {G : am_G} {dp a b : Nat} {m : am_M} {Q : am_Q} {r0 r1 : Nat} {o2 : Option am_V}  (k1 : X G dp a b M9_copy 2 [some (rV (some r0)), some (rV (some r1)), some (iV (0))] [] m Q)  : X G dp a b M9_copy 0 [some (rV (some r0)), some (rV (some r1)), o2] [] m Q := by
  refine Y_iconst dX9_copy_0 (by unfold i32; omega) ?_
  refine X_istore_n dX9_copy_1 rfl (Nat.le_of_ble_eq_true rfl) ?_
  exact k1

theorem s9_copy_2 {G : am_G} {dp a b : Nat} {m : am_M} {Q : am_Q} {i2 : Int} {r0 r1 : Nat} {n_r1 n_r0 : Nat} (h1 : am_ar m r1 100 n_r1) (h4 : am_arw m r0 100 n_r0) (k1 : (1514 ≤ i2) → Q (.inl none) m) (k2 : ¬ (1514 ≤ i2) → X G dp a b M9_copy 2 [some (rV (some r0)), some (rV (some r1)), some (iV (wr (i2 + 1)))] [] ((u2 m.1 r0 (i2).toNat (m.1 r1 (i2).toNat)), m.2.1, m.2.2) Q) (h2 : ¬ (1514 ≤ i2) → 0 ≤ i2 := by intros; first | omega | (dsimp only at *; omega)) (h3 : ¬ (1514 ≤ i2) → i2 < (n_r1 : Int) := by intros; first | omega | (dsimp only at *; omega)) (h5 : ¬ (1514 ≤ i2) → i2 < (n_r0 : Int) := by intros; first | omega | (dsimp only at *; omega)) : X G dp a b M9_copy 2 [some (rV (some r0)), some (rV (some r1)), some (iV (i2))] [] m Q := by
  refine X_iload_n dX9_copy_2 rfl rfl ?_
  refine Y_sipush dX9_copy_3 (by omega) ?_
  refine X_icmp_ge (tgt := 21) dX9_copy_6 (by decide) (fun c1 => ?_) (fun c1 => ?_)
  · exact X_vret dX9_copy_21 rfl (k1 c1)
  · refine X_aload_n dX9_copy_9 rfl rfl ?_
    refine X_iload_n dX9_copy_10 rfl rfl ?_
    refine X_aload_n dX9_copy_11 rfl rfl ?_
    refine X_iload_n dX9_copy_12 rfl rfl ?_
    refine X_iald dX9_copy_13 h1 (h2 c1) (h3 c1) ?_
    refine X_iast dX9_copy_14 h4 (h2 c1) (h5 c1) ?_
    refine X_iinc dX9_copy_15 rfl ?_
    refine X_goto (tgt := 2) dX9_copy_18 (by decide) ?_
    exact (k2 c1)

theorem s9_races_0 {G : am_G} {dp a b : Nat} {m : am_M} {Q : am_Q} {r0 p1 : Nat} {n_p1 : Nat} (h1 : am_ob m r0 8) (h2 : m.2.1 r0 0 = some p1) (h3 : am_ar m p1 100 n_p1) (k1 : Q (.inl (some (iV (m.1 p1 ((0 : Int)).toNat)))) m) (h4 : 0 < (n_p1 : Int) := by intros; first | omega | (dsimp only at *; omega)) : X G dp a b M9_races 0 [some (rV (some r0))] [] m Q := by
  refine X_aload_n dX9_races_0 rfl rfl ?_
  refine X_getP dX9_races_1 fl_9_9 rfl h1 ?_
  refine am_ptr h2 ?_
  refine Y_iconst dX9_races_4 (by unfold i32; omega) ?_
  refine X_iald dX9_races_5 h3 (by decide) h4 ?_
  exact X_iret dX9_races_6 rfl k1

theorem s9_ballots_0 {G : am_G} {dp a b : Nat} {m : am_M} {Q : am_Q} {r0 p1 : Nat} {n_p1 : Nat} (h1 : am_ob m r0 8) (h2 : m.2.1 r0 0 = some p1) (h3 : am_ar m p1 100 n_p1) (k1 : Q (.inl (some (iV (m.1 p1 ((1 : Int)).toNat)))) m) (h4 : 1 < (n_p1 : Int) := by intros; first | omega | (dsimp only at *; omega)) : X G dp a b M9_ballots 0 [some (rV (some r0))] [] m Q := by
  refine X_aload_n dX9_ballots_0 rfl rfl ?_
  refine X_getP dX9_ballots_1 fl_9_9 rfl h1 ?_
  refine am_ptr h2 ?_
  refine Y_iconst dX9_ballots_4 (by unfold i32; omega) ?_
  refine X_iald dX9_ballots_5 h3 (by decide) h4 ?_
  exact X_iret dX9_ballots_6 rfl k1

theorem s9_candidates_0 {G : am_G} {dp a b : Nat} {m : am_M} {Q : am_Q} {i1 : Int} {r0 p1 : Nat} {n_p1 : Nat} (h1 : am_ob m r0 8) (h2 : m.2.1 r0 0 = some p1) (h3 : am_ar m p1 100 n_p1) (k1 : Q (.inl (some (iV (m.1 p1 (wr (8 + (wr (2 * i1)))).toNat)))) m) (h4 : 0 ≤ wr (8 + (wr (2 * i1))) := by intros; first | omega | (dsimp only at *; omega)) (h5 : wr (8 + (wr (2 * i1))) < (n_p1 : Int) := by intros; first | omega | (dsimp only at *; omega)) : X G dp a b M9_candidates 0 [some (rV (some r0)), some (iV (i1))] [] m Q := by
  refine X_aload_n dX9_candidates_0 rfl rfl ?_
  refine X_getP dX9_candidates_1 fl_9_9 rfl h1 ?_
  refine am_ptr h2 ?_
  refine Y_bipush dX9_candidates_4 (by omega) ?_
  refine Y_iconst dX9_candidates_6 (by unfold i32; omega) ?_
  refine X_iload_n dX9_candidates_7 rfl rfl ?_
  refine X_imul dX9_candidates_8  ?_
  refine X_iadd dX9_candidates_9  ?_
  refine X_iald dX9_candidates_10 h3 h4 h5 ?_
  exact X_iret dX9_candidates_11 rfl k1

theorem s9_wayOf_0 {G : am_G} {dp a b : Nat} {m : am_M} {Q : am_Q} {i1 : Int} {r0 p1 : Nat} {n_p1 : Nat} (h1 : am_ob m r0 8) (h2 : m.2.1 r0 0 = some p1) (h3 : am_ar m p1 100 n_p1) (k1 : Q (.inl (some (iV (m.1 p1 (wr ((wr (8 + (wr (2 * i1)))) + 1)).toNat)))) m) (h4 : 0 ≤ wr ((wr (8 + (wr (2 * i1)))) + 1) := by intros; first | omega | (dsimp only at *; omega)) (h5 : wr ((wr (8 + (wr (2 * i1)))) + 1) < (n_p1 : Int) := by intros; first | omega | (dsimp only at *; omega)) : X G dp a b M9_wayOf 0 [some (rV (some r0)), some (iV (i1))] [] m Q := by
  refine X_aload_n dX9_wayOf_0 rfl rfl ?_
  refine X_getP dX9_wayOf_1 fl_9_9 rfl h1 ?_
  refine am_ptr h2 ?_
  refine Y_bipush dX9_wayOf_4 (by omega) ?_
  refine Y_iconst dX9_wayOf_6 (by unfold i32; omega) ?_
  refine X_iload_n dX9_wayOf_7 rfl rfl ?_
  refine X_imul dX9_wayOf_8  ?_
  refine X_iadd dX9_wayOf_9  ?_
  refine Y_iconst dX9_wayOf_10 (by unfold i32; omega) ?_
  refine X_iadd dX9_wayOf_11  ?_
  refine X_iald dX9_wayOf_12 h3 h4 h5 ?_
  exact X_iret dX9_wayOf_13 rfl k1

theorem s9_isRace_0 {G : am_G} {dp a b : Nat} {m : am_M} {Q : am_Q} {i1 : Int} {r0 : Nat} (hdp : 1 ≤ dp) (h1 : am_ob m r0 8) (k1 : ∀ Q' : am_Q, (∀ (z : Int) (m' : am_M), X G dp a b M9_isRace 6 [some (rV (some r0)), some (iV (i1))] [iV (z), iV (0), iV (i1)] m' Q → Q' (.inl (some (iV (z)))) m') → T G (dp - 1) 0 0 M9_races [rV (some r0)] m Q')  : X G dp a b M9_isRace 0 [some (rV (some r0)), some (iV (i1))] [] m Q := by
  refine X_iload_n dX9_isRace_0 rfl rfl ?_
  refine Y_iconst dX9_isRace_1 (by unfold i32; omega) ?_
  refine X_aload_n dX9_isRace_2 rfl rfl ?_
  exact X_callV (As := []) (rest := [iV (0), iV (i1)]) (a' := 0) (b' := 0) dX9_isRace_3 t9_races ml_9_76 h1 rfl rfl (Nat.le_of_ble_eq_true rfl) rfl hdp (Nat.zero_le _) (Nat.zero_le _) (k1 _ (fun z m' h => h))

theorem s9_isRace_6 {G : am_G} {dp a b : Nat} {m : am_M} {Q : am_Q} {i1 i90 i91 i92 : Int} {r0 : Nat} (hdp : 1 ≤ dp)  (k1 : ∀ Q' : am_Q, (∀ (z : Int) (m' : am_M), X G dp a b M9_isRace 11 [some (rV (some r0)), some (iV (i1))] [iV (z)] m' Q → Q' (.inl (some (iV (z)))) m') → T G (dp - 1) 0 0 M9_isIn [iV (i92), iV (i91), iV (wr (i90 - 1))] m Q')  : X G dp a b M9_isRace 6 [some (rV (some r0)), some (iV (i1))] [iV (i90), iV (i91), iV (i92)] m Q := by
  refine Y_iconst dX9_isRace_6 (by unfold i32; omega) ?_
  refine X_isub dX9_isRace_7  ?_
  exact X_callS (As := [iV (i92), iV (i91), iV (wr (i90 - 1))]) (rest := []) (a' := 0) (b' := 0) dX9_isRace_8 t9_isIn ml_9_80 rfl rfl (Nat.le_of_ble_eq_true rfl) rfl hdp (Nat.zero_le _) (Nat.zero_le _) (k1 _ (fun z m' h => h))

theorem s9_isRace_11 {G : am_G} {dp a b : Nat} {m : am_M} {Q : am_Q} {i1 i90 : Int} {r0 : Nat}  (k1 : Q (.inl (some (iV (i90)))) m) (h1 : i90 = 0 ∨ i90 = 1 := by intros; first | omega | (dsimp only at *; omega)) : X G dp a b M9_isRace 11 [some (rV (some r0)), some (iV (i1))] [iV (i90)] m Q := by
  exact X_zret dX9_isRace_11 rfl h1 k1

theorem s9_isBallot_0 {G : am_G} {dp a b : Nat} {m : am_M} {Q : am_Q} {i1 : Int} {r0 : Nat} (hdp : 1 ≤ dp) (h1 : am_ob m r0 8) (k1 : ∀ Q' : am_Q, (∀ (z : Int) (m' : am_M), X G dp a b M9_isBallot 6 [some (rV (some r0)), some (iV (i1))] [iV (z), iV (0), iV (i1)] m' Q → Q' (.inl (some (iV (z)))) m') → T G (dp - 1) 0 0 M9_ballots [rV (some r0)] m Q')  : X G dp a b M9_isBallot 0 [some (rV (some r0)), some (iV (i1))] [] m Q := by
  refine X_iload_n dX9_isBallot_0 rfl rfl ?_
  refine Y_iconst dX9_isBallot_1 (by unfold i32; omega) ?_
  refine X_aload_n dX9_isBallot_2 rfl rfl ?_
  exact X_callV (As := []) (rest := [iV (0), iV (i1)]) (a' := 0) (b' := 0) dX9_isBallot_3 t9_ballots ml_9_84 h1 rfl rfl (Nat.le_of_ble_eq_true rfl) rfl hdp (Nat.zero_le _) (Nat.zero_le _) (k1 _ (fun z m' h => h))

theorem s9_isBallot_6 {G : am_G} {dp a b : Nat} {m : am_M} {Q : am_Q} {i1 i90 i91 i92 : Int} {r0 : Nat} (hdp : 1 ≤ dp)  (k1 : ∀ Q' : am_Q, (∀ (z : Int) (m' : am_M), X G dp a b M9_isBallot 11 [some (rV (some r0)), some (iV (i1))] [iV (z)] m' Q → Q' (.inl (some (iV (z)))) m') → T G (dp - 1) 0 0 M9_isIn [iV (i92), iV (i91), iV (wr (i90 - 1))] m Q')  : X G dp a b M9_isBallot 6 [some (rV (some r0)), some (iV (i1))] [iV (i90), iV (i91), iV (i92)] m Q := by
  refine Y_iconst dX9_isBallot_6 (by unfold i32; omega) ?_
  refine X_isub dX9_isBallot_7  ?_
  exact X_callS (As := [iV (i92), iV (i91), iV (wr (i90 - 1))]) (rest := []) (a' := 0) (b' := 0) dX9_isBallot_8 t9_isIn ml_9_80 rfl rfl (Nat.le_of_ble_eq_true rfl) rfl hdp (Nat.zero_le _) (Nat.zero_le _) (k1 _ (fun z m' h => h))

theorem s9_isBallot_11 {G : am_G} {dp a b : Nat} {m : am_M} {Q : am_Q} {i1 i90 : Int} {r0 : Nat}  (k1 : Q (.inl (some (iV (i90)))) m) (h1 : i90 = 0 ∨ i90 = 1 := by intros; first | omega | (dsimp only at *; omega)) : X G dp a b M9_isBallot 11 [some (rV (some r0)), some (iV (i1))] [iV (i90)] m Q := by
  exact X_zret dX9_isBallot_11 rfl h1 k1

theorem s9_isCandidate_0 {G : am_G} {dp a b : Nat} {m : am_M} {Q : am_Q} {i1 i2 : Int} {r0 : Nat} (hdp : 1 ≤ dp) (h1 : am_ob m r0 8) (k1 : ∀ Q' : am_Q, (∀ (z : Int) (m' : am_M), X G dp a b M9_isCandidate 7 [some (rV (some r0)), some (iV (i1)), some (iV (i2))] [iV (z), iV (0), iV (i2)] m' Q → Q' (.inl (some (iV (z)))) m') → T G (dp - 1) 0 0 M9_candidates [rV (some r0), iV (i1)] m Q')  : X G dp a b M9_isCandidate 0 [some (rV (some r0)), some (iV (i1)), some (iV (i2))] [] m Q := by
  refine X_iload_n dX9_isCandidate_0 rfl rfl ?_
  refine Y_iconst dX9_isCandidate_1 (by unfold i32; omega) ?_
  refine X_aload_n dX9_isCandidate_2 rfl rfl ?_
  refine X_iload_n dX9_isCandidate_3 rfl rfl ?_
  exact X_callV (As := [iV (i1)]) (rest := [iV (0), iV (i2)]) (a' := 0) (b' := 0) dX9_isCandidate_4 t9_candidates ml_9_87 h1 rfl rfl (Nat.le_of_ble_eq_true rfl) rfl hdp (Nat.zero_le _) (Nat.zero_le _) (k1 _ (fun z m' h => h))

theorem s9_isCandidate_7 {G : am_G} {dp a b : Nat} {m : am_M} {Q : am_Q} {i1 i2 i90 i91 i92 : Int} {r0 : Nat} (hdp : 1 ≤ dp)  (k1 : ∀ Q' : am_Q, (∀ (z : Int) (m' : am_M), X G dp a b M9_isCandidate 12 [some (rV (some r0)), some (iV (i1)), some (iV (i2))] [iV (z)] m' Q → Q' (.inl (some (iV (z)))) m') → T G (dp - 1) 0 0 M9_isIn [iV (i92), iV (i91), iV (wr (i90 - 1))] m Q')  : X G dp a b M9_isCandidate 7 [some (rV (some r0)), some (iV (i1)), some (iV (i2))] [iV (i90), iV (i91), iV (i92)] m Q := by
  refine Y_iconst dX9_isCandidate_7 (by unfold i32; omega) ?_
  refine X_isub dX9_isCandidate_8  ?_
  exact X_callS (As := [iV (i92), iV (i91), iV (wr (i90 - 1))]) (rest := []) (a' := 0) (b' := 0) dX9_isCandidate_9 t9_isIn ml_9_80 rfl rfl (Nat.le_of_ble_eq_true rfl) rfl hdp (Nat.zero_le _) (Nat.zero_le _) (k1 _ (fun z m' h => h))

theorem s9_isCandidate_12 {G : am_G} {dp a b : Nat} {m : am_M} {Q : am_Q} {i1 i2 i90 : Int} {r0 : Nat}  (k1 : Q (.inl (some (iV (i90)))) m) (h1 : i90 = 0 ∨ i90 = 1 := by intros; first | omega | (dsimp only at *; omega)) : X G dp a b M9_isCandidate 12 [some (rV (some r0)), some (iV (i1)), some (iV (i2))] [iV (i90)] m Q := by
  exact X_zret dX9_isCandidate_12 rfl h1 k1

theorem s9_at_0 {G : am_G} {dp a b : Nat} {m : am_M} {Q : am_Q} {i0 i1 i2 : Int}  (k1 : Q (.inl (some (iV (wr ((wr (i0 + (wr (3 * i1)))) + i2))))) m)  : X G dp a b M9_at 0 [some (iV (i0)), some (iV (i1)), some (iV (i2))] [] m Q := by
  refine X_iload_n dX9_at_0 rfl rfl ?_
  refine Y_iconst dX9_at_1 (by unfold i32; omega) ?_
  refine X_iload_n dX9_at_2 rfl rfl ?_
  refine X_imul dX9_at_3  ?_
  refine X_iadd dX9_at_4  ?_
  refine X_iload_n dX9_at_5 rfl rfl ?_
  refine X_iadd dX9_at_6  ?_
  exact X_iret dX9_at_7 rfl k1

theorem s9_recorded_0 {G : am_G} {dp a b : Nat} {m : am_M} {Q : am_Q} {i1 i2 : Int} {r0 p1 : Nat} (hdp : 1 ≤ dp) (h1 : am_ob m r0 8) (h2 : m.2.1 r0 0 = some p1) (k1 : ∀ Q' : am_Q, (∀ (z : Int) (m' : am_M), X G dp a b M9_recorded 11 [some (rV (some r0)), some (iV (i1)), some (iV (i2))] [iV (z), rV (some p1)] m' Q → Q' (.inl (some (iV (z)))) m') → T G (dp - 1) 0 0 M9_at [iV (14), iV (i1), iV (i2)] m Q')  : X G dp a b M9_recorded 0 [some (rV (some r0)), some (iV (i1)), some (iV (i2))] [] m Q := by
  refine X_aload_n dX9_recorded_0 rfl rfl ?_
  refine X_getP dX9_recorded_1 fl_9_9 rfl h1 ?_
  refine am_ptr h2 ?_
  refine Y_bipush dX9_recorded_4 (by omega) ?_
  refine X_iload_n dX9_recorded_6 rfl rfl ?_
  refine X_iload_n dX9_recorded_7 rfl rfl ?_
  exact X_callS (As := [iV (14), iV (i1), iV (i2)]) (rest := [rV (some p1)]) (a' := 0) (b' := 0) dX9_recorded_8 t9_at ml_9_91 rfl rfl (Nat.le_of_ble_eq_true rfl) rfl hdp (Nat.zero_le _) (Nat.zero_le _) (k1 _ (fun z m' h => h))

theorem s9_recorded_11 {G : am_G} {dp a b : Nat} {m : am_M} {Q : am_Q} {i1 i2 i90 : Int} {r0 r91 : Nat} {n_r91 : Nat} (h1 : am_ar m r91 100 n_r91) (k1 : Q (.inl (some (iV (m.1 r91 (i90).toNat)))) m) (h2 : 0 ≤ i90 := by intros; first | omega | (dsimp only at *; omega)) (h3 : i90 < (n_r91 : Int) := by intros; first | omega | (dsimp only at *; omega)) : X G dp a b M9_recorded 11 [some (rV (some r0)), some (iV (i1)), some (iV (i2))] [iV (i90), rV (some r91)] m Q := by
  refine X_iald dX9_recorded_11 h1 h2 h3 ?_
  exact X_iret dX9_recorded_12 rfl k1

theorem s9_shown_0 {G : am_G} {dp a b : Nat} {m : am_M} {Q : am_Q} {i1 i2 : Int} {r0 p1 : Nat} (hdp : 1 ≤ dp) (h1 : am_ob m r0 8) (h2 : m.2.1 r0 0 = some p1) (k1 : ∀ Q' : am_Q, (∀ (z : Int) (m' : am_M), X G dp a b M9_shown 12 [some (rV (some r0)), some (iV (i1)), some (iV (i2))] [iV (z), rV (some p1)] m' Q → Q' (.inl (some (iV (z)))) m') → T G (dp - 1) 0 0 M9_at [iV (614), iV (i1), iV (i2)] m Q')  : X G dp a b M9_shown 0 [some (rV (some r0)), some (iV (i1)), some (iV (i2))] [] m Q := by
  refine X_aload_n dX9_shown_0 rfl rfl ?_
  refine X_getP dX9_shown_1 fl_9_9 rfl h1 ?_
  refine am_ptr h2 ?_
  refine Y_sipush dX9_shown_4 (by omega) ?_
  refine X_iload_n dX9_shown_7 rfl rfl ?_
  refine X_iload_n dX9_shown_8 rfl rfl ?_
  exact X_callS (As := [iV (614), iV (i1), iV (i2)]) (rest := [rV (some p1)]) (a' := 0) (b' := 0) dX9_shown_9 t9_at ml_9_91 rfl rfl (Nat.le_of_ble_eq_true rfl) rfl hdp (Nat.zero_le _) (Nat.zero_le _) (k1 _ (fun z m' h => h))

theorem s9_shown_12 {G : am_G} {dp a b : Nat} {m : am_M} {Q : am_Q} {i1 i2 i90 : Int} {r0 r91 : Nat} {n_r91 : Nat} (h1 : am_ar m r91 100 n_r91) (k1 : Q (.inl (some (iV (m.1 r91 (i90).toNat)))) m) (h2 : 0 ≤ i90 := by intros; first | omega | (dsimp only at *; omega)) (h3 : i90 < (n_r91 : Int) := by intros; first | omega | (dsimp only at *; omega)) : X G dp a b M9_shown 12 [some (rV (some r0)), some (iV (i1)), some (iV (i2))] [iV (i90), rV (some r91)] m Q := by
  refine X_iald dX9_shown_12 h1 h2 h3 ?_
  exact X_iret dX9_shown_13 rfl k1

theorem s9_counts_0 {G : am_G} {dp a b : Nat} {m : am_M} {Q : am_Q} {i1 i2 : Int} {r0 : Nat} {n_r0 : Nat} (h4 : am_arw m r0 100 n_r0) (k1 : (i2 < 0) → Q (.inl none) m) (k2 : ¬ (i2 < 0) → Q (.inl none) ((u2 m.1 r0 (wr ((wr (4 * i1)) + i2)).toNat (wr ((m.1 r0 (wr ((wr (4 * i1)) + i2)).toNat) + 1))), m.2.1, m.2.2)) (h2 : ¬ (i2 < 0) → 0 ≤ wr ((wr (4 * i1)) + i2) := by intros; first | omega | (dsimp only at *; omega)) (h3 : ¬ (i2 < 0) → wr ((wr (4 * i1)) + i2) < (n_r0 : Int) := by intros; first | omega | (dsimp only at *; omega)) : X G dp a b M9_counts 0 [some (rV (some r0)), some (iV (i1)), some (iV (i2))] [] m Q := by
  refine X_iload_n dX9_counts_0 rfl rfl ?_
  refine X_if_lt (tgt := 15) dX9_counts_1 (by decide) (fun c1 => ?_) (fun c1 => ?_)
  · exact X_vret dX9_counts_15 rfl (k1 c1)
  · refine X_aload_n dX9_counts_4 rfl rfl ?_
    refine Y_iconst dX9_counts_5 (by unfold i32; omega) ?_
    refine X_iload_n dX9_counts_6 rfl rfl ?_
    refine X_imul dX9_counts_7  ?_
    refine X_iload_n dX9_counts_8 rfl rfl ?_
    refine X_iadd dX9_counts_9  ?_
    refine X_dup2 dX9_counts_10 rfl rfl ?_
    refine X_iald dX9_counts_11 (am_rw h4) (h2 c1) (h3 c1) ?_
    refine Y_iconst dX9_counts_12 (by unfold i32; omega) ?_
    refine X_iadd dX9_counts_13  ?_
    refine X_iast dX9_counts_14 h4 (h2 c1) (h3 c1) ?_
    exact X_vret dX9_counts_15 rfl (k2 c1)

theorem s9_layVotes_0 {G : am_G} {dp a b : Nat} {m : am_M} {Q : am_Q} {r0 : Nat} {o1 o2 : Option am_V}  (k1 : X G dp a b M9_layVotes 2 [some (rV (some r0)), some (iV (0)), o2] [] m Q)  : X G dp a b M9_layVotes 0 [some (rV (some r0)), o1, o2] [] m Q := by
  refine Y_iconst dX9_layVotes_0 (by unfold i32; omega) ?_
  refine X_istore_n dX9_layVotes_1 rfl (Nat.le_of_ble_eq_true rfl) ?_
  exact k1

theorem s9_layVotes_2 {G : am_G} {dp a b : Nat} {m : am_M} {Q : am_Q} {i1 : Int} {r0 p1 p2 : Nat} {o2 : Option am_V} {n_p1 n_p2 : Nat} (h1 : am_ob m r0 8) (h2 : m.2.1 r0 8 = some p1) (h3 : am_arw m p1 100 n_p1) (h6 : m.2.1 r0 9 = some p2) (h7 : am_arw m p2 100 n_p2) (k1 : (12 ≤ i1) → X G dp a b M9_layVotes 30 [some (rV (some r0)), some (iV (0)), o2] [] m Q) (k2 : ¬ (12 ≤ i1) → X G dp a b M9_layVotes 2 [some (rV (some r0)), some (iV (wr (i1 + 1))), o2] [] ((u2 (u2 m.1 p1 (i1).toNat (0)) p2 (i1).toNat (0)), m.2.1, m.2.2) Q) (h4 : ¬ (12 ≤ i1) → 0 ≤ i1 := by intros; first | omega | (dsimp only at *; omega)) (h5 : ¬ (12 ≤ i1) → i1 < (n_p1 : Int) := by intros; first | omega | (dsimp only at *; omega)) (h8 : ¬ (12 ≤ i1) → i1 < (n_p2 : Int) := by intros; first | omega | (dsimp only at *; omega)) : X G dp a b M9_layVotes 2 [some (rV (some r0)), some (iV (i1)), o2] [] m Q := by
  refine X_iload_n dX9_layVotes_2 rfl rfl ?_
  refine Y_bipush dX9_layVotes_3 (by omega) ?_
  refine X_icmp_ge (tgt := 28) dX9_layVotes_5 (by decide) (fun c1 => ?_) (fun c1 => ?_)
  · refine Y_iconst dX9_layVotes_28 (by unfold i32; omega) ?_
    refine X_istore_n dX9_layVotes_29 rfl (Nat.le_of_ble_eq_true rfl) ?_
    exact (k1 c1)
  · refine X_aload_n dX9_layVotes_8 rfl rfl ?_
    refine X_getP dX9_layVotes_9 fl_9_25 rfl h1 ?_
    refine am_ptr h2 ?_
    refine X_iload_n dX9_layVotes_12 rfl rfl ?_
    refine Y_iconst dX9_layVotes_13 (by unfold i32; omega) ?_
    refine X_iast dX9_layVotes_14 h3 (h4 c1) (h5 c1) ?_
    refine X_aload_n dX9_layVotes_15 rfl rfl ?_
    refine X_getP dX9_layVotes_16 fl_9_28 rfl h1 ?_
    refine am_ptr h6 ?_
    refine X_iload_n dX9_layVotes_19 rfl rfl ?_
    refine Y_iconst dX9_layVotes_20 (by unfold i32; omega) ?_
    refine X_iast dX9_layVotes_21 h7 (h4 c1) (h8 c1) ?_
    refine X_iinc dX9_layVotes_22 rfl ?_
    refine X_goto (tgt := 2) dX9_layVotes_25 (by decide) ?_
    exact (k2 c1)

theorem s9_layVotes_30 {G : am_G} {dp a b : Nat} {m : am_M} {Q : am_Q} {i1 : Int} {r0 : Nat} {o2 : Option am_V} (hdp : 1 ≤ dp) (h1 : am_ob m r0 8) (k1 : ∀ Q' : am_Q, (∀ (z : Int) (m' : am_M), X G dp a b M9_layVotes 35 [some (rV (some r0)), some (iV (i1)), o2] [iV (z), iV (i1)] m' Q → Q' (.inl (some (iV (z)))) m') → T G (dp - 1) 0 0 M9_ballots [rV (some r0)] m Q')  : X G dp a b M9_layVotes 30 [some (rV (some r0)), some (iV (i1)), o2] [] m Q := by
  refine X_iload_n dX9_layVotes_30 rfl rfl ?_
  refine X_aload_n dX9_layVotes_31 rfl rfl ?_
  exact X_callV (As := []) (rest := [iV (i1)]) (a' := 0) (b' := 0) dX9_layVotes_32 t9_ballots ml_9_84 h1 rfl rfl (Nat.le_of_ble_eq_true rfl) rfl hdp (Nat.zero_le _) (Nat.zero_le _) (k1 _ (fun z m' h => h))

theorem s9_layVotes_35 {G : am_G} {dp a b : Nat} {m : am_M} {Q : am_Q} {i1 i90 i91 : Int} {r0 : Nat} {o2 : Option am_V}  (k1 : (i90 ≤ i91) → Q (.inl none) m) (k2 : ¬ (i90 ≤ i91) → X G dp a b M9_layVotes 40 [some (rV (some r0)), some (iV (i1)), some (iV (0))] [] m Q)  : X G dp a b M9_layVotes 35 [some (rV (some r0)), some (iV (i1)), o2] [iV (i90), iV (i91)] m Q := by
  refine X_icmp_ge (tgt := 88) dX9_layVotes_35 (by decide) (fun c1 => ?_) (fun c1 => ?_)
  · exact X_vret dX9_layVotes_88 rfl (k1 c1)
  · refine Y_iconst dX9_layVotes_38 (by unfold i32; omega) ?_
    refine X_istore_n dX9_layVotes_39 rfl (Nat.le_of_ble_eq_true rfl) ?_
    exact (k2 c1)

theorem s9_layVotes_40 {G : am_G} {dp a b : Nat} {m : am_M} {Q : am_Q} {i1 i2 : Int} {r0 : Nat} (hdp : 1 ≤ dp) (h1 : am_ob m r0 8) (k1 : ∀ Q' : am_Q, (∀ (z : Int) (m' : am_M), X G dp a b M9_layVotes 45 [some (rV (some r0)), some (iV (i1)), some (iV (i2))] [iV (z), iV (i2)] m' Q → Q' (.inl (some (iV (z)))) m') → T G (dp - 1) 0 0 M9_races [rV (some r0)] m Q')  : X G dp a b M9_layVotes 40 [some (rV (some r0)), some (iV (i1)), some (iV (i2))] [] m Q := by
  refine X_iload_n dX9_layVotes_40 rfl rfl ?_
  refine X_aload_n dX9_layVotes_41 rfl rfl ?_
  exact X_callV (As := []) (rest := [iV (i2)]) (a' := 0) (b' := 0) dX9_layVotes_42 t9_races ml_9_76 h1 rfl rfl (Nat.le_of_ble_eq_true rfl) rfl hdp (Nat.zero_le _) (Nat.zero_le _) (k1 _ (fun z m' h => h))

theorem s9_layVotes_45 {G : am_G} {dp a b : Nat} {m : am_M} {Q : am_Q} {i1 i2 i90 i91 : Int} {r0 p1 : Nat} (hdp : 1 ≤ dp) (h1 : am_ob m r0 8) (h2 : m.2.1 r0 8 = some p1) (k1 : (i90 ≤ i91) → X G dp a b M9_layVotes 30 [some (rV (some r0)), some (iV (wr (i1 + 1))), some (iV (i2))] [] m Q) (k2 : ¬ (i90 ≤ i91) → ∀ Q' : am_Q, (∀ (z : Int) (m' : am_M), X G dp a b M9_layVotes 59 [some (rV (some r0)), some (iV (i1)), some (iV (i2))] [iV (z), iV (i2), rV (some p1)] m' Q → Q' (.inl (some (iV (z)))) m') → T G (dp - 1) 0 0 M9_recorded [rV (some r0), iV (i1), iV (i2)] m Q')  : X G dp a b M9_layVotes 45 [some (rV (some r0)), some (iV (i1)), some (iV (i2))] [iV (i90), iV (i91)] m Q := by
  refine X_icmp_ge (tgt := 82) dX9_layVotes_45 (by decide) (fun c1 => ?_) (fun c1 => ?_)
  · refine X_iinc dX9_layVotes_82 rfl ?_
    refine X_goto (tgt := 30) dX9_layVotes_85 (by decide) ?_
    exact (k1 c1)
  · refine X_aload_n dX9_layVotes_48 rfl rfl ?_
    refine X_getP dX9_layVotes_49 fl_9_25 rfl h1 ?_
    refine am_ptr h2 ?_
    refine X_iload_n dX9_layVotes_52 rfl rfl ?_
    refine X_aload_n dX9_layVotes_53 rfl rfl ?_
    refine X_iload_n dX9_layVotes_54 rfl rfl ?_
    refine X_iload_n dX9_layVotes_55 rfl rfl ?_
    exact X_callV (As := [iV (i1), iV (i2)]) (rest := [iV (i2), rV (some p1)]) (a' := 0) (b' := 0) dX9_layVotes_56 t9_recorded ml_9_95 h1 rfl rfl (Nat.le_of_ble_eq_true rfl) rfl hdp (Nat.zero_le _) (Nat.zero_le _) ((k2 c1) _ (fun z m' h => h))

theorem s9_layVotes_59 {G : am_G} {dp a b : Nat} {m : am_M} {Q : am_Q} {i1 i2 i90 i91 : Int} {r0 r92 : Nat} (hdp : 1 ≤ dp)  (k1 : ∀ Q' : am_Q, (∀ (m' : am_M), X G dp a b M9_layVotes 62 [some (rV (some r0)), some (iV (i1)), some (iV (i2))] [] m' Q → Q' (.inl none) m') → T G (dp - 1) 0 0 M9_counts [rV (some r92), iV (i91), iV (i90)] m Q')  : X G dp a b M9_layVotes 59 [some (rV (some r0)), some (iV (i1)), some (iV (i2))] [iV (i90), iV (i91), rV (some r92)] m Q := by
  exact X_callS (As := [rV (some r92), iV (i91), iV (i90)]) (rest := []) (a' := 0) (b' := 0) dX9_layVotes_59 t9_counts ml_9_99 rfl rfl (Nat.le_of_ble_eq_true rfl) rfl hdp (Nat.zero_le _) (Nat.zero_le _) (k1 _ (fun m' h => h))

theorem s9_layVotes_62 {G : am_G} {dp a b : Nat} {m : am_M} {Q : am_Q} {i1 i2 : Int} {r0 p1 : Nat} (hdp : 1 ≤ dp) (h1 : am_ob m r0 8) (h2 : m.2.1 r0 9 = some p1) (k1 : ∀ Q' : am_Q, (∀ (z : Int) (m' : am_M), X G dp a b M9_layVotes 73 [some (rV (some r0)), some (iV (i1)), some (iV (i2))] [iV (z), iV (i2), rV (some p1)] m' Q → Q' (.inl (some (iV (z)))) m') → T G (dp - 1) 0 0 M9_shown [rV (some r0), iV (i1), iV (i2)] m Q')  : X G dp a b M9_layVotes 62 [some (rV (some r0)), some (iV (i1)), some (iV (i2))] [] m Q := by
  refine X_aload_n dX9_layVotes_62 rfl rfl ?_
  refine X_getP dX9_layVotes_63 fl_9_28 rfl h1 ?_
  refine am_ptr h2 ?_
  refine X_iload_n dX9_layVotes_66 rfl rfl ?_
  refine X_aload_n dX9_layVotes_67 rfl rfl ?_
  refine X_iload_n dX9_layVotes_68 rfl rfl ?_
  refine X_iload_n dX9_layVotes_69 rfl rfl ?_
  exact X_callV (As := [iV (i1), iV (i2)]) (rest := [iV (i2), rV (some p1)]) (a' := 0) (b' := 0) dX9_layVotes_70 t9_shown ml_9_103 h1 rfl rfl (Nat.le_of_ble_eq_true rfl) rfl hdp (Nat.zero_le _) (Nat.zero_le _) (k1 _ (fun z m' h => h))

theorem s9_layVotes_73 {G : am_G} {dp a b : Nat} {m : am_M} {Q : am_Q} {i1 i2 i90 i91 : Int} {r0 r92 : Nat} (hdp : 1 ≤ dp)  (k1 : ∀ Q' : am_Q, (∀ (m' : am_M), X G dp a b M9_layVotes 76 [some (rV (some r0)), some (iV (i1)), some (iV (i2))] [] m' Q → Q' (.inl none) m') → T G (dp - 1) 0 0 M9_counts [rV (some r92), iV (i91), iV (i90)] m Q')  : X G dp a b M9_layVotes 73 [some (rV (some r0)), some (iV (i1)), some (iV (i2))] [iV (i90), iV (i91), rV (some r92)] m Q := by
  exact X_callS (As := [rV (some r92), iV (i91), iV (i90)]) (rest := []) (a' := 0) (b' := 0) dX9_layVotes_73 t9_counts ml_9_99 rfl rfl (Nat.le_of_ble_eq_true rfl) rfl hdp (Nat.zero_le _) (Nat.zero_le _) (k1 _ (fun m' h => h))

theorem s9_layVotes_76 {G : am_G} {dp a b : Nat} {m : am_M} {Q : am_Q} {i1 i2 : Int} {r0 : Nat}  (k1 : X G dp a b M9_layVotes 40 [some (rV (some r0)), some (iV (i1)), some (iV (wr (i2 + 1)))] [] m Q)  : X G dp a b M9_layVotes 76 [some (rV (some r0)), some (iV (i1)), some (iV (i2))] [] m Q := by
  refine X_iinc dX9_layVotes_76 rfl ?_
  refine X_goto (tgt := 40) dX9_layVotes_79 (by decide) ?_
  exact k1

theorem s9_firstBy_0 {G : am_G} {dp a b : Nat} {m : am_M} {Q : am_Q} {i1 : Int} {r0 r2 : Nat} {o3 o4 : Option am_V}  (k1 : X G dp a b M9_firstBy 5 [some (rV (some r0)), some (iV (i1)), some (rV (some r2)), some (iV (0)), some (iV (1))] [] m Q)  : X G dp a b M9_firstBy 0 [some (rV (some r0)), some (iV (i1)), some (rV (some r2)), o3, o4] [] m Q := by
  refine Y_iconst dX9_firstBy_0 (by unfold i32; omega) ?_
  refine X_istore_n dX9_firstBy_1 rfl (Nat.le_of_ble_eq_true rfl) ?_
  refine Y_iconst dX9_firstBy_2 (by unfold i32; omega) ?_
  refine X_istore dX9_firstBy_3 (Nat.le_of_ble_eq_true rfl) ?_
  exact k1

theorem s9_firstBy_5 {G : am_G} {dp a b : Nat} {m : am_M} {Q : am_Q} {i1 i3 i4 : Int} {r0 r2 : Nat} (hdp : 1 ≤ dp) (h1 : am_ob m r0 8) (k1 : ∀ Q' : am_Q, (∀ (z : Int) (m' : am_M), X G dp a b M9_firstBy 12 [some (rV (some r0)), some (iV (i1)), some (rV (some r2)), some (iV (i3)), some (iV (i4))] [iV (z), iV (i4)] m' Q → Q' (.inl (some (iV (z)))) m') → T G (dp - 1) 0 0 M9_candidates [rV (some r0), iV (i1)] m Q')  : X G dp a b M9_firstBy 5 [some (rV (some r0)), some (iV (i1)), some (rV (some r2)), some (iV (i3)), some (iV (i4))] [] m Q := by
  refine X_iload dX9_firstBy_5 rfl ?_
  refine X_aload_n dX9_firstBy_7 rfl rfl ?_
  refine X_iload_n dX9_firstBy_8 rfl rfl ?_
  exact X_callV (As := [iV (i1)]) (rest := [iV (i4)]) (a' := 0) (b' := 0) dX9_firstBy_9 t9_candidates ml_9_87 h1 rfl rfl (Nat.le_of_ble_eq_true rfl) rfl hdp (Nat.zero_le _) (Nat.zero_le _) (k1 _ (fun z m' h => h))

theorem s9_firstBy_12 {G : am_G} {dp a b : Nat} {m : am_M} {Q : am_Q} {i1 i3 i4 i90 i91 : Int} {r0 r2 : Nat} {n_r2 : Nat} (h1 : am_ar m r2 100 n_r2) (k1 : (i90 ≤ i91) → Q (.inl (some (iV (i3)))) m) (k2 : ¬ (i90 ≤ i91) → ((m.1 r2 (wr ((wr (4 * i1)) + i4)).toNat) ≤ (m.1 r2 (wr ((wr (4 * i1)) + i3)).toNat)) → X G dp a b M9_firstBy 5 [some (rV (some r0)), some (iV (i1)), some (rV (some r2)), some (iV (i3)), some (iV (wr (i4 + 1)))] [] m Q) (k3 : ¬ (i90 ≤ i91) → ¬ ((m.1 r2 (wr ((wr (4 * i1)) + i4)).toNat) ≤ (m.1 r2 (wr ((wr (4 * i1)) + i3)).toNat)) → X G dp a b M9_firstBy 5 [some (rV (some r0)), some (iV (i1)), some (rV (some r2)), some (iV (i4)), some (iV (wr (i4 + 1)))] [] m Q) (h2 : ¬ (i90 ≤ i91) → 0 ≤ wr ((wr (4 * i1)) + i4) := by intros; first | omega | (dsimp only at *; omega)) (h3 : ¬ (i90 ≤ i91) → wr ((wr (4 * i1)) + i4) < (n_r2 : Int) := by intros; first | omega | (dsimp only at *; omega)) (h4 : ¬ (i90 ≤ i91) → 0 ≤ wr ((wr (4 * i1)) + i3) := by intros; first | omega | (dsimp only at *; omega)) (h5 : ¬ (i90 ≤ i91) → wr ((wr (4 * i1)) + i3) < (n_r2 : Int) := by intros; first | omega | (dsimp only at *; omega)) : X G dp a b M9_firstBy 12 [some (rV (some r0)), some (iV (i1)), some (rV (some r2)), some (iV (i3)), some (iV (i4))] [iV (i90), iV (i91)] m Q := by
  refine X_icmp_ge (tgt := 42) dX9_firstBy_12 (by decide) (fun c1 => ?_) (fun c1 => ?_)
  · refine X_iload_n dX9_firstBy_42 rfl rfl ?_
    exact X_iret dX9_firstBy_43 rfl (k1 c1)
  · refine X_aload_n dX9_firstBy_15 rfl rfl ?_
    refine Y_iconst dX9_firstBy_16 (by unfold i32; omega) ?_
    refine X_iload_n dX9_firstBy_17 rfl rfl ?_
    refine X_imul dX9_firstBy_18  ?_
    refine X_iload dX9_firstBy_19 rfl ?_
    refine X_iadd dX9_firstBy_21  ?_
    refine X_iald dX9_firstBy_22 h1 (h2 c1) (h3 c1) ?_
    refine X_aload_n dX9_firstBy_23 rfl rfl ?_
    refine Y_iconst dX9_firstBy_24 (by unfold i32; omega) ?_
    refine X_iload_n dX9_firstBy_25 rfl rfl ?_
    refine X_imul dX9_firstBy_26  ?_
    refine X_iload_n dX9_firstBy_27 rfl rfl ?_
    refine X_iadd dX9_firstBy_28  ?_
    refine X_iald dX9_firstBy_29 h1 (h4 c1) (h5 c1) ?_
    refine X_icmp_le (tgt := 36) dX9_firstBy_30 (by decide) (fun c2 => ?_) (fun c2 => ?_)
    · refine X_iinc dX9_firstBy_36 rfl ?_
      refine X_goto (tgt := 5) dX9_firstBy_39 (by decide) ?_
      exact (k2 c1 c2)
    · refine X_iload dX9_firstBy_33 rfl ?_
      refine X_istore_n dX9_firstBy_35 rfl (Nat.le_of_ble_eq_true rfl) ?_
      refine X_iinc dX9_firstBy_36 rfl ?_
      refine X_goto (tgt := 5) dX9_firstBy_39 (by decide) ?_
      exact (k3 c1 c2)

theorem s9_second_0 {G : am_G} {dp a b : Nat} {m : am_M} {Q : am_Q} {i1 : Int} {r0 : Nat} {o2 o3 : Option am_V}  (k1 : X G dp a b M9_second 4 [some (rV (some r0)), some (iV (i1)), some (iV ((-1))), some (iV (0))] [] m Q)  : X G dp a b M9_second 0 [some (rV (some r0)), some (iV (i1)), o2, o3] [] m Q := by
  refine Y_iconst dX9_second_0 (by unfold i32; omega) ?_
  refine X_istore_n dX9_second_1 rfl (Nat.le_of_ble_eq_true rfl) ?_
  refine Y_iconst dX9_second_2 (by unfold i32; omega) ?_
  refine X_istore_n dX9_second_3 rfl (Nat.le_of_ble_eq_true rfl) ?_
  exact k1

theorem s9_second_4 {G : am_G} {dp a b : Nat} {m : am_M} {Q : am_Q} {i1 i2 i3 : Int} {r0 : Nat} (hdp : 1 ≤ dp) (h1 : am_ob m r0 8) (k1 : ∀ Q' : am_Q, (∀ (z : Int) (m' : am_M), X G dp a b M9_second 10 [some (rV (some r0)), some (iV (i1)), some (iV (i2)), some (iV (i3))] [iV (z), iV (i3)] m' Q → Q' (.inl (some (iV (z)))) m') → T G (dp - 1) 0 0 M9_candidates [rV (some r0), iV (i1)] m Q')  : X G dp a b M9_second 4 [some (rV (some r0)), some (iV (i1)), some (iV (i2)), some (iV (i3))] [] m Q := by
  refine X_iload_n dX9_second_4 rfl rfl ?_
  refine X_aload_n dX9_second_5 rfl rfl ?_
  refine X_iload_n dX9_second_6 rfl rfl ?_
  exact X_callV (As := [iV (i1)]) (rest := [iV (i3)]) (a' := 0) (b' := 0) dX9_second_7 t9_candidates ml_9_87 h1 rfl rfl (Nat.le_of_ble_eq_true rfl) rfl hdp (Nat.zero_le _) (Nat.zero_le _) (k1 _ (fun z m' h => h))

theorem s9_second_10 {G : am_G} {dp a b : Nat} {m : am_M} {Q : am_Q} {i1 i2 i3 i90 i91 : Int} {r0 p1 p2 : Nat} {n_p1 n_p2 : Nat} (h1 : am_ob m r0 8) (h2 : m.2.1 r0 10 = some p1) (h3 : am_ar m p1 100 n_p1) (h6 : m.2.1 r0 8 = some p2) (h7 : am_ar m p2 100 n_p2) (k1 : (i90 ≤ i91) → Q (.inl (some (iV (i2)))) m) (k2 : ¬ (i90 ≤ i91) → ¬ (i3 = (m.1 p1 (i1).toNat)) → (i2 = (-1)) → X G dp a b M9_second 4 [some (rV (some r0)), some (iV (i1)), some (iV (i3)), some (iV (wr (i3 + 1)))] [] m Q) (k3 : ¬ (i90 ≤ i91) → ¬ (i3 = (m.1 p1 (i1).toNat)) → ¬ (i2 = (-1)) → ((m.1 p2 (wr ((wr (4 * i1)) + i3)).toNat) ≤ (m.1 p2 (wr ((wr (4 * i1)) + i2)).toNat)) → X G dp a b M9_second 4 [some (rV (some r0)), some (iV (i1)), some (iV (i2)), some (iV (wr (i3 + 1)))] [] m Q) (k4 : ¬ (i90 ≤ i91) → ¬ (i3 = (m.1 p1 (i1).toNat)) → ¬ (i2 = (-1)) → ¬ ((m.1 p2 (wr ((wr (4 * i1)) + i3)).toNat) ≤ (m.1 p2 (wr ((wr (4 * i1)) + i2)).toNat)) → X G dp a b M9_second 4 [some (rV (some r0)), some (iV (i1)), some (iV (i3)), some (iV (wr (i3 + 1)))] [] m Q) (k5 : ¬ (i90 ≤ i91) → (i3 = (m.1 p1 (i1).toNat)) → X G dp a b M9_second 4 [some (rV (some r0)), some (iV (i1)), some (iV (i2)), some (iV (wr (i3 + 1)))] [] m Q) (h4 : ¬ (i90 ≤ i91) → 0 ≤ i1 := by intros; first | omega | (dsimp only at *; omega)) (h5 : ¬ (i90 ≤ i91) → i1 < (n_p1 : Int) := by intros; first | omega | (dsimp only at *; omega)) (h8 : ¬ (i90 ≤ i91) → ¬ (i3 = (m.1 p1 (i1).toNat)) → ¬ (i2 = (-1)) → 0 ≤ wr ((wr (4 * i1)) + i3) := by intros; first | omega | (dsimp only at *; omega)) (h9 : ¬ (i90 ≤ i91) → ¬ (i3 = (m.1 p1 (i1).toNat)) → ¬ (i2 = (-1)) → wr ((wr (4 * i1)) + i3) < (n_p2 : Int) := by intros; first | omega | (dsimp only at *; omega)) (h10 : ¬ (i90 ≤ i91) → ¬ (i3 = (m.1 p1 (i1).toNat)) → ¬ (i2 = (-1)) → 0 ≤ wr ((wr (4 * i1)) + i2) := by intros; first | omega | (dsimp only at *; omega)) (h11 : ¬ (i90 ≤ i91) → ¬ (i3 = (m.1 p1 (i1).toNat)) → ¬ (i2 = (-1)) → wr ((wr (4 * i1)) + i2) < (n_p2 : Int) := by intros; first | omega | (dsimp only at *; omega)) : X G dp a b M9_second 10 [some (rV (some r0)), some (iV (i1)), some (iV (i2)), some (iV (i3))] [iV (i90), iV (i91)] m Q := by
  refine X_icmp_ge (tgt := 62) dX9_second_10 (by decide) (fun c1 => ?_) (fun c1 => ?_)
  · refine X_iload_n dX9_second_62 rfl rfl ?_
    exact X_iret dX9_second_63 rfl (k1 c1)
  · refine X_iload_n dX9_second_13 rfl rfl ?_
    refine X_aload_n dX9_second_14 rfl rfl ?_
    refine X_getP dX9_second_15 fl_9_31 rfl h1 ?_
    refine am_ptr h2 ?_
    refine X_iload_n dX9_second_18 rfl rfl ?_
    refine X_iald dX9_second_19 h3 (h4 c1) (h5 c1) ?_
    refine X_icmp_ne (tgt := 26) dX9_second_20 (by decide) (fun c2 => ?_) (fun c2 => ?_)
    · refine X_iload_n dX9_second_26 rfl rfl ?_
      refine Y_iconst dX9_second_27 (by unfold i32; omega) ?_
      refine X_icmp_eq (tgt := 54) dX9_second_28 (by decide) (fun c3 => ?_) (fun c3 => ?_)
      · refine X_iload_n dX9_second_54 rfl rfl ?_
        refine X_istore_n dX9_second_55 rfl (Nat.le_of_ble_eq_true rfl) ?_
        refine X_iinc dX9_second_56 rfl ?_
        refine X_goto (tgt := 4) dX9_second_59 (by decide) ?_
        exact (k2 c1 c2 c3)
      · refine X_aload_n dX9_second_31 rfl rfl ?_
        refine X_getP dX9_second_32 fl_9_25 rfl h1 ?_
        refine am_ptr h6 ?_
        refine Y_iconst dX9_second_35 (by unfold i32; omega) ?_
        refine X_iload_n dX9_second_36 rfl rfl ?_
        refine X_imul dX9_second_37  ?_
        refine X_iload_n dX9_second_38 rfl rfl ?_
        refine X_iadd dX9_second_39  ?_
        refine X_iald dX9_second_40 h7 (h8 c1 c2 c3) (h9 c1 c2 c3) ?_
        refine X_aload_n dX9_second_41 rfl rfl ?_
        refine X_getP dX9_second_42 fl_9_25 rfl h1 ?_
        refine am_ptr h6 ?_
        refine Y_iconst dX9_second_45 (by unfold i32; omega) ?_
        refine X_iload_n dX9_second_46 rfl rfl ?_
        refine X_imul dX9_second_47  ?_
        refine X_iload_n dX9_second_48 rfl rfl ?_
        refine X_iadd dX9_second_49  ?_
        refine X_iald dX9_second_50 h7 (h10 c1 c2 c3) (h11 c1 c2 c3) ?_
        refine X_icmp_le (tgt := 56) dX9_second_51 (by decide) (fun c4 => ?_) (fun c4 => ?_)
        · refine X_iinc dX9_second_56 rfl ?_
          refine X_goto (tgt := 4) dX9_second_59 (by decide) ?_
          exact (k3 c1 c2 c3 c4)
        · refine X_iload_n dX9_second_54 rfl rfl ?_
          refine X_istore_n dX9_second_55 rfl (Nat.le_of_ble_eq_true rfl) ?_
          refine X_iinc dX9_second_56 rfl ?_
          refine X_goto (tgt := 4) dX9_second_59 (by decide) ?_
          exact (k4 c1 c2 c3 c4)
    · refine X_goto (tgt := 56) dX9_second_23 (by decide) ?_
      refine X_iinc dX9_second_56 rfl ?_
      refine X_goto (tgt := 4) dX9_second_59 (by decide) ?_
      exact (k5 c1 c2)

theorem s9_signOf_0 {G : am_G} {dp a b : Nat} {m : am_M} {Q : am_Q} {i0 i1 i2 : Int}  (k1 : ¬ (i0 = i1) → ¬ (i0 = i2) → Q (.inl (some (iV (0)))) m) (k2 : ¬ (i0 = i1) → (i0 = i2) → Q (.inl (some (iV ((-1))))) m) (k3 : (i0 = i1) → Q (.inl (some (iV (1)))) m)  : X G dp a b M9_signOf 0 [some (iV (i0)), some (iV (i1)), some (iV (i2))] [] m Q := by
  refine X_iload_n dX9_signOf_0 rfl rfl ?_
  refine X_iload_n dX9_signOf_1 rfl rfl ?_
  refine X_icmp_ne (tgt := 7) dX9_signOf_2 (by decide) (fun c1 => ?_) (fun c1 => ?_)
  · refine X_iload_n dX9_signOf_7 rfl rfl ?_
    refine X_iload_n dX9_signOf_8 rfl rfl ?_
    refine X_icmp_ne (tgt := 16) dX9_signOf_9 (by decide) (fun c2 => ?_) (fun c2 => ?_)
    · refine Y_iconst dX9_signOf_16 (by unfold i32; omega) ?_
      exact X_iret dX9_signOf_17 rfl (k1 c1 c2)
    · refine Y_iconst dX9_signOf_12 (by unfold i32; omega) ?_
      refine X_goto (tgt := 17) dX9_signOf_13 (by decide) ?_
      exact X_iret dX9_signOf_17 rfl (k2 c1 c2)
  · refine Y_iconst dX9_signOf_5 (by unfold i32; omega) ?_
    exact X_iret dX9_signOf_6 rfl (k3 c1)

theorem s9_mistakeOf_0 {G : am_G} {dp a b : Nat} {m : am_M} {Q : am_Q} {i1 i2 i3 : Int} {r0 : Nat} {o4 o5 o6 o7 : Option am_V}  (k1 : X G dp a b M9_mistakeOf 7 [some (rV (some r0)), some (iV (i1)), some (iV (i2)), some (iV (i3)), some (iV ((-2))), some (iV (0)), o6, o7] [] m Q)  : X G dp a b M9_mistakeOf 0 [some (rV (some r0)), some (iV (i1)), some (iV (i2)), some (iV (i3)), o4, o5, o6, o7] [] m Q := by
  refine Y_bipush dX9_mistakeOf_0 (by omega) ?_
  refine X_istore dX9_mistakeOf_2 (Nat.le_of_ble_eq_true rfl) ?_
  refine Y_iconst dX9_mistakeOf_4 (by unfold i32; omega) ?_
  refine X_istore dX9_mistakeOf_5 (Nat.le_of_ble_eq_true rfl) ?_
  exact k1

theorem s9_mistakeOf_7 {G : am_G} {dp a b : Nat} {m : am_M} {Q : am_Q} {i1 i2 i3 i4 i5 : Int} {r0 : Nat} {o6 o7 : Option am_V} (hdp : 1 ≤ dp) (h1 : am_ob m r0 8) (k1 : ∀ Q' : am_Q, (∀ (z : Int) (m' : am_M), X G dp a b M9_mistakeOf 14 [some (rV (some r0)), some (iV (i1)), some (iV (i2)), some (iV (i3)), some (iV (i4)), some (iV (i5)), o6, o7] [iV (z), iV (i5)] m' Q → Q' (.inl (some (iV (z)))) m') → T G (dp - 1) 0 0 M9_candidates [rV (some r0), iV (i2)] m Q')  : X G dp a b M9_mistakeOf 7 [some (rV (some r0)), some (iV (i1)), some (iV (i2)), some (iV (i3)), some (iV (i4)), some (iV (i5)), o6, o7] [] m Q := by
  refine X_iload dX9_mistakeOf_7 rfl ?_
  refine X_aload_n dX9_mistakeOf_9 rfl rfl ?_
  refine X_iload_n dX9_mistakeOf_10 rfl rfl ?_
  exact X_callV (As := [iV (i2)]) (rest := [iV (i5)]) (a' := 0) (b' := 0) dX9_mistakeOf_11 t9_candidates ml_9_87 h1 rfl rfl (Nat.le_of_ble_eq_true rfl) rfl hdp (Nat.zero_le _) (Nat.zero_le _) (k1 _ (fun z m' h => h))

theorem s9_mistakeOf_14 {G : am_G} {dp a b : Nat} {m : am_M} {Q : am_Q} {i1 i2 i3 i4 i5 i90 i91 : Int} {r0 : Nat} {o6 o7 : Option am_V} (hdp : 1 ≤ dp) (h1 : am_ob m r0 8) (k1 : (i90 ≤ i91) → Q (.inl (some (iV (i4)))) m) (k2 : ¬ (i90 ≤ i91) → ¬ (i5 = i3) → ∀ Q' : am_Q, (∀ (z : Int) (m' : am_M), X G dp a b M9_mistakeOf 32 [some (rV (some r0)), some (iV (i1)), some (iV (i2)), some (iV (i3)), some (iV (i4)), some (iV (i5)), o6, o7] [iV (z)] m' Q → Q' (.inl (some (iV (z)))) m') → T G (dp - 1) 0 0 M9_recorded [rV (some r0), iV (i1), iV (i2)] m Q') (k3 : ¬ (i90 ≤ i91) → (i5 = i3) → X G dp a b M9_mistakeOf 7 [some (rV (some r0)), some (iV (i1)), some (iV (i2)), some (iV (i3)), some (iV (i4)), some (iV (wr (i5 + 1))), o6, o7] [] m Q)  : X G dp a b M9_mistakeOf 14 [some (rV (some r0)), some (iV (i1)), some (iV (i2)), some (iV (i3)), some (iV (i4)), some (iV (i5)), o6, o7] [iV (i90), iV (i91)] m Q := by
  refine X_icmp_ge (tgt := 72) dX9_mistakeOf_14 (by decide) (fun c1 => ?_) (fun c1 => ?_)
  · refine X_iload dX9_mistakeOf_72 rfl ?_
    exact X_iret dX9_mistakeOf_74 rfl (k1 c1)
  · refine X_iload dX9_mistakeOf_17 rfl ?_
    refine X_iload_n dX9_mistakeOf_19 rfl rfl ?_
    refine X_icmp_ne (tgt := 26) dX9_mistakeOf_20 (by decide) (fun c2 => ?_) (fun c2 => ?_)
    · refine X_aload_n dX9_mistakeOf_26 rfl rfl ?_
      refine X_iload_n dX9_mistakeOf_27 rfl rfl ?_
      refine X_iload_n dX9_mistakeOf_28 rfl rfl ?_
      exact X_callV (As := [iV (i1), iV (i2)]) (rest := []) (a' := 0) (b' := 0) dX9_mistakeOf_29 t9_recorded ml_9_95 h1 rfl rfl (Nat.le_of_ble_eq_true rfl) rfl hdp (Nat.zero_le _) (Nat.zero_le _) ((k2 c1 c2) _ (fun z m' h => h))
    · refine X_goto (tgt := 66) dX9_mistakeOf_23 (by decide) ?_
      refine X_iinc dX9_mistakeOf_66 rfl ?_
      refine X_goto (tgt := 7) dX9_mistakeOf_69 (by decide) ?_
      exact (k3 c1 c2)

theorem s9_mistakeOf_32 {G : am_G} {dp a b : Nat} {m : am_M} {Q : am_Q} {i1 i2 i3 i4 i5 i90 : Int} {r0 : Nat} {o6 o7 : Option am_V} (hdp : 1 ≤ dp)  (k1 : ∀ Q' : am_Q, (∀ (z : Int) (m' : am_M), X G dp a b M9_mistakeOf 38 [some (rV (some r0)), some (iV (i1)), some (iV (i2)), some (iV (i3)), some (iV (i4)), some (iV (i5)), o6, o7] [iV (z)] m' Q → Q' (.inl (some (iV (z)))) m') → T G (dp - 1) 0 0 M9_signOf [iV (i90), iV (i3), iV (i5)] m Q')  : X G dp a b M9_mistakeOf 32 [some (rV (some r0)), some (iV (i1)), some (iV (i2)), some (iV (i3)), some (iV (i4)), some (iV (i5)), o6, o7] [iV (i90)] m Q := by
  refine X_iload_n dX9_mistakeOf_32 rfl rfl ?_
  refine X_iload dX9_mistakeOf_33 rfl ?_
  exact X_callS (As := [iV (i90), iV (i3), iV (i5)]) (rest := []) (a' := 0) (b' := 0) dX9_mistakeOf_35 t9_signOf ml_9_106 rfl rfl (Nat.le_of_ble_eq_true rfl) rfl hdp (Nat.zero_le _) (Nat.zero_le _) (k1 _ (fun z m' h => h))

theorem s9_mistakeOf_38 {G : am_G} {dp a b : Nat} {m : am_M} {Q : am_Q} {i1 i2 i3 i4 i5 i90 : Int} {r0 : Nat} {o6 o7 : Option am_V} (hdp : 1 ≤ dp) (h1 : am_ob m r0 8) (k1 : ∀ Q' : am_Q, (∀ (z : Int) (m' : am_M), X G dp a b M9_mistakeOf 46 [some (rV (some r0)), some (iV (i1)), some (iV (i2)), some (iV (i3)), some (iV (i4)), some (iV (i5)), some (iV (i90)), o7] [iV (z)] m' Q → Q' (.inl (some (iV (z)))) m') → T G (dp - 1) 0 0 M9_shown [rV (some r0), iV (i1), iV (i2)] m Q')  : X G dp a b M9_mistakeOf 38 [some (rV (some r0)), some (iV (i1)), some (iV (i2)), some (iV (i3)), some (iV (i4)), some (iV (i5)), o6, o7] [iV (i90)] m Q := by
  refine X_istore dX9_mistakeOf_38 (Nat.le_of_ble_eq_true rfl) ?_
  refine X_aload_n dX9_mistakeOf_40 rfl rfl ?_
  refine X_iload_n dX9_mistakeOf_41 rfl rfl ?_
  refine X_iload_n dX9_mistakeOf_42 rfl rfl ?_
  exact X_callV (As := [iV (i1), iV (i2)]) (rest := []) (a' := 0) (b' := 0) dX9_mistakeOf_43 t9_shown ml_9_103 h1 rfl rfl (Nat.le_of_ble_eq_true rfl) rfl hdp (Nat.zero_le _) (Nat.zero_le _) (k1 _ (fun z m' h => h))

theorem s9_mistakeOf_46 {G : am_G} {dp a b : Nat} {m : am_M} {Q : am_Q} {i1 i2 i3 i4 i5 i6 i90 : Int} {r0 : Nat} {o7 : Option am_V} (hdp : 1 ≤ dp)  (k1 : ∀ Q' : am_Q, (∀ (z : Int) (m' : am_M), X G dp a b M9_mistakeOf 52 [some (rV (some r0)), some (iV (i1)), some (iV (i2)), some (iV (i3)), some (iV (i4)), some (iV (i5)), some (iV (i6)), o7] [iV (z)] m' Q → Q' (.inl (some (iV (z)))) m') → T G (dp - 1) 0 0 M9_signOf [iV (i90), iV (i3), iV (i5)] m Q')  : X G dp a b M9_mistakeOf 46 [some (rV (some r0)), some (iV (i1)), some (iV (i2)), some (iV (i3)), some (iV (i4)), some (iV (i5)), some (iV (i6)), o7] [iV (i90)] m Q := by
  refine X_iload_n dX9_mistakeOf_46 rfl rfl ?_
  refine X_iload dX9_mistakeOf_47 rfl ?_
  exact X_callS (As := [iV (i90), iV (i3), iV (i5)]) (rest := []) (a' := 0) (b' := 0) dX9_mistakeOf_49 t9_signOf ml_9_106 rfl rfl (Nat.le_of_ble_eq_true rfl) rfl hdp (Nat.zero_le _) (Nat.zero_le _) (k1 _ (fun z m' h => h))

theorem s9_mistakeOf_52 {G : am_G} {dp a b : Nat} {m : am_M} {Q : am_Q} {i1 i2 i3 i4 i5 i6 i90 : Int} {r0 : Nat} {o7 : Option am_V}  (k1 : X G dp a b M9_mistakeOf 7 [some (rV (some r0)), some (iV (i1)), some (iV (i2)), some (iV (i3)), some (iV (max i4 (wr (i6 - i90)))), some (iV (wr (i5 + 1))), some (iV (i6)), some (iV (i90))] [] m Q)  : X G dp a b M9_mistakeOf 52 [some (rV (some r0)), some (iV (i1)), some (iV (i2)), some (iV (i3)), some (iV (i4)), some (iV (i5)), some (iV (i6)), o7] [iV (i90)] m Q := by
  refine X_istore dX9_mistakeOf_52 (Nat.le_of_ble_eq_true rfl) ?_
  refine X_iload dX9_mistakeOf_54 rfl ?_
  refine X_iload dX9_mistakeOf_56 rfl ?_
  refine X_iload dX9_mistakeOf_58 rfl ?_
  refine X_isub dX9_mistakeOf_60  ?_
  refine X_maxI dX9_mistakeOf_61 ml_9_109 (Nat.le_of_ble_eq_true rfl) ?_
  refine X_istore dX9_mistakeOf_64 (Nat.le_of_ble_eq_true rfl) ?_
  refine X_iinc dX9_mistakeOf_66 rfl ?_
  refine X_goto (tgt := 7) dX9_mistakeOf_69 (by decide) ?_
  exact k1

theorem s9_layRaces_0 {G : am_G} {dp a b : Nat} {m : am_M} {Q : am_Q} {r0 : Nat} {o1 o2 : Option am_V} (hdp : 1 ≤ dp) (h1 : am_ob m r0 8) (k1 : ∀ Q' : am_Q, (∀ (m' : am_M), X G dp a b M9_layRaces 4 [some (rV (some r0)), o1, o2] [] m' Q → Q' (.inl none) m') → T G (dp - 1) 0 0 M9_layVotes [rV (some r0)] m Q')  : X G dp a b M9_layRaces 0 [some (rV (some r0)), o1, o2] [] m Q := by
  refine X_aload_n dX9_layRaces_0 rfl rfl ?_
  exact X_callV (As := []) (rest := []) (a' := 0) (b' := 0) dX9_layRaces_1 t9_layVotes ml_9_114 h1 rfl rfl (Nat.le_of_ble_eq_true rfl) rfl hdp (Nat.zero_le _) (Nat.zero_le _) (k1 _ (fun m' h => h))

theorem s9_layRaces_4 {G : am_G} {dp a b : Nat} {m : am_M} {Q : am_Q} {r0 : Nat} {o1 o2 : Option am_V}  (k1 : X G dp a b M9_layRaces 6 [some (rV (some r0)), some (iV (0)), o2] [] m Q)  : X G dp a b M9_layRaces 4 [some (rV (some r0)), o1, o2] [] m Q := by
  refine Y_iconst dX9_layRaces_4 (by unfold i32; omega) ?_
  refine X_istore_n dX9_layRaces_5 rfl (Nat.le_of_ble_eq_true rfl) ?_
  exact k1

theorem s9_layRaces_6 {G : am_G} {dp a b : Nat} {m : am_M} {Q : am_Q} {i1 : Int} {r0 : Nat} {o2 : Option am_V} (hdp : 1 ≤ dp) (h1 : am_ob m r0 8) (k1 : ∀ Q' : am_Q, (∀ (z : Int) (m' : am_M), X G dp a b M9_layRaces 11 [some (rV (some r0)), some (iV (i1)), o2] [iV (z), iV (i1)] m' Q → Q' (.inl (some (iV (z)))) m') → T G (dp - 1) 0 0 M9_races [rV (some r0)] m Q')  : X G dp a b M9_layRaces 6 [some (rV (some r0)), some (iV (i1)), o2] [] m Q := by
  refine X_iload_n dX9_layRaces_6 rfl rfl ?_
  refine X_aload_n dX9_layRaces_7 rfl rfl ?_
  exact X_callV (As := []) (rest := [iV (i1)]) (a' := 0) (b' := 0) dX9_layRaces_8 t9_races ml_9_76 h1 rfl rfl (Nat.le_of_ble_eq_true rfl) rfl hdp (Nat.zero_le _) (Nat.zero_le _) (k1 _ (fun z m' h => h))

theorem s9_layRaces_11 {G : am_G} {dp a b : Nat} {m : am_M} {Q : am_Q} {i1 i90 i91 : Int} {r0 p1 p2 : Nat} {o2 : Option am_V} (hdp : 1 ≤ dp) (h1 : am_ob m r0 8) (h2 : m.2.1 r0 10 = some p1) (h3 : m.2.1 r0 8 = some p2) (k1 : (i90 ≤ i91) → Q (.inl none) m) (k2 : ¬ (i90 ≤ i91) → ∀ Q' : am_Q, (∀ (z : Int) (m' : am_M), X G dp a b M9_layRaces 28 [some (rV (some r0)), some (iV (i1)), o2] [iV (z), iV (i1), rV (some p1)] m' Q → Q' (.inl (some (iV (z)))) m') → T G (dp - 1) 0 0 M9_firstBy [rV (some r0), iV (i1), rV (some p2)] m Q')  : X G dp a b M9_layRaces 11 [some (rV (some r0)), some (iV (i1)), o2] [iV (i90), iV (i91)] m Q := by
  refine X_icmp_ge (tgt := 126) dX9_layRaces_11 (by decide) (fun c1 => ?_) (fun c1 => ?_)
  · exact X_vret dX9_layRaces_126 rfl (k1 c1)
  · refine X_aload_n dX9_layRaces_14 rfl rfl ?_
    refine X_getP dX9_layRaces_15 fl_9_31 rfl h1 ?_
    refine am_ptr h2 ?_
    refine X_iload_n dX9_layRaces_18 rfl rfl ?_
    refine X_aload_n dX9_layRaces_19 rfl rfl ?_
    refine X_iload_n dX9_layRaces_20 rfl rfl ?_
    refine X_aload_n dX9_layRaces_21 rfl rfl ?_
    refine X_getP dX9_layRaces_22 fl_9_25 rfl h1 ?_
    refine am_ptr h3 ?_
    exact X_callV (As := [iV (i1), rV (some p2)]) (rest := [iV (i1), rV (some p1)]) (a' := 0) (b' := 0) dX9_layRaces_25 t9_firstBy ml_9_117 h1 rfl rfl (Nat.le_of_ble_eq_true rfl) rfl hdp (Nat.zero_le _) (Nat.zero_le _) ((k2 c1) _ (fun z m' h => h))

theorem s9_layRaces_28 {G : am_G} {dp a b : Nat} {m : am_M} {Q : am_Q} {i1 i90 i91 : Int} {r0 r92 p1 p2 : Nat} {o2 : Option am_V} {n_r92 : Nat} (hdp : 1 ≤ dp) (h1 : am_arw m r92 100 n_r92) (h4 : am_ob m r0 8) (h5 : m.2.1 r0 11 = some p1) (h6 : m.2.1 r0 9 = some p2) (k1 : ∀ Q' : am_Q, (∀ (z : Int) (m' : am_M), X G dp a b M9_layRaces 43 [some (rV (some r0)), some (iV (i1)), o2] [iV (z), iV (i1), rV (some p1)] m' Q → Q' (.inl (some (iV (z)))) m') → T G (dp - 1) 0 0 M9_firstBy [rV (some r0), iV (i1), rV (some p2)] ((u2 m.1 r92 (i91).toNat (i90)), m.2.1, m.2.2) Q') (h2 : 0 ≤ i91 := by intros; first | omega | (dsimp only at *; omega)) (h3 : i91 < (n_r92 : Int) := by intros; first | omega | (dsimp only at *; omega)) : X G dp a b M9_layRaces 28 [some (rV (some r0)), some (iV (i1)), o2] [iV (i90), iV (i91), rV (some r92)] m Q := by
  refine X_iast dX9_layRaces_28 h1 h2 h3 ?_
  refine X_aload_n dX9_layRaces_29 rfl rfl ?_
  refine X_getP dX9_layRaces_30 fl_9_34 rfl h4 ?_
  refine am_ptr h5 ?_
  refine X_iload_n dX9_layRaces_33 rfl rfl ?_
  refine X_aload_n dX9_layRaces_34 rfl rfl ?_
  refine X_iload_n dX9_layRaces_35 rfl rfl ?_
  refine X_aload_n dX9_layRaces_36 rfl rfl ?_
  refine X_getP dX9_layRaces_37 fl_9_28 rfl h4 ?_
  refine am_ptr h6 ?_
  exact X_callV (As := [iV (i1), rV (some p2)]) (rest := [iV (i1), rV (some p1)]) (a' := 0) (b' := 0) dX9_layRaces_40 t9_firstBy ml_9_117 h4 rfl rfl (Nat.le_of_ble_eq_true rfl) rfl hdp (Nat.zero_le _) (Nat.zero_le _) (k1 _ (fun z m' h => h))

theorem s9_layRaces_43 {G : am_G} {dp a b : Nat} {m : am_M} {Q : am_Q} {i1 i90 i91 : Int} {r0 r92 p1 p2 p3 : Nat} {o2 : Option am_V} {n_r92 n_p3 n_p2 : Nat} (hdp : 1 ≤ dp) (h1 : am_arw m r92 100 n_r92) (h4 : am_ob m r0 8) (h5 : m.2.1 r0 12 = some p1) (h6 : m.2.1 r0 8 = some p2) (h7 : m.2.1 r0 10 = some p3) (h8 : am_ar m p3 100 n_p3) (h11 : am_ar m p2 100 n_p2) (k1 : ∀ Q' : am_Q, (∀ (z : Int) (m' : am_M), X G dp a b M9_layRaces 76 [some (rV (some r0)), some (iV (i1)), o2] [iV (z), iV (wr (4 * i1)), rV (some p2), iV ((u2 m.1 r92 (i91).toNat (i90)) p2 (wr ((wr (4 * i1)) + ((u2 m.1 r92 (i91).toNat (i90)) p3 (i1).toNat))).toNat), iV (i1), rV (some p1)] m' Q → Q' (.inl (some (iV (z)))) m') → T G (dp - 1) 0 0 M9_second [rV (some r0), iV (i1)] ((u2 m.1 r92 (i91).toNat (i90)), m.2.1, m.2.2) Q') (h2 : 0 ≤ i91 := by intros; first | omega | (dsimp only at *; omega)) (h3 : i91 < (n_r92 : Int) := by intros; first | omega | (dsimp only at *; omega)) (h9 : 0 ≤ i1 := by intros; first | omega | (dsimp only at *; omega)) (h10 : i1 < (n_p3 : Int) := by intros; first | omega | (dsimp only at *; omega)) (h12 : 0 ≤ wr ((wr (4 * i1)) + ((u2 m.1 r92 (i91).toNat (i90)) p3 (i1).toNat)) := by intros; first | omega | (dsimp only at *; omega)) (h13 : wr ((wr (4 * i1)) + ((u2 m.1 r92 (i91).toNat (i90)) p3 (i1).toNat)) < (n_p2 : Int) := by intros; first | omega | (dsimp only at *; omega)) : X G dp a b M9_layRaces 43 [some (rV (some r0)), some (iV (i1)), o2] [iV (i90), iV (i91), rV (some r92)] m Q := by
  refine X_iast dX9_layRaces_43 h1 h2 h3 ?_
  refine X_aload_n dX9_layRaces_44 rfl rfl ?_
  refine X_getP dX9_layRaces_45 fl_9_37 rfl h4 ?_
  refine am_ptr h5 ?_
  refine X_iload_n dX9_layRaces_48 rfl rfl ?_
  refine X_aload_n dX9_layRaces_49 rfl rfl ?_
  refine X_getP dX9_layRaces_50 fl_9_25 rfl h4 ?_
  refine am_ptr h6 ?_
  refine Y_iconst dX9_layRaces_53 (by unfold i32; omega) ?_
  refine X_iload_n dX9_layRaces_54 rfl rfl ?_
  refine X_imul dX9_layRaces_55  ?_
  refine X_aload_n dX9_layRaces_56 rfl rfl ?_
  refine X_getP dX9_layRaces_57 fl_9_31 rfl h4 ?_
  refine am_ptr h7 ?_
  refine X_iload_n dX9_layRaces_60 rfl rfl ?_
  refine X_iald dX9_layRaces_61 h8 h9 h10 ?_
  refine X_iadd dX9_layRaces_62  ?_
  refine X_iald dX9_layRaces_63 h11 h12 h13 ?_
  refine X_aload_n dX9_layRaces_64 rfl rfl ?_
  refine X_getP dX9_layRaces_65 fl_9_25 rfl h4 ?_
  refine am_ptr h6 ?_
  refine Y_iconst dX9_layRaces_68 (by unfold i32; omega) ?_
  refine X_iload_n dX9_layRaces_69 rfl rfl ?_
  refine X_imul dX9_layRaces_70  ?_
  refine X_aload_n dX9_layRaces_71 rfl rfl ?_
  refine X_iload_n dX9_layRaces_72 rfl rfl ?_
  exact X_callV (As := [iV (i1)]) (rest := [iV (wr (4 * i1)), rV (some p2), iV ((u2 m.1 r92 (i91).toNat (i90)) p2 (wr ((wr (4 * i1)) + ((u2 m.1 r92 (i91).toNat (i90)) p3 (i1).toNat))).toNat), iV (i1), rV (some p1)]) (a' := 0) (b' := 0) dX9_layRaces_73 t9_second ml_9_121 h4 rfl rfl (Nat.le_of_ble_eq_true rfl) rfl hdp (Nat.zero_le _) (Nat.zero_le _) (k1 _ (fun z m' h => h))

theorem s9_layRaces_76 {G : am_G} {dp a b : Nat} {m : am_M} {Q : am_Q} {i1 i90 i91 i93 i94 : Int} {r0 r92 r95 : Nat} {o2 : Option am_V} {n_r92 n_r95 : Nat} (h1 : am_ar m r92 100 n_r92) (h4 : am_arw m r95 100 n_r95) (k1 : X G dp a b M9_layRaces 82 [some (rV (some r0)), some (iV (i1)), some (iV (0))] [] ((u2 m.1 r95 (i94).toNat (wr (i93 - (m.1 r92 (wr (i91 + i90)).toNat)))), m.2.1, m.2.2) Q) (h2 : 0 ≤ wr (i91 + i90) := by intros; first | omega | (dsimp only at *; omega)) (h3 : wr (i91 + i90) < (n_r92 : Int) := by intros; first | omega | (dsimp only at *; omega)) (h5 : 0 ≤ i94 := by intros; first | omega | (dsimp only at *; omega)) (h6 : i94 < (n_r95 : Int) := by intros; first | omega | (dsimp only at *; omega)) : X G dp a b M9_layRaces 76 [some (rV (some r0)), some (iV (i1)), o2] [iV (i90), iV (i91), rV (some r92), iV (i93), iV (i94), rV (some r95)] m Q := by
  refine X_iadd dX9_layRaces_76  ?_
  refine X_iald dX9_layRaces_77 h1 h2 h3 ?_
  refine X_isub dX9_layRaces_78  ?_
  refine X_iast dX9_layRaces_79 h4 h5 h6 ?_
  refine Y_iconst dX9_layRaces_80 (by unfold i32; omega) ?_
  refine X_istore_n dX9_layRaces_81 rfl (Nat.le_of_ble_eq_true rfl) ?_
  exact k1

theorem s9_layRaces_82 {G : am_G} {dp a b : Nat} {m : am_M} {Q : am_Q} {i1 i2 : Int} {r0 : Nat} (hdp : 1 ≤ dp) (h1 : am_ob m r0 8) (k1 : ∀ Q' : am_Q, (∀ (z : Int) (m' : am_M), X G dp a b M9_layRaces 87 [some (rV (some r0)), some (iV (i1)), some (iV (i2))] [iV (z), iV (i2)] m' Q → Q' (.inl (some (iV (z)))) m') → T G (dp - 1) 0 0 M9_ballots [rV (some r0)] m Q')  : X G dp a b M9_layRaces 82 [some (rV (some r0)), some (iV (i1)), some (iV (i2))] [] m Q := by
  refine X_iload_n dX9_layRaces_82 rfl rfl ?_
  refine X_aload_n dX9_layRaces_83 rfl rfl ?_
  exact X_callV (As := []) (rest := [iV (i2)]) (a' := 0) (b' := 0) dX9_layRaces_84 t9_ballots ml_9_84 h1 rfl rfl (Nat.le_of_ble_eq_true rfl) rfl hdp (Nat.zero_le _) (Nat.zero_le _) (k1 _ (fun z m' h => h))

theorem s9_layRaces_87 {G : am_G} {dp a b : Nat} {m : am_M} {Q : am_Q} {i1 i2 i90 i91 : Int} {r0 p1 p2 : Nat} {n_p2 : Nat} (hdp : 1 ≤ dp) (h1 : am_ob m r0 8) (h2 : m.2.1 r0 13 = some p1) (h3 : m.2.1 r0 10 = some p2) (h4 : am_ar m p2 100 n_p2) (k1 : (i90 ≤ i91) → X G dp a b M9_layRaces 6 [some (rV (some r0)), some (iV (wr (i1 + 1))), some (iV (i2))] [] m Q) (k2 : ¬ (i90 ≤ i91) → ∀ Q' : am_Q, (∀ (z : Int) (m' : am_M), X G dp a b M9_layRaces 113 [some (rV (some r0)), some (iV (i1)), some (iV (i2))] [iV (z), iV (wr ((wr (200 * i1)) + i2)), rV (some p1)] m' Q → Q' (.inl (some (iV (z)))) m') → T G (dp - 1) 0 0 M9_mistakeOf [rV (some r0), iV (i2), iV (i1), iV (m.1 p2 (i1).toNat)] m Q') (h5 : ¬ (i90 ≤ i91) → 0 ≤ i1 := by intros; first | omega | (dsimp only at *; omega)) (h6 : ¬ (i90 ≤ i91) → i1 < (n_p2 : Int) := by intros; first | omega | (dsimp only at *; omega)) : X G dp a b M9_layRaces 87 [some (rV (some r0)), some (iV (i1)), some (iV (i2))] [iV (i90), iV (i91)] m Q := by
  refine X_icmp_ge (tgt := 120) dX9_layRaces_87 (by decide) (fun c1 => ?_) (fun c1 => ?_)
  · refine X_iinc dX9_layRaces_120 rfl ?_
    refine X_goto (tgt := 6) dX9_layRaces_123 (by decide) ?_
    exact (k1 c1)
  · refine X_aload_n dX9_layRaces_90 rfl rfl ?_
    refine X_getP dX9_layRaces_91 fl_9_40 rfl h1 ?_
    refine am_ptr h2 ?_
    refine Y_sipush dX9_layRaces_94 (by omega) ?_
    refine X_iload_n dX9_layRaces_97 rfl rfl ?_
    refine X_imul dX9_layRaces_98  ?_
    refine X_iload_n dX9_layRaces_99 rfl rfl ?_
    refine X_iadd dX9_layRaces_100  ?_
    refine X_aload_n dX9_layRaces_101 rfl rfl ?_
    refine X_iload_n dX9_layRaces_102 rfl rfl ?_
    refine X_iload_n dX9_layRaces_103 rfl rfl ?_
    refine X_aload_n dX9_layRaces_104 rfl rfl ?_
    refine X_getP dX9_layRaces_105 fl_9_31 rfl h1 ?_
    refine am_ptr h3 ?_
    refine X_iload_n dX9_layRaces_108 rfl rfl ?_
    refine X_iald dX9_layRaces_109 h4 (h5 c1) (h6 c1) ?_
    exact X_callV (As := [iV (i2), iV (i1), iV (m.1 p2 (i1).toNat)]) (rest := [iV (wr ((wr (200 * i1)) + i2)), rV (some p1)]) (a' := 0) (b' := 0) dX9_layRaces_110 t9_mistakeOf ml_9_124 h1 rfl rfl (Nat.le_of_ble_eq_true rfl) rfl hdp (Nat.zero_le _) (Nat.zero_le _) ((k2 c1) _ (fun z m' h => h))

theorem s9_layRaces_113 {G : am_G} {dp a b : Nat} {m : am_M} {Q : am_Q} {i1 i2 i90 i91 : Int} {r0 r92 : Nat} {n_r92 : Nat} (h1 : am_arw m r92 100 n_r92) (k1 : X G dp a b M9_layRaces 82 [some (rV (some r0)), some (iV (i1)), some (iV (wr (i2 + 1)))] [] ((u2 m.1 r92 (i91).toNat (i90)), m.2.1, m.2.2) Q) (h2 : 0 ≤ i91 := by intros; first | omega | (dsimp only at *; omega)) (h3 : i91 < (n_r92 : Int) := by intros; first | omega | (dsimp only at *; omega)) : X G dp a b M9_layRaces 113 [some (rV (some r0)), some (iV (i1)), some (iV (i2))] [iV (i90), iV (i91), rV (some r92)] m Q := by
  refine X_iast dX9_layRaces_113 h1 h2 h3 ?_
  refine X_iinc dX9_layRaces_114 rfl ?_
  refine X_goto (tgt := 82) dX9_layRaces_117 (by decide) ?_
  exact k1

theorem s9_mistakeAt_0 {G : am_G} {dp a b : Nat} {m : am_M} {Q : am_Q} {i1 i2 : Int} {r0 p1 : Nat} {n_p1 : Nat} (h1 : am_ob m r0 8) (h2 : m.2.1 r0 13 = some p1) (h3 : am_ar m p1 100 n_p1) (k1 : Q (.inl (some (iV (m.1 p1 (wr ((wr (200 * i2)) + i1)).toNat)))) m) (h4 : 0 ≤ wr ((wr (200 * i2)) + i1) := by intros; first | omega | (dsimp only at *; omega)) (h5 : wr ((wr (200 * i2)) + i1) < (n_p1 : Int) := by intros; first | omega | (dsimp only at *; omega)) : X G dp a b M9_mistakeAt 0 [some (rV (some r0)), some (iV (i1)), some (iV (i2))] [] m Q := by
  refine X_aload_n dX9_mistakeAt_0 rfl rfl ?_
  refine X_getP dX9_mistakeAt_1 fl_9_40 rfl h1 ?_
  refine am_ptr h2 ?_
  refine Y_sipush dX9_mistakeAt_4 (by omega) ?_
  refine X_iload_n dX9_mistakeAt_7 rfl rfl ?_
  refine X_imul dX9_mistakeAt_8  ?_
  refine X_iload_n dX9_mistakeAt_9 rfl rfl ?_
  refine X_iadd dX9_mistakeAt_10  ?_
  refine X_iald dX9_mistakeAt_11 h3 h4 h5 ?_
  exact X_iret dX9_mistakeAt_12 rfl k1

theorem s9_kept_0 {G : am_G} {dp a b : Nat} {m : am_M} {Q : am_Q} {l0 : Int}  (k1 : (0 ≤ (lc l0 1)) → ((lc l0 10000000000000) ≤ 0) → Q (.inl (some (lV (l0)))) m) (k2 : (0 ≤ (lc l0 1)) → ¬ ((lc l0 10000000000000) ≤ 0) → Q (.inl (some (lV (10000000000000)))) m) (k3 : ¬ (0 ≤ (lc l0 1)) → Q (.inl (some (lV (1)))) m)  : X G dp a b M9_kept 0 [some (lV (l0)), none] [] m Q := by
  refine X_lload_n dX9_kept_0 rfl rfl ?_
  refine Y_lconst1 dX9_kept_1 ?_
  refine X_lcmp dX9_kept_2 ?_
  refine X_if_ge (tgt := 8) dX9_kept_3 (by decide) (fun c1 => ?_) (fun c1 => ?_)
  · refine X_lload_n dX9_kept_8 rfl rfl ?_
    refine X_ldc2 dX9_kept_9 kc_9_127 (by unfold i64; omega) ?_
    refine X_lcmp dX9_kept_12 ?_
    refine X_if_le (tgt := 22) dX9_kept_13 (by decide) (fun c2 => ?_) (fun c2 => ?_)
    · refine X_lload_n dX9_kept_22 rfl rfl ?_
      exact X_lret dX9_kept_23 rfl (k1 c1 c2)
    · refine X_ldc2 dX9_kept_16 kc_9_127 (by unfold i64; omega) ?_
      refine X_goto (tgt := 23) dX9_kept_19 (by decide) ?_
      exact X_lret dX9_kept_23 rfl (k2 c1 c2)
  · refine Y_lconst1 dX9_kept_6 ?_
    exact X_lret dX9_kept_7 rfl (k3 c1)

theorem s9_times_0 {G : am_G} {dp a b : Nat} {m : am_M} {Q : am_Q} {l0 l2 l4 : Int} {o6 o7 o8 o9 : Option am_V} (hdp : 1 ≤ dp)  (k1 : (0 < (lc l4 0)) → (0 < (lc l2 0)) → ((lc (wrl (Int.tdiv l0 l4)) (wrl (Int.tdiv 10000000000000 l2))) ≤ 0) → ∀ Q' : am_Q, (∀ (z : Int) (m' : am_M), X G dp a b M9_times 66 [some (lV (l0)), none, some (lV (l2)), none, some (lV (l4)), none, some (lV (wrl (Int.tdiv l0 l4))), none, some (lV (Int.tmod l0 l4)), none] [lV (z)] m' Q → Q' (.inl (some (lV (z)))) m') → T G (dp - 1) 0 0 M9_kept [lV (wrl ((wrl ((wrl (Int.tdiv l0 l4)) * l2)) + (wrl (Int.tdiv (wrl ((wrl ((wrl ((Int.tmod l0 l4) * l2)) + l4)) - 1)) l4))))] m Q') (k2 : (0 < (lc l4 0)) → (0 < (lc l2 0)) → ¬ ((lc (wrl (Int.tdiv l0 l4)) (wrl (Int.tdiv 10000000000000 l2))) ≤ 0) → Q (.inl (some (lV (10000000000000)))) m) (k3 : (0 < (lc l4 0)) → ¬ (0 < (lc l2 0)) → Q (.inl (some (lV (1)))) m) (k4 : ¬ (0 < (lc l4 0)) → Q (.inl (some (lV (10000000000000)))) m) (h1 : 0 < (lc l4 0) → 0 < (lc l2 0) → l4 ≠ 0 := by intros; first | omega | (dsimp only at *; omega)) (h2 : 0 < (lc l4 0) → 0 < (lc l2 0) → l2 ≠ 0 := by intros; first | omega | (dsimp only at *; omega)) : X G dp a b M9_times 0 [some (lV (l0)), none, some (lV (l2)), none, some (lV (l4)), none, o6, o7, o8, o9] [] m Q := by
  refine X_lload dX9_times_0 rfl ?_
  refine Y_lconst0 dX9_times_2 ?_
  refine X_lcmp dX9_times_3 ?_
  refine X_if_gt (tgt := 11) dX9_times_4 (by decide) (fun c1 => ?_) (fun c1 => ?_)
  · refine X_lload_n dX9_times_11 rfl rfl ?_
    refine Y_lconst0 dX9_times_12 ?_
    refine X_lcmp dX9_times_13 ?_
    refine X_if_gt (tgt := 19) dX9_times_14 (by decide) (fun c2 => ?_) (fun c2 => ?_)
    · refine X_lload_n dX9_times_19 rfl rfl ?_
      refine X_lload dX9_times_20 rfl ?_
      refine X_ldiv dX9_times_22 (h1 c1 c2) ?_
      refine X_lstore dX9_times_23 (Nat.le_of_ble_eq_true rfl) ?_
      refine X_lload_n dX9_times_25 rfl rfl ?_
      refine X_lload dX9_times_26 rfl ?_
      refine X_lrem dX9_times_28 (h1 c1 c2) ?_
      refine X_lstore dX9_times_29 (Nat.le_of_ble_eq_true rfl) ?_
      refine X_lload dX9_times_31 rfl ?_
      refine X_ldc2 dX9_times_33 kc_9_127 (by unfold i64; omega) ?_
      refine X_lload_n dX9_times_36 rfl rfl ?_
      refine X_ldiv dX9_times_37 (h2 c1 c2) ?_
      refine X_lcmp dX9_times_38 ?_
      refine X_if_le (tgt := 46) dX9_times_39 (by decide) (fun c3 => ?_) (fun c3 => ?_)
      · refine X_lload dX9_times_46 rfl ?_
        refine X_lload_n dX9_times_48 rfl rfl ?_
        refine X_lmul dX9_times_49  ?_
        refine X_lload dX9_times_50 rfl ?_
        refine X_lload_n dX9_times_52 rfl rfl ?_
        refine X_lmul dX9_times_53  ?_
        refine X_lload dX9_times_54 rfl ?_
        refine X_ladd dX9_times_56  ?_
        refine Y_lconst1 dX9_times_57 ?_
        refine X_lsub dX9_times_58  ?_
        refine X_lload dX9_times_59 rfl ?_
        refine X_ldiv dX9_times_61 (h1 c1 c2) ?_
        refine X_ladd dX9_times_62  ?_
        exact X_callS (As := [lV (wrl ((wrl ((wrl (Int.tdiv l0 l4)) * l2)) + (wrl (Int.tdiv (wrl ((wrl ((wrl ((Int.tmod l0 l4) * l2)) + l4)) - 1)) l4))))]) (rest := []) (a' := 0) (b' := 0) dX9_times_63 t9_kept ml_9_129 rfl rfl (Nat.le_of_ble_eq_true rfl) rfl hdp (Nat.zero_le _) (Nat.zero_le _) ((k1 c1 c2 c3) _ (fun z m' h => h))
      · refine X_ldc2 dX9_times_42 kc_9_127 (by unfold i64; omega) ?_
        exact X_lret dX9_times_45 rfl (k2 c1 c2 c3)
    · refine Y_lconst1 dX9_times_17 ?_
      exact X_lret dX9_times_18 rfl (k3 c1 c2)
  · refine X_ldc2 dX9_times_7 kc_9_127 (by unfold i64; omega) ?_
    exact X_lret dX9_times_10 rfl (k4 c1)

theorem s9_times_66 {G : am_G} {dp a b : Nat} {m : am_M} {Q : am_Q} {l0 l2 l4 l6 l8 l90 : Int}  (k1 : Q (.inl (some (lV (l90)))) m)  : X G dp a b M9_times 66 [some (lV (l0)), none, some (lV (l2)), none, some (lV (l4)), none, some (lV (l6)), none, some (lV (l8)), none] [lV (l90)] m Q := by
  exact X_lret dX9_times_66 rfl k1

theorem s9_compared_0 {G : am_G} {dp a b : Nat} {m : am_M} {Q : am_Q} {i3 i4 i5 l1 : Int} {r0 : Nat} {o6 o7 : Option am_V} (hdp : 1 ≤ dp) (h1 : am_ob m r0 8) (k1 : ∀ Q' : am_Q, (∀ (z : Int) (m' : am_M), X G dp a b M9_compared 4 [some (rV (some r0)), some (lV (l1)), none, some (iV (i3)), some (iV (i4)), some (iV (i5)), o6, o7] [iV (z)] m' Q → Q' (.inl (some (iV (z)))) m') → T G (dp - 1) 0 0 M9_ballots [rV (some r0)] m Q')  : X G dp a b M9_compared 0 [some (rV (some r0)), some (lV (l1)), none, some (iV (i3)), some (iV (i4)), some (iV (i5)), o6, o7] [] m Q := by
  refine X_aload_n dX9_compared_0 rfl rfl ?_
  exact X_callV (As := []) (rest := []) (a' := 0) (b' := 0) dX9_compared_1 t9_ballots ml_9_84 h1 rfl rfl (Nat.le_of_ble_eq_true rfl) rfl hdp (Nat.zero_le _) (Nat.zero_le _) (k1 _ (fun z m' h => h))

theorem s9_compared_4 {G : am_G} {dp a b : Nat} {m : am_M} {Q : am_Q} {i3 i4 i5 i90 l1 : Int} {r0 p1 : Nat} {o6 o7 : Option am_V} {n_p1 : Nat} (hdp : 1 ≤ dp) (h1 : am_ob m r0 8) (h2 : m.2.1 r0 12 = some p1) (h3 : am_ar m p1 100 n_p1) (k1 : ∀ Q' : am_Q, (∀ (z : Int) (m' : am_M), X G dp a b M9_compared 43 [some (rV (some r0)), some (lV (l1)), none, some (iV (i3)), some (iV (i4)), some (iV (i5)), some (lV (i90)), none] [lV (z)] m' Q → Q' (.inl (some (lV (z)))) m') → T G (dp - 1) 0 0 M9_times [lV (l1), lV (wrl ((wrl (i4 * i90)) - (wrl (50 * (m.1 p1 (i3).toNat))))), lV (wrl (i90 * (wrl (i4 - (wrl (50 * i5))))))] m Q') (h4 : 0 ≤ i3 := by intros; first | omega | (dsimp only at *; omega)) (h5 : i3 < (n_p1 : Int) := by intros; first | omega | (dsimp only at *; omega)) : X G dp a b M9_compared 4 [some (rV (some r0)), some (lV (l1)), none, some (iV (i3)), some (iV (i4)), some (iV (i5)), o6, o7] [iV (i90)] m Q := by
  refine X_i2l dX9_compared_4 ?_
  refine X_lstore dX9_compared_5 (Nat.le_of_ble_eq_true rfl) ?_
  refine X_lload_n dX9_compared_7 rfl rfl ?_
  refine X_iload dX9_compared_8 rfl ?_
  refine X_i2l dX9_compared_10 ?_
  refine X_lload dX9_compared_11 rfl ?_
  refine X_lmul dX9_compared_13  ?_
  refine X_ldc2 dX9_compared_14 kc_9_133 (by unfold i64; omega) ?_
  refine X_aload_n dX9_compared_17 rfl rfl ?_
  refine X_getP dX9_compared_18 fl_9_37 rfl h1 ?_
  refine am_ptr h2 ?_
  refine X_iload_n dX9_compared_21 rfl rfl ?_
  refine X_iald dX9_compared_22 h3 h4 h5 ?_
  refine X_i2l dX9_compared_23 ?_
  refine X_lmul dX9_compared_24  ?_
  refine X_lsub dX9_compared_25  ?_
  refine X_lload dX9_compared_26 rfl ?_
  refine X_iload dX9_compared_28 rfl ?_
  refine X_i2l dX9_compared_30 ?_
  refine X_ldc2 dX9_compared_31 kc_9_133 (by unfold i64; omega) ?_
  refine X_iload dX9_compared_34 rfl ?_
  refine X_i2l dX9_compared_36 ?_
  refine X_lmul dX9_compared_37  ?_
  refine X_lsub dX9_compared_38  ?_
  refine X_lmul dX9_compared_39  ?_
  exact X_callS (As := [lV (l1), lV (wrl ((wrl (i4 * i90)) - (wrl (50 * (m.1 p1 (i3).toNat))))), lV (wrl (i90 * (wrl (i4 - (wrl (50 * i5))))))]) (rest := []) (a' := 0) (b' := 0) dX9_compared_40 t9_times ml_9_135 rfl rfl (Nat.le_of_ble_eq_true rfl) rfl hdp (Nat.zero_le _) (Nat.zero_le _) (k1 _ (fun z m' h => h))

theorem s9_compared_43 {G : am_G} {dp a b : Nat} {m : am_M} {Q : am_Q} {i3 i4 i5 l1 l6 l90 : Int} {r0 : Nat}  (k1 : Q (.inl (some (lV (l90)))) m)  : X G dp a b M9_compared 43 [some (rV (some r0)), some (lV (l1)), none, some (iV (i3)), some (iV (i4)), some (iV (i5)), some (lV (l6)), none] [lV (l90)] m Q := by
  exact X_lret dX9_compared_43 rfl k1

theorem s9_polled_0 {G : am_G} {dp a b : Nat} {m : am_M} {Q : am_Q} {i3 i4 i5 l1 : Int} {r0 p1 p2 : Nat} {o6 o7 o8 o9 : Option am_V} {n_p2 n_p1 : Nat} (hdp : 1 ≤ dp) (h1 : am_ob m r0 8) (h2 : m.2.1 r0 8 = some p1) (h3 : m.2.1 r0 10 = some p2) (h4 : am_ar m p2 100 n_p2) (h7 : am_ar m p1 100 n_p1) (k1 : ¬ (i5 = (m.1 p2 (i3).toNat)) → ¬ (i5 = i4) → Q (.inl (some (lV (l1)))) m) (k2 : ¬ (i5 = (m.1 p2 (i3).toNat)) → (i5 = i4) → ∀ Q' : am_Q, (∀ (z : Int) (m' : am_M), X G dp a b M9_polled 81 [some (rV (some r0)), some (lV (l1)), none, some (iV (i3)), some (iV (i4)), some (iV (i5)), some (lV (m.1 p1 (wr ((wr (4 * i3)) + (m.1 p2 (i3).toNat))).toNat)), none, some (lV (m.1 p1 (wr ((wr (4 * i3)) + i4)).toNat)), none] [lV (z)] m' Q → Q' (.inl (some (lV (z)))) m') → T G (dp - 1) 0 0 M9_times [lV (l1), lV (wrl ((m.1 p1 (wr ((wr (4 * i3)) + (m.1 p2 (i3).toNat))).toNat) + (m.1 p1 (wr ((wr (4 * i3)) + i4)).toNat))), lV (wrl (2 * (m.1 p1 (wr ((wr (4 * i3)) + i4)).toNat)))] m Q') (k3 : (i5 = (m.1 p2 (i3).toNat)) → ∀ Q' : am_Q, (∀ (z : Int) (m' : am_M), X G dp a b M9_polled 58 [some (rV (some r0)), some (lV (l1)), none, some (iV (i3)), some (iV (i4)), some (iV (i5)), some (lV (m.1 p1 (wr ((wr (4 * i3)) + (m.1 p2 (i3).toNat))).toNat)), none, some (lV (m.1 p1 (wr ((wr (4 * i3)) + i4)).toNat)), none] [lV (z)] m' Q → Q' (.inl (some (lV (z)))) m') → T G (dp - 1) 0 0 M9_times [lV (l1), lV (wrl ((m.1 p1 (wr ((wr (4 * i3)) + (m.1 p2 (i3).toNat))).toNat) + (m.1 p1 (wr ((wr (4 * i3)) + i4)).toNat))), lV (wrl (2 * (m.1 p1 (wr ((wr (4 * i3)) + (m.1 p2 (i3).toNat))).toNat)))] m Q') (h5 : 0 ≤ i3 := by intros; first | omega | (dsimp only at *; omega)) (h6 : i3 < (n_p2 : Int) := by intros; first | omega | (dsimp only at *; omega)) (h8 : 0 ≤ wr ((wr (4 * i3)) + (m.1 p2 (i3).toNat)) := by intros; first | omega | (dsimp only at *; omega)) (h9 : wr ((wr (4 * i3)) + (m.1 p2 (i3).toNat)) < (n_p1 : Int) := by intros; first | omega | (dsimp only at *; omega)) (h10 : 0 ≤ wr ((wr (4 * i3)) + i4) := by intros; first | omega | (dsimp only at *; omega)) (h11 : wr ((wr (4 * i3)) + i4) < (n_p1 : Int) := by intros; first | omega | (dsimp only at *; omega)) : X G dp a b M9_polled 0 [some (rV (some r0)), some (lV (l1)), none, some (iV (i3)), some (iV (i4)), some (iV (i5)), o6, o7, o8, o9] [] m Q := by
  refine X_aload_n dX9_polled_0 rfl rfl ?_
  refine X_getP dX9_polled_1 fl_9_25 rfl h1 ?_
  refine am_ptr h2 ?_
  refine Y_iconst dX9_polled_4 (by unfold i32; omega) ?_
  refine X_iload_n dX9_polled_5 rfl rfl ?_
  refine X_imul dX9_polled_6  ?_
  refine X_aload_n dX9_polled_7 rfl rfl ?_
  refine X_getP dX9_polled_8 fl_9_31 rfl h1 ?_
  refine am_ptr h3 ?_
  refine X_iload_n dX9_polled_11 rfl rfl ?_
  refine X_iald dX9_polled_12 h4 h5 h6 ?_
  refine X_iadd dX9_polled_13  ?_
  refine X_iald dX9_polled_14 h7 h8 h9 ?_
  refine X_i2l dX9_polled_15 ?_
  refine X_lstore dX9_polled_16 (Nat.le_of_ble_eq_true rfl) ?_
  refine X_aload_n dX9_polled_18 rfl rfl ?_
  refine X_getP dX9_polled_19 fl_9_25 rfl h1 ?_
  refine am_ptr h2 ?_
  refine Y_iconst dX9_polled_22 (by unfold i32; omega) ?_
  refine X_iload_n dX9_polled_23 rfl rfl ?_
  refine X_imul dX9_polled_24  ?_
  refine X_iload dX9_polled_25 rfl ?_
  refine X_iadd dX9_polled_27  ?_
  refine X_iald dX9_polled_28 h7 h10 h11 ?_
  refine X_i2l dX9_polled_29 ?_
  refine X_lstore dX9_polled_30 (Nat.le_of_ble_eq_true rfl) ?_
  refine X_iload dX9_polled_32 rfl ?_
  refine X_aload_n dX9_polled_34 rfl rfl ?_
  refine X_getP dX9_polled_35 fl_9_31 rfl h1 ?_
  refine am_ptr h3 ?_
  refine X_iload_n dX9_polled_38 rfl rfl ?_
  refine X_iald dX9_polled_39 h4 h5 h6 ?_
  refine X_icmp_ne (tgt := 59) dX9_polled_40 (by decide) (fun c1 => ?_) (fun c1 => ?_)
  · refine X_iload dX9_polled_59 rfl ?_
    refine X_iload dX9_polled_61 rfl ?_
    refine X_icmp_ne (tgt := 84) dX9_polled_63 (by decide) (fun c2 => ?_) (fun c2 => ?_)
    · refine X_lload_n dX9_polled_84 rfl rfl ?_
      exact X_lret dX9_polled_85 rfl (k1 c1 c2)
    · refine X_lload_n dX9_polled_66 rfl rfl ?_
      refine X_lload dX9_polled_67 rfl ?_
      refine X_lload dX9_polled_69 rfl ?_
      refine X_ladd dX9_polled_71  ?_
      refine X_ldc2 dX9_polled_72 kc_9_139 (by unfold i64; omega) ?_
      refine X_lload dX9_polled_75 rfl ?_
      refine X_lmul dX9_polled_77  ?_
      exact X_callS (As := [lV (l1), lV (wrl ((m.1 p1 (wr ((wr (4 * i3)) + (m.1 p2 (i3).toNat))).toNat) + (m.1 p1 (wr ((wr (4 * i3)) + i4)).toNat))), lV (wrl (2 * (m.1 p1 (wr ((wr (4 * i3)) + i4)).toNat)))]) (rest := []) (a' := 0) (b' := 0) dX9_polled_78 t9_times ml_9_135 rfl rfl (Nat.le_of_ble_eq_true rfl) rfl hdp (Nat.zero_le _) (Nat.zero_le _) ((k2 c1 c2) _ (fun z m' h => h))
  · refine X_lload_n dX9_polled_43 rfl rfl ?_
    refine X_lload dX9_polled_44 rfl ?_
    refine X_lload dX9_polled_46 rfl ?_
    refine X_ladd dX9_polled_48  ?_
    refine X_ldc2 dX9_polled_49 kc_9_139 (by unfold i64; omega) ?_
    refine X_lload dX9_polled_52 rfl ?_
    refine X_lmul dX9_polled_54  ?_
    exact X_callS (As := [lV (l1), lV (wrl ((m.1 p1 (wr ((wr (4 * i3)) + (m.1 p2 (i3).toNat))).toNat) + (m.1 p1 (wr ((wr (4 * i3)) + i4)).toNat))), lV (wrl (2 * (m.1 p1 (wr ((wr (4 * i3)) + (m.1 p2 (i3).toNat))).toNat)))]) (rest := []) (a' := 0) (b' := 0) dX9_polled_55 t9_times ml_9_135 rfl rfl (Nat.le_of_ble_eq_true rfl) rfl hdp (Nat.zero_le _) (Nat.zero_le _) ((k3 c1) _ (fun z m' h => h))

theorem s9_polled_58 {G : am_G} {dp a b : Nat} {m : am_M} {Q : am_Q} {i3 i4 i5 l1 l6 l8 l90 : Int} {r0 : Nat}  (k1 : Q (.inl (some (lV (l90)))) m)  : X G dp a b M9_polled 58 [some (rV (some r0)), some (lV (l1)), none, some (iV (i3)), some (iV (i4)), some (iV (i5)), some (lV (l6)), none, some (lV (l8)), none] [lV (l90)] m Q := by
  exact X_lret dX9_polled_58 rfl k1

theorem s9_polled_81 {G : am_G} {dp a b : Nat} {m : am_M} {Q : am_Q} {i3 i4 i5 l1 l6 l8 l90 : Int} {r0 : Nat}  (k1 : Q (.inl (some (lV (l90)))) m)  : X G dp a b M9_polled 81 [some (rV (some r0)), some (lV (l1)), none, some (iV (i3)), some (iV (i4)), some (iV (i5)), some (lV (l6)), none, some (lV (l8)), none] [lV (l90)] m Q := by
  refine X_goto (tgt := 85) dX9_polled_81 (by decide) ?_
  exact X_lret dX9_polled_85 rfl k1

theorem s9_riskNow_0 {G : am_G} {dp a b : Nat} {m : am_M} {Q : am_Q} {i1 : Int} {r0 : Nat} (hdp : 1 ≤ dp) (h1 : am_ob m r0 8) (k1 : ∀ Q' : am_Q, (∀ (z : Int) (m' : am_M), X G dp a b M9_riskNow 5 [some (rV (some r0)), some (iV (i1))] [iV (z)] m' Q → Q' (.inl (some (iV (z)))) m') → T G (dp - 1) 0 0 M9_wayOf [rV (some r0), iV (i1)] m Q')  : X G dp a b M9_riskNow 0 [some (rV (some r0)), some (iV (i1))] [] m Q := by
  refine X_aload_n dX9_riskNow_0 rfl rfl ?_
  refine X_iload_n dX9_riskNow_1 rfl rfl ?_
  exact X_callV (As := [iV (i1)]) (rest := []) (a' := 0) (b' := 0) dX9_riskNow_2 t9_wayOf ml_9_141 h1 rfl rfl (Nat.le_of_ble_eq_true rfl) rfl hdp (Nat.zero_le _) (Nat.zero_le _) (k1 _ (fun z m' h => h))

theorem s9_riskNow_5 {G : am_G} {dp a b : Nat} {m : am_M} {Q : am_Q} {i1 i90 : Int} {r0 p1 : Nat} {n_p1 : Nat} (hdp : 1 ≤ dp) (h1 : am_ob m r0 8) (h2 : m.2.1 r0 14 = some p1) (h3 : am_ar m p1 101 n_p1) (k1 : ¬ (i90 = 0) → ∀ Q' : am_Q, (∀ (z : Int) (m' : am_M), X G dp a b M9_riskNow 24 [some (rV (some r0)), some (iV (i1))] [lV (z)] m' Q → Q' (.inl (some (lV (z)))) m') → T G (dp - 1) 0 0 M9_greatestOf [rV (some r0), iV (i1)] m Q') (k2 : (i90 = 0) → X G dp a b M9_riskNow 24 [some (rV (some r0)), some (iV (i1))] [lV (m.1 p1 (wr (4 * i1)).toNat)] m Q) (h4 : i90 = 0 → 0 ≤ wr (4 * i1) := by intros; first | omega | (dsimp only at *; omega)) (h5 : i90 = 0 → wr (4 * i1) < (n_p1 : Int) := by intros; first | omega | (dsimp only at *; omega)) : X G dp a b M9_riskNow 5 [some (rV (some r0)), some (iV (i1))] [iV (i90)] m Q := by
  refine X_if_ne (tgt := 19) dX9_riskNow_5 (by decide) (fun c1 => ?_) (fun c1 => ?_)
  · refine X_aload_n dX9_riskNow_19 rfl rfl ?_
    refine X_iload_n dX9_riskNow_20 rfl rfl ?_
    exact X_callV (As := [iV (i1)]) (rest := []) (a' := 0) (b' := 0) dX9_riskNow_21 t9_greatestOf ml_9_144 h1 rfl rfl (Nat.le_of_ble_eq_true rfl) rfl hdp (Nat.zero_le _) (Nat.zero_le _) ((k1 c1) _ (fun z m' h => h))
  · refine X_aload_n dX9_riskNow_8 rfl rfl ?_
    refine X_getP dX9_riskNow_9 fl_9_43 rfl h1 ?_
    refine am_ptr h2 ?_
    refine Y_iconst dX9_riskNow_12 (by unfold i32; omega) ?_
    refine X_iload_n dX9_riskNow_13 rfl rfl ?_
    refine X_imul dX9_riskNow_14  ?_
    refine X_lald dX9_riskNow_15 h3 (h4 c1) (h5 c1) ?_
    refine X_goto (tgt := 24) dX9_riskNow_16 (by decide) ?_
    exact (k2 c1)

theorem s9_riskNow_24 {G : am_G} {dp a b : Nat} {m : am_M} {Q : am_Q} {i1 l90 : Int} {r0 : Nat}  (k1 : Q (.inl (some (lV (l90)))) m)  : X G dp a b M9_riskNow 24 [some (rV (some r0)), some (iV (i1))] [lV (l90)] m Q := by
  exact X_lret dX9_riskNow_24 rfl k1

theorem s9_greatestOf_0 {G : am_G} {dp a b : Nat} {m : am_M} {Q : am_Q} {i1 : Int} {r0 : Nat} {o2 o3 o4 : Option am_V}  (k1 : X G dp a b M9_greatestOf 5 [some (rV (some r0)), some (iV (i1)), some (lV (0)), none, some (iV (0))] [] m Q)  : X G dp a b M9_greatestOf 0 [some (rV (some r0)), some (iV (i1)), o2, o3, o4] [] m Q := by
  refine Y_lconst0 dX9_greatestOf_0 ?_
  refine X_lstore_n dX9_greatestOf_1 rfl (Nat.le_of_ble_eq_true rfl) ?_
  refine Y_iconst dX9_greatestOf_2 (by unfold i32; omega) ?_
  refine X_istore dX9_greatestOf_3 (Nat.le_of_ble_eq_true rfl) ?_
  exact k1

theorem s9_greatestOf_5 {G : am_G} {dp a b : Nat} {m : am_M} {Q : am_Q} {i1 i4 l2 : Int} {r0 : Nat} (hdp : 1 ≤ dp) (h1 : am_ob m r0 8) (k1 : ∀ Q' : am_Q, (∀ (z : Int) (m' : am_M), X G dp a b M9_greatestOf 12 [some (rV (some r0)), some (iV (i1)), some (lV (l2)), none, some (iV (i4))] [iV (z), iV (i4)] m' Q → Q' (.inl (some (iV (z)))) m') → T G (dp - 1) 0 0 M9_candidates [rV (some r0), iV (i1)] m Q')  : X G dp a b M9_greatestOf 5 [some (rV (some r0)), some (iV (i1)), some (lV (l2)), none, some (iV (i4))] [] m Q := by
  refine X_iload dX9_greatestOf_5 rfl ?_
  refine X_aload_n dX9_greatestOf_7 rfl rfl ?_
  refine X_iload_n dX9_greatestOf_8 rfl rfl ?_
  exact X_callV (As := [iV (i1)]) (rest := [iV (i4)]) (a' := 0) (b' := 0) dX9_greatestOf_9 t9_candidates ml_9_87 h1 rfl rfl (Nat.le_of_ble_eq_true rfl) rfl hdp (Nat.zero_le _) (Nat.zero_le _) (k1 _ (fun z m' h => h))

theorem s9_greatestOf_12 {G : am_G} {dp a b : Nat} {m : am_M} {Q : am_Q} {i1 i4 i90 i91 l2 : Int} {r0 p1 p2 : Nat} {n_p1 n_p2 : Nat} (h1 : am_ob m r0 8) (h2 : m.2.1 r0 10 = some p1) (h3 : am_ar m p1 100 n_p1) (h6 : m.2.1 r0 14 = some p2) (h7 : am_ar m p2 101 n_p2) (k1 : (i90 ≤ i91) → Q (.inl (some (lV (l2)))) m) (k2 : ¬ (i90 ≤ i91) → ¬ (i4 = (m.1 p1 (i1).toNat)) → X G dp a b M9_greatestOf 5 [some (rV (some r0)), some (iV (i1)), some (lV (max l2 (m.1 p2 (wr ((wr (4 * i1)) + i4)).toNat))), none, some (iV (wr (i4 + 1)))] [] m Q) (k3 : ¬ (i90 ≤ i91) → (i4 = (m.1 p1 (i1).toNat)) → X G dp a b M9_greatestOf 5 [some (rV (some r0)), some (iV (i1)), some (lV (l2)), none, some (iV (wr (i4 + 1)))] [] m Q) (h4 : ¬ (i90 ≤ i91) → 0 ≤ i1 := by intros; first | omega | (dsimp only at *; omega)) (h5 : ¬ (i90 ≤ i91) → i1 < (n_p1 : Int) := by intros; first | omega | (dsimp only at *; omega)) (h8 : ¬ (i90 ≤ i91) → ¬ (i4 = (m.1 p1 (i1).toNat)) → 0 ≤ wr ((wr (4 * i1)) + i4) := by intros; first | omega | (dsimp only at *; omega)) (h9 : ¬ (i90 ≤ i91) → ¬ (i4 = (m.1 p1 (i1).toNat)) → wr ((wr (4 * i1)) + i4) < (n_p2 : Int) := by intros; first | omega | (dsimp only at *; omega)) : X G dp a b M9_greatestOf 12 [some (rV (some r0)), some (iV (i1)), some (lV (l2)), none, some (iV (i4))] [iV (i90), iV (i91)] m Q := by
  refine X_icmp_ge (tgt := 51) dX9_greatestOf_12 (by decide) (fun c1 => ?_) (fun c1 => ?_)
  · refine X_lload_n dX9_greatestOf_51 rfl rfl ?_
    exact X_lret dX9_greatestOf_52 rfl (k1 c1)
  · refine X_iload dX9_greatestOf_15 rfl ?_
    refine X_aload_n dX9_greatestOf_17 rfl rfl ?_
    refine X_getP dX9_greatestOf_18 fl_9_31 rfl h1 ?_
    refine am_ptr h2 ?_
    refine X_iload_n dX9_greatestOf_21 rfl rfl ?_
    refine X_iald dX9_greatestOf_22 h3 (h4 c1) (h5 c1) ?_
    refine X_icmp_ne (tgt := 29) dX9_greatestOf_23 (by decide) (fun c2 => ?_) (fun c2 => ?_)
    · refine X_lload_n dX9_greatestOf_29 rfl rfl ?_
      refine X_aload_n dX9_greatestOf_30 rfl rfl ?_
      refine X_getP dX9_greatestOf_31 fl_9_43 rfl h1 ?_
      refine am_ptr h6 ?_
      refine Y_iconst dX9_greatestOf_34 (by unfold i32; omega) ?_
      refine X_iload_n dX9_greatestOf_35 rfl rfl ?_
      refine X_imul dX9_greatestOf_36  ?_
      refine X_iload dX9_greatestOf_37 rfl ?_
      refine X_iadd dX9_greatestOf_39  ?_
      refine X_lald dX9_greatestOf_40 h7 (h8 c1 c2) (h9 c1 c2) ?_
      refine X_maxL dX9_greatestOf_41 ml_9_148 (Nat.le_of_ble_eq_true rfl) ?_
      refine X_lstore_n dX9_greatestOf_44 rfl (Nat.le_of_ble_eq_true rfl) ?_
      refine X_iinc dX9_greatestOf_45 rfl ?_
      refine X_goto (tgt := 5) dX9_greatestOf_48 (by decide) ?_
      exact (k2 c1 c2)
    · refine X_goto (tgt := 45) dX9_greatestOf_26 (by decide) ?_
      refine X_iinc dX9_greatestOf_45 rfl ?_
      refine X_goto (tgt := 5) dX9_greatestOf_48 (by decide) ?_
      exact (k3 c1 c2)

theorem s9_isLittle_0 {G : am_G} {dp a b : Nat} {m : am_M} {Q : am_Q} {l1 : Int} {r0 p1 : Nat} {n_p1 : Nat} (h1 : am_ob m r0 8) (h2 : m.2.1 r0 0 = some p1) (h3 : am_ar m p1 100 n_p1) (k1 : (0 < (lc l1 (wrl ((m.1 p1 ((2 : Int)).toNat) * 1000000)))) → Q (.inl (some (iV (0)))) m) (k2 : ¬ (0 < (lc l1 (wrl ((m.1 p1 ((2 : Int)).toNat) * 1000000)))) → Q (.inl (some (iV (1)))) m) (h4 : 2 < (n_p1 : Int) := by intros; first | omega | (dsimp only at *; omega)) : X G dp a b M9_isLittle 0 [some (rV (some r0)), some (lV (l1)), none] [] m Q := by
  refine X_lload_n dX9_isLittle_0 rfl rfl ?_
  refine X_aload_n dX9_isLittle_1 rfl rfl ?_
  refine X_getP dX9_isLittle_2 fl_9_9 rfl h1 ?_
  refine am_ptr h2 ?_
  refine Y_iconst dX9_isLittle_5 (by unfold i32; omega) ?_
  refine X_iald dX9_isLittle_6 h3 (by decide) h4 ?_
  refine X_i2l dX9_isLittle_7 ?_
  refine X_ldc2 dX9_isLittle_8 kc_9_151 (by unfold i64; omega) ?_
  refine X_lmul dX9_isLittle_11  ?_
  refine X_lcmp dX9_isLittle_12 ?_
  refine X_if_gt (tgt := 20) dX9_isLittle_13 (by decide) (fun c1 => ?_) (fun c1 => ?_)
  · refine Y_iconst dX9_isLittle_20 (by unfold i32; omega) ?_
    exact X_zret dX9_isLittle_21 rfl (by decide) (k1 c1)
  · refine Y_iconst dX9_isLittle_16 (by unfold i32; omega) ?_
    refine X_goto (tgt := 21) dX9_isLittle_17 (by decide) ?_
    exact X_zret dX9_isLittle_21 rfl (by decide) (k2 c1)

theorem s9_clear_0 {G : am_G} {dp a b : Nat} {m : am_M} {Q : am_Q} {i1 : Int} {r0 : Nat} {o2 : Option am_V}  (k1 : X G dp a b M9_clear 2 [some (rV (some r0)), some (iV (i1)), some (iV (0))] [] m Q)  : X G dp a b M9_clear 0 [some (rV (some r0)), some (iV (i1)), o2] [] m Q := by
  refine Y_iconst dX9_clear_0 (by unfold i32; omega) ?_
  refine X_istore_n dX9_clear_1 rfl (Nat.le_of_ble_eq_true rfl) ?_
  exact k1

theorem s9_clear_2 {G : am_G} {dp a b : Nat} {m : am_M} {Q : am_Q} {i1 i2 : Int} {r0 p1 p2 : Nat} {n_p1 n_p2 : Nat} (h1 : am_ob m r0 8) (h2 : m.2.1 r0 15 = some p1) (h3 : am_arw m p1 100 n_p1) (h6 : m.2.1 r0 14 = some p2) (h7 : am_arw m p2 101 n_p2) (k1 : (4 ≤ i2) → Q (.inl none) ((u2 m.1 p1 (i1).toNat ((-1))), m.2.1, m.2.2)) (k2 : ¬ (4 ≤ i2) → X G dp a b M9_clear 2 [some (rV (some r0)), some (iV (i1)), some (iV (wr (i2 + 1)))] [] ((u2 m.1 p2 (wr ((wr (4 * i1)) + i2)).toNat (1000000000)), m.2.1, m.2.2) Q) (h4 : 4 ≤ i2 → 0 ≤ i1 := by intros; first | omega | (dsimp only at *; omega)) (h5 : 4 ≤ i2 → i1 < (n_p1 : Int) := by intros; first | omega | (dsimp only at *; omega)) (h8 : ¬ (4 ≤ i2) → 0 ≤ wr ((wr (4 * i1)) + i2) := by intros; first | omega | (dsimp only at *; omega)) (h9 : ¬ (4 ≤ i2) → wr ((wr (4 * i1)) + i2) < (n_p2 : Int) := by intros; first | omega | (dsimp only at *; omega)) : X G dp a b M9_clear 2 [some (rV (some r0)), some (iV (i1)), some (iV (i2))] [] m Q := by
  refine X_iload_n dX9_clear_2 rfl rfl ?_
  refine Y_iconst dX9_clear_3 (by unfold i32; omega) ?_
  refine X_icmp_ge (tgt := 26) dX9_clear_4 (by decide) (fun c1 => ?_) (fun c1 => ?_)
  · refine X_aload_n dX9_clear_26 rfl rfl ?_
    refine X_getP dX9_clear_27 fl_9_47 rfl h1 ?_
    refine am_ptr h2 ?_
    refine X_iload_n dX9_clear_30 rfl rfl ?_
    refine Y_iconst dX9_clear_31 (by unfold i32; omega) ?_
    refine X_iast dX9_clear_32 h3 (h4 c1) (h5 c1) ?_
    exact X_vret dX9_clear_33 rfl (k1 c1)
  · refine X_aload_n dX9_clear_7 rfl rfl ?_
    refine X_getP dX9_clear_8 fl_9_43 rfl h1 ?_
    refine am_ptr h6 ?_
    refine Y_iconst dX9_clear_11 (by unfold i32; omega) ?_
    refine X_iload_n dX9_clear_12 rfl rfl ?_
    refine X_imul dX9_clear_13  ?_
    refine X_iload_n dX9_clear_14 rfl rfl ?_
    refine X_iadd dX9_clear_15  ?_
    refine X_ldc2 dX9_clear_16 kc_9_153 (by unfold i64; omega) ?_
    refine X_last dX9_clear_19 h7 (h8 c1) (h9 c1) ?_
    refine X_iinc dX9_clear_20 rfl ?_
    refine X_goto (tgt := 2) dX9_clear_23 (by decide) ?_
    exact (k2 c1)

theorem s9_draws_0 {G : am_G} {dp a b : Nat} {m : am_M} {Q : am_Q} {i1 i2 i3 i4 : Int} {r0 : Nat} (hdp : 1 ≤ dp) (h1 : am_ob m r0 8) (k1 : ∀ Q' : am_Q, (∀ (z : Int) (m' : am_M), X G dp a b M9_draws 5 [some (rV (some r0)), some (iV (i1)), some (iV (i2)), some (iV (i3)), some (iV (i4))] [iV (z)] m' Q → Q' (.inl (some (iV (z)))) m') → T G (dp - 1) 0 0 M9_wayOf [rV (some r0), iV (i1)] m Q')  : X G dp a b M9_draws 0 [some (rV (some r0)), some (iV (i1)), some (iV (i2)), some (iV (i3)), some (iV (i4))] [] m Q := by
  refine X_aload_n dX9_draws_0 rfl rfl ?_
  refine X_iload_n dX9_draws_1 rfl rfl ?_
  exact X_callV (As := [iV (i1)]) (rest := []) (a' := 0) (b' := 0) dX9_draws_2 t9_wayOf ml_9_141 h1 rfl rfl (Nat.le_of_ble_eq_true rfl) rfl hdp (Nat.zero_le _) (Nat.zero_le _) (k1 _ (fun z m' h => h))

theorem s9_draws_5 {G : am_G} {dp a b : Nat} {m : am_M} {Q : am_Q} {i1 i2 i3 i4 i90 : Int} {r0 p1 : Nat} {n_p1 : Nat} (hdp : 1 ≤ dp) (h1 : am_ob m r0 8) (h2 : m.2.1 r0 14 = some p1) (h3 : am_ar m p1 101 n_p1) (k1 : ¬ (i90 = 0) → ∀ Q' : am_Q, (∀ (m' : am_M), X G dp a b M9_draws 39 [some (rV (some r0)), some (iV (i1)), some (iV (i2)), some (iV (i3)), some (iV (i4))] [] m' Q → Q' (.inl none) m') → T G (dp - 1) 0 0 M9_polls [rV (some r0), iV (i1), iV (i3)] m Q') (k2 : (i90 = 0) → ∀ Q' : am_Q, (∀ (z : Int) (m' : am_M), X G dp a b M9_draws 31 [some (rV (some r0)), some (iV (i1)), some (iV (i2)), some (iV (i3)), some (iV (i4))] [lV (z), iV (wr (4 * i1)), rV (some p1)] m' Q → Q' (.inl (some (lV (z)))) m') → T G (dp - 1) 0 0 M9_compared [rV (some r0), lV (m.1 p1 (wr (4 * i1)).toNat), iV (i1), iV (i4), iV (i2)] m Q') (h4 : i90 = 0 → 0 ≤ wr (4 * i1) := by intros; first | omega | (dsimp only at *; omega)) (h5 : i90 = 0 → wr (4 * i1) < (n_p1 : Int) := by intros; first | omega | (dsimp only at *; omega)) : X G dp a b M9_draws 5 [some (rV (some r0)), some (iV (i1)), some (iV (i2)), some (iV (i3)), some (iV (i4))] [iV (i90)] m Q := by
  refine X_if_ne (tgt := 33) dX9_draws_5 (by decide) (fun c1 => ?_) (fun c1 => ?_)
  · refine X_aload_n dX9_draws_33 rfl rfl ?_
    refine X_iload_n dX9_draws_34 rfl rfl ?_
    refine X_iload_n dX9_draws_35 rfl rfl ?_
    exact X_callV (As := [iV (i1), iV (i3)]) (rest := []) (a' := 0) (b' := 0) dX9_draws_36 t9_polls ml_9_159 h1 rfl rfl (Nat.le_of_ble_eq_true rfl) rfl hdp (Nat.zero_le _) (Nat.zero_le _) ((k1 c1) _ (fun m' h => h))
  · refine X_aload_n dX9_draws_8 rfl rfl ?_
    refine X_getP dX9_draws_9 fl_9_43 rfl h1 ?_
    refine am_ptr h2 ?_
    refine Y_iconst dX9_draws_12 (by unfold i32; omega) ?_
    refine X_iload_n dX9_draws_13 rfl rfl ?_
    refine X_imul dX9_draws_14  ?_
    refine X_aload_n dX9_draws_15 rfl rfl ?_
    refine X_aload_n dX9_draws_16 rfl rfl ?_
    refine X_getP dX9_draws_17 fl_9_43 rfl h1 ?_
    refine am_ptr h2 ?_
    refine Y_iconst dX9_draws_20 (by unfold i32; omega) ?_
    refine X_iload_n dX9_draws_21 rfl rfl ?_
    refine X_imul dX9_draws_22  ?_
    refine X_lald dX9_draws_23 h3 (h4 c1) (h5 c1) ?_
    refine X_iload_n dX9_draws_24 rfl rfl ?_
    refine X_iload dX9_draws_25 rfl ?_
    refine X_iload_n dX9_draws_27 rfl rfl ?_
    exact X_callV (As := [lV (m.1 p1 (wr (4 * i1)).toNat), iV (i1), iV (i4), iV (i2)]) (rest := [iV (wr (4 * i1)), rV (some p1)]) (a' := 0) (b' := 0) dX9_draws_28 t9_compared ml_9_155 h1 rfl rfl (Nat.le_of_ble_eq_true rfl) rfl hdp (Nat.zero_le _) (Nat.zero_le _) ((k2 c1) _ (fun z m' h => h))

theorem s9_draws_31 {G : am_G} {dp a b : Nat} {m : am_M} {Q : am_Q} {i1 i2 i3 i4 i91 l90 : Int} {r0 r92 : Nat} {n_r92 : Nat} (h1 : am_arw m r92 101 n_r92) (k1 : Q (.inl none) ((u2 m.1 r92 (i91).toNat (l90)), m.2.1, m.2.2)) (h2 : 0 ≤ i91 := by intros; first | omega | (dsimp only at *; omega)) (h3 : i91 < (n_r92 : Int) := by intros; first | omega | (dsimp only at *; omega)) : X G dp a b M9_draws 31 [some (rV (some r0)), some (iV (i1)), some (iV (i2)), some (iV (i3)), some (iV (i4))] [lV (l90), iV (i91), rV (some r92)] m Q := by
  refine X_last dX9_draws_31 h1 h2 h3 ?_
  exact X_vret dX9_draws_32 rfl k1

theorem s9_draws_39 {G : am_G} {dp a b : Nat} {m : am_M} {Q : am_Q} {i1 i2 i3 i4 : Int} {r0 : Nat}  (k1 : Q (.inl none) m)  : X G dp a b M9_draws 39 [some (rV (some r0)), some (iV (i1)), some (iV (i2)), some (iV (i3)), some (iV (i4))] [] m Q := by
  exact X_vret dX9_draws_39 rfl k1

theorem s9_isOver_0 {G : am_G} {dp a b : Nat} {m : am_M} {Q : am_Q} {r0 : Nat} (hdp : 1 ≤ dp) (h1 : am_ob m r0 8) (k1 : ∀ Q' : am_Q, (∀ (z : Int) (m' : am_M), X G dp a b M9_isOver 4 [some (rV (some r0))] [iV (z)] m' Q → Q' (.inl (some (iV (z)))) m') → T G (dp - 1) 0 0 M9_doneMany [rV (some r0)] m Q')  : X G dp a b M9_isOver 0 [some (rV (some r0))] [] m Q := by
  refine X_aload_n dX9_isOver_0 rfl rfl ?_
  exact X_callV (As := []) (rest := []) (a' := 0) (b' := 0) dX9_isOver_1 t9_doneMany ml_9_163 h1 rfl rfl (Nat.le_of_ble_eq_true rfl) rfl hdp (Nat.zero_le _) (Nat.zero_le _) (k1 _ (fun z m' h => h))

theorem s9_isOver_4 {G : am_G} {dp a b : Nat} {m : am_M} {Q : am_Q} {i90 : Int} {r0 : Nat} (hdp : 1 ≤ dp) (h1 : am_ob m r0 8) (k1 : ∀ Q' : am_Q, (∀ (z : Int) (m' : am_M), X G dp a b M9_isOver 8 [some (rV (some r0))] [iV (z), iV (i90)] m' Q → Q' (.inl (some (iV (z)))) m') → T G (dp - 1) 0 0 M9_races [rV (some r0)] m Q')  : X G dp a b M9_isOver 4 [some (rV (some r0))] [iV (i90)] m Q := by
  refine X_aload_n dX9_isOver_4 rfl rfl ?_
  exact X_callV (As := []) (rest := [iV (i90)]) (a' := 0) (b' := 0) dX9_isOver_5 t9_races ml_9_76 h1 rfl rfl (Nat.le_of_ble_eq_true rfl) rfl hdp (Nat.zero_le _) (Nat.zero_le _) (k1 _ (fun z m' h => h))

theorem s9_isOver_8 {G : am_G} {dp a b : Nat} {m : am_M} {Q : am_Q} {i90 i91 : Int} {r0 : Nat}  (k1 : ¬ (i91 = i90) → Q (.inl (some (iV (0)))) m) (k2 : (i91 = i90) → Q (.inl (some (iV (1)))) m)  : X G dp a b M9_isOver 8 [some (rV (some r0))] [iV (i90), iV (i91)] m Q := by
  refine X_icmp_ne (tgt := 15) dX9_isOver_8 (by decide) (fun c1 => ?_) (fun c1 => ?_)
  · refine Y_iconst dX9_isOver_15 (by unfold i32; omega) ?_
    exact X_zret dX9_isOver_16 rfl (by decide) (k1 c1)
  · refine Y_iconst dX9_isOver_11 (by unfold i32; omega) ?_
    refine X_goto (tgt := 16) dX9_isOver_12 (by decide) ?_
    exact X_zret dX9_isOver_16 rfl (by decide) (k2 c1)

theorem s9_writesHistory_0 {G : am_G} {dp a b : Nat} {m : am_M} {Q : am_Q} {r0 : Nat} {o1 : Option am_V}  (k1 : X G dp a b M9_writesHistory 2 [some (rV (some r0)), some (iV (0))] [] m Q)  : X G dp a b M9_writesHistory 0 [some (rV (some r0)), o1] [] m Q := by
  refine Y_iconst dX9_writesHistory_0 (by unfold i32; omega) ?_
  refine X_istore_n dX9_writesHistory_1 rfl (Nat.le_of_ble_eq_true rfl) ?_
  exact k1

theorem s9_writesHistory_2 {G : am_G} {dp a b : Nat} {m : am_M} {Q : am_Q} {i1 : Int} {r0 : Nat} (hdp : 1 ≤ dp) (h1 : am_ob m r0 8) (k1 : ∀ Q' : am_Q, (∀ (z : Int) (m' : am_M), X G dp a b M9_writesHistory 7 [some (rV (some r0)), some (iV (i1))] [iV (z), iV (i1)] m' Q → Q' (.inl (some (iV (z)))) m') → T G (dp - 1) 0 0 M9_races [rV (some r0)] m Q')  : X G dp a b M9_writesHistory 2 [some (rV (some r0)), some (iV (i1))] [] m Q := by
  refine X_iload_n dX9_writesHistory_2 rfl rfl ?_
  refine X_aload_n dX9_writesHistory_3 rfl rfl ?_
  exact X_callV (As := []) (rest := [iV (i1)]) (a' := 0) (b' := 0) dX9_writesHistory_4 t9_races ml_9_76 h1 rfl rfl (Nat.le_of_ble_eq_true rfl) rfl hdp (Nat.zero_le _) (Nat.zero_le _) (k1 _ (fun z m' h => h))

theorem s9_writesHistory_7 {G : am_G} {dp a b : Nat} {m : am_M} {Q : am_Q} {i1 i90 i91 : Int} {r0 p1 : Nat} (hdp : 1 ≤ dp) (h1 : am_ob m r0 8) (h2 : m.2.1 r0 17 = some p1) (k1 : (i90 ≤ i91) → Q (.inl none) m) (k2 : ¬ (i90 ≤ i91) → ∀ Q' : am_Q, (∀ (z : Int) (m' : am_M), X G dp a b M9_writesHistory 27 [some (rV (some r0)), some (iV (i1))] [lV (z), iV (wr ((wr (3 * (m.1 r0 16))) + i1)), rV (some p1)] m' Q → Q' (.inl (some (lV (z)))) m') → T G (dp - 1) 0 0 M9_riskNow [rV (some r0), iV (i1)] m Q')  : X G dp a b M9_writesHistory 7 [some (rV (some r0)), some (iV (i1))] [iV (i90), iV (i91)] m Q := by
  refine X_icmp_ge (tgt := 34) dX9_writesHistory_7 (by decide) (fun c1 => ?_) (fun c1 => ?_)
  · exact X_vret dX9_writesHistory_34 rfl (k1 c1)
  · refine X_aload_n dX9_writesHistory_10 rfl rfl ?_
    refine X_getP dX9_writesHistory_11 fl_9_50 rfl h1 ?_
    refine am_ptr h2 ?_
    refine Y_iconst dX9_writesHistory_14 (by unfold i32; omega) ?_
    refine X_aload_n dX9_writesHistory_15 rfl rfl ?_
    refine X_getI dX9_writesHistory_16 fl_9_166 (by decide) h1 ?_
    refine X_imul dX9_writesHistory_19  ?_
    refine X_iload_n dX9_writesHistory_20 rfl rfl ?_
    refine X_iadd dX9_writesHistory_21  ?_
    refine X_aload_n dX9_writesHistory_22 rfl rfl ?_
    refine X_iload_n dX9_writesHistory_23 rfl rfl ?_
    exact X_callV (As := [iV (i1)]) (rest := [iV (wr ((wr (3 * (m.1 r0 16))) + i1)), rV (some p1)]) (a' := 0) (b' := 0) dX9_writesHistory_24 t9_riskNow ml_9_169 h1 rfl rfl (Nat.le_of_ble_eq_true rfl) rfl hdp (Nat.zero_le _) (Nat.zero_le _) ((k2 c1) _ (fun z m' h => h))

theorem s9_writesHistory_27 {G : am_G} {dp a b : Nat} {m : am_M} {Q : am_Q} {i1 i91 l90 : Int} {r0 r92 : Nat} {n_r92 : Nat} (h1 : am_arw m r92 101 n_r92) (k1 : X G dp a b M9_writesHistory 2 [some (rV (some r0)), some (iV (wr (i1 + 1)))] [] ((u2 m.1 r92 (i91).toNat (l90)), m.2.1, m.2.2) Q) (h2 : 0 ≤ i91 := by intros; first | omega | (dsimp only at *; omega)) (h3 : i91 < (n_r92 : Int) := by intros; first | omega | (dsimp only at *; omega)) : X G dp a b M9_writesHistory 27 [some (rV (some r0)), some (iV (i1))] [lV (l90), iV (i91), rV (some r92)] m Q := by
  refine X_last dX9_writesHistory_27 h1 h2 h3 ?_
  refine X_iinc dX9_writesHistory_28 rfl ?_
  refine X_goto (tgt := 2) dX9_writesHistory_31 (by decide) ?_
  exact k1

theorem s9_drawsBallot_0 {G : am_G} {dp a b : Nat} {m : am_M} {Q : am_Q} {i1 : Int} {r0 : Nat} {o2 : Option am_V} (h2 : am_obw m r0 8) (k1 : X G dp a b M9_drawsBallot 12 [some (rV (some r0)), some (iV (i1)), some (iV (0))] [] ((u2 m.1 r0 16 (wr ((m.1 r0 16) + 1))), m.2.1, m.2.2) Q)  : X G dp a b M9_drawsBallot 0 [some (rV (some r0)), some (iV (i1)), o2] [] m Q := by
  refine X_aload_n dX9_drawsBallot_0 rfl rfl ?_
  refine X_dup dX9_drawsBallot_1 rfl ?_
  refine X_getI dX9_drawsBallot_2 fl_9_166 (by decide) (am_ow h2) ?_
  refine Y_iconst dX9_drawsBallot_5 (by unfold i32; omega) ?_
  refine X_iadd dX9_drawsBallot_6  ?_
  refine X_putI dX9_drawsBallot_7 fw_9_166 rfl h2 ?_
  refine Y_iconst dX9_drawsBallot_10 (by unfold i32; omega) ?_
  refine X_istore_n dX9_drawsBallot_11 rfl (Nat.le_of_ble_eq_true rfl) ?_
  exact k1

theorem s9_drawsBallot_12 {G : am_G} {dp a b : Nat} {m : am_M} {Q : am_Q} {i1 i2 : Int} {r0 : Nat} (hdp : 1 ≤ dp) (h1 : am_ob m r0 8) (k1 : ∀ Q' : am_Q, (∀ (z : Int) (m' : am_M), X G dp a b M9_drawsBallot 17 [some (rV (some r0)), some (iV (i1)), some (iV (i2))] [iV (z), iV (i2)] m' Q → Q' (.inl (some (iV (z)))) m') → T G (dp - 1) 0 0 M9_races [rV (some r0)] m Q')  : X G dp a b M9_drawsBallot 12 [some (rV (some r0)), some (iV (i1)), some (iV (i2))] [] m Q := by
  refine X_iload_n dX9_drawsBallot_12 rfl rfl ?_
  refine X_aload_n dX9_drawsBallot_13 rfl rfl ?_
  exact X_callV (As := []) (rest := [iV (i2)]) (a' := 0) (b' := 0) dX9_drawsBallot_14 t9_races ml_9_76 h1 rfl rfl (Nat.le_of_ble_eq_true rfl) rfl hdp (Nat.zero_le _) (Nat.zero_le _) (k1 _ (fun z m' h => h))

theorem s9_drawsBallot_17 {G : am_G} {dp a b : Nat} {m : am_M} {Q : am_Q} {i1 i2 i90 i91 : Int} {r0 p1 : Nat} {n_p1 : Nat} (hdp : 1 ≤ dp) (h1 : am_ob m r0 8) (h2 : m.2.1 r0 15 = some p1) (h3 : am_ar m p1 100 n_p1) (k1 : (i90 ≤ i91) → ∀ Q' : am_Q, (∀ (m' : am_M), X G dp a b M9_drawsBallot 88 [some (rV (some r0)), some (iV (i1)), some (iV (i2))] [] m' Q → Q' (.inl none) m') → T G (dp - 1) 0 0 M9_writesHistory [rV (some r0)] m Q') (k2 : ¬ (i90 ≤ i91) → ((m.1 p1 (i2).toNat) = (-1)) → ∀ Q' : am_Q, (∀ (z : Int) (m' : am_M), X G dp a b M9_drawsBallot 41 [some (rV (some r0)), some (iV (i1)), some (iV (i2))] [iV (z), iV (i2), rV (some r0)] m' Q → Q' (.inl (some (iV (z)))) m') → T G (dp - 1) 0 0 M9_mistakeAt [rV (some r0), iV (i1), iV (i2)] m Q') (k3 : ¬ (i90 ≤ i91) → ¬ ((m.1 p1 (i2).toNat) = (-1)) → X G dp a b M9_drawsBallot 12 [some (rV (some r0)), some (iV (i1)), some (iV (wr (i2 + 1)))] [] m Q) (h4 : ¬ (i90 ≤ i91) → 0 ≤ i2 := by intros; first | omega | (dsimp only at *; omega)) (h5 : ¬ (i90 ≤ i91) → i2 < (n_p1 : Int) := by intros; first | omega | (dsimp only at *; omega)) : X G dp a b M9_drawsBallot 17 [some (rV (some r0)), some (iV (i1)), some (iV (i2))] [iV (i90), iV (i91)] m Q := by
  refine X_icmp_ge (tgt := 84) dX9_drawsBallot_17 (by decide) (fun c1 => ?_) (fun c1 => ?_)
  · refine X_aload_n dX9_drawsBallot_84 rfl rfl ?_
    exact X_callV (As := []) (rest := []) (a' := 0) (b' := 0) dX9_drawsBallot_85 t9_writesHistory ml_9_183 h1 rfl rfl (Nat.le_of_ble_eq_true rfl) rfl hdp (Nat.zero_le _) (Nat.zero_le _) ((k1 c1) _ (fun m' h => h))
  · refine X_aload_n dX9_drawsBallot_20 rfl rfl ?_
    refine X_getP dX9_drawsBallot_21 fl_9_47 rfl h1 ?_
    refine am_ptr h2 ?_
    refine X_iload_n dX9_drawsBallot_24 rfl rfl ?_
    refine X_iald dX9_drawsBallot_25 h3 (h4 c1) (h5 c1) ?_
    refine Y_iconst dX9_drawsBallot_26 (by unfold i32; omega) ?_
    refine X_icmp_eq (tgt := 33) dX9_drawsBallot_27 (by decide) (fun c2 => ?_) (fun c2 => ?_)
    · refine X_aload_n dX9_drawsBallot_33 rfl rfl ?_
      refine X_iload_n dX9_drawsBallot_34 rfl rfl ?_
      refine X_aload_n dX9_drawsBallot_35 rfl rfl ?_
      refine X_iload_n dX9_drawsBallot_36 rfl rfl ?_
      refine X_iload_n dX9_drawsBallot_37 rfl rfl ?_
      exact X_callV (As := [iV (i1), iV (i2)]) (rest := [iV (i2), rV (some r0)]) (a' := 0) (b' := 0) dX9_drawsBallot_38 t9_mistakeAt ml_9_172 h1 rfl rfl (Nat.le_of_ble_eq_true rfl) rfl hdp (Nat.zero_le _) (Nat.zero_le _) ((k2 c1 c2) _ (fun z m' h => h))
    · refine X_goto (tgt := 78) dX9_drawsBallot_30 (by decide) ?_
      refine X_iinc dX9_drawsBallot_78 rfl ?_
      refine X_goto (tgt := 12) dX9_drawsBallot_81 (by decide) ?_
      exact (k3 c1 c2)

theorem s9_drawsBallot_41 {G : am_G} {dp a b : Nat} {m : am_M} {Q : am_Q} {i1 i2 i90 i91 : Int} {r0 r92 : Nat} (hdp : 1 ≤ dp) (h1 : am_ob m r0 8) (k1 : ∀ Q' : am_Q, (∀ (z : Int) (m' : am_M), X G dp a b M9_drawsBallot 47 [some (rV (some r0)), some (iV (i1)), some (iV (i2))] [iV (z), iV (i90), iV (i91), rV (some r92)] m' Q → Q' (.inl (some (iV (z)))) m') → T G (dp - 1) 0 0 M9_shown [rV (some r0), iV (i1), iV (i2)] m Q')  : X G dp a b M9_drawsBallot 41 [some (rV (some r0)), some (iV (i1)), some (iV (i2))] [iV (i90), iV (i91), rV (some r92)] m Q := by
  refine X_aload_n dX9_drawsBallot_41 rfl rfl ?_
  refine X_iload_n dX9_drawsBallot_42 rfl rfl ?_
  refine X_iload_n dX9_drawsBallot_43 rfl rfl ?_
  exact X_callV (As := [iV (i1), iV (i2)]) (rest := [iV (i90), iV (i91), rV (some r92)]) (a' := 0) (b' := 0) dX9_drawsBallot_44 t9_shown ml_9_103 h1 rfl rfl (Nat.le_of_ble_eq_true rfl) rfl hdp (Nat.zero_le _) (Nat.zero_le _) (k1 _ (fun z m' h => h))

theorem s9_drawsBallot_47 {G : am_G} {dp a b : Nat} {m : am_M} {Q : am_Q} {i1 i2 i90 i91 i92 : Int} {r0 r93 p1 : Nat} {n_p1 : Nat} (hdp : 1 ≤ dp) (h1 : am_ob m r0 8) (h2 : m.2.1 r0 0 = some p1) (h3 : am_ar m p1 100 n_p1) (h5 : am_ob m r93 8) (k1 : ∀ Q' : am_Q, (∀ (m' : am_M), X G dp a b M9_drawsBallot 56 [some (rV (some r0)), some (iV (i1)), some (iV (i2))] [] m' Q → Q' (.inl none) m') → T G (dp - 1) 0 0 M9_draws [rV (some r93), iV (i92), iV (i91), iV (i90), iV (m.1 p1 ((3 : Int)).toNat)] m Q') (h4 : 3 < (n_p1 : Int) := by intros; first | omega | (dsimp only at *; omega)) : X G dp a b M9_drawsBallot 47 [some (rV (some r0)), some (iV (i1)), some (iV (i2))] [iV (i90), iV (i91), iV (i92), rV (some r93)] m Q := by
  refine X_aload_n dX9_drawsBallot_47 rfl rfl ?_
  refine X_getP dX9_drawsBallot_48 fl_9_9 rfl h1 ?_
  refine am_ptr h2 ?_
  refine Y_iconst dX9_drawsBallot_51 (by unfold i32; omega) ?_
  refine X_iald dX9_drawsBallot_52 h3 (by decide) h4 ?_
  exact X_callV (As := [iV (i92), iV (i91), iV (i90), iV (m.1 p1 ((3 : Int)).toNat)]) (rest := []) (a' := 0) (b' := 0) dX9_drawsBallot_53 t9_draws ml_9_175 h5 rfl rfl (Nat.le_of_ble_eq_true rfl) rfl hdp (Nat.zero_le _) (Nat.zero_le _) (k1 _ (fun m' h => h))

theorem s9_drawsBallot_56 {G : am_G} {dp a b : Nat} {m : am_M} {Q : am_Q} {i1 i2 : Int} {r0 : Nat} (hdp : 1 ≤ dp) (h1 : am_ob m r0 8) (k1 : ∀ Q' : am_Q, (∀ (z : Int) (m' : am_M), X G dp a b M9_drawsBallot 62 [some (rV (some r0)), some (iV (i1)), some (iV (i2))] [lV (z), rV (some r0)] m' Q → Q' (.inl (some (lV (z)))) m') → T G (dp - 1) 0 0 M9_riskNow [rV (some r0), iV (i2)] m Q')  : X G dp a b M9_drawsBallot 56 [some (rV (some r0)), some (iV (i1)), some (iV (i2))] [] m Q := by
  refine X_aload_n dX9_drawsBallot_56 rfl rfl ?_
  refine X_aload_n dX9_drawsBallot_57 rfl rfl ?_
  refine X_iload_n dX9_drawsBallot_58 rfl rfl ?_
  exact X_callV (As := [iV (i2)]) (rest := [rV (some r0)]) (a' := 0) (b' := 0) dX9_drawsBallot_59 t9_riskNow ml_9_169 h1 rfl rfl (Nat.le_of_ble_eq_true rfl) rfl hdp (Nat.zero_le _) (Nat.zero_le _) (k1 _ (fun z m' h => h))

theorem s9_drawsBallot_62 {G : am_G} {dp a b : Nat} {m : am_M} {Q : am_Q} {i1 i2 l90 : Int} {r0 r91 : Nat} (hdp : 1 ≤ dp) (h1 : am_ob m r91 8) (k1 : ∀ Q' : am_Q, (∀ (z : Int) (m' : am_M), X G dp a b M9_drawsBallot 65 [some (rV (some r0)), some (iV (i1)), some (iV (i2))] [iV (z)] m' Q → Q' (.inl (some (iV (z)))) m') → T G (dp - 1) 0 0 M9_isLittle [rV (some r91), lV (l90)] m Q')  : X G dp a b M9_drawsBallot 62 [some (rV (some r0)), some (iV (i1)), some (iV (i2))] [lV (l90), rV (some r91)] m Q := by
  exact X_callV (As := [lV (l90)]) (rest := []) (a' := 0) (b' := 0) dX9_drawsBallot_62 t9_isLittle ml_9_179 h1 rfl rfl (Nat.le_of_ble_eq_true rfl) rfl hdp (Nat.zero_le _) (Nat.zero_le _) (k1 _ (fun z m' h => h))

theorem s9_drawsBallot_65 {G : am_G} {dp a b : Nat} {m : am_M} {Q : am_Q} {i1 i2 i90 : Int} {r0 p1 : Nat} {n_p1 : Nat} (h1 : am_ob m r0 8) (h2 : m.2.1 r0 15 = some p1) (h3 : am_arw m p1 100 n_p1) (k1 : (i90 = 0) → X G dp a b M9_drawsBallot 12 [some (rV (some r0)), some (iV (i1)), some (iV (wr (i2 + 1)))] [] m Q) (k2 : ¬ (i90 = 0) → X G dp a b M9_drawsBallot 12 [some (rV (some r0)), some (iV (i1)), some (iV (wr (i2 + 1)))] [] ((u2 m.1 p1 (i2).toNat (m.1 r0 16)), m.2.1, m.2.2) Q) (h4 : ¬ (i90 = 0) → 0 ≤ i2 := by intros; first | omega | (dsimp only at *; omega)) (h5 : ¬ (i90 = 0) → i2 < (n_p1 : Int) := by intros; first | omega | (dsimp only at *; omega)) : X G dp a b M9_drawsBallot 65 [some (rV (some r0)), some (iV (i1)), some (iV (i2))] [iV (i90)] m Q := by
  refine X_if_eq (tgt := 78) dX9_drawsBallot_65 (by decide) (fun c1 => ?_) (fun c1 => ?_)
  · refine X_iinc dX9_drawsBallot_78 rfl ?_
    refine X_goto (tgt := 12) dX9_drawsBallot_81 (by decide) ?_
    exact (k1 c1)
  · refine X_aload_n dX9_drawsBallot_68 rfl rfl ?_
    refine X_getP dX9_drawsBallot_69 fl_9_47 rfl h1 ?_
    refine am_ptr h2 ?_
    refine X_iload_n dX9_drawsBallot_72 rfl rfl ?_
    refine X_aload_n dX9_drawsBallot_73 rfl rfl ?_
    refine X_getI dX9_drawsBallot_74 fl_9_166 (by decide) h1 ?_
    refine X_iast dX9_drawsBallot_77 h3 (h4 c1) (h5 c1) ?_
    refine X_iinc dX9_drawsBallot_78 rfl ?_
    refine X_goto (tgt := 12) dX9_drawsBallot_81 (by decide) ?_
    exact (k2 c1)

theorem s9_drawsBallot_88 {G : am_G} {dp a b : Nat} {m : am_M} {Q : am_Q} {i1 i2 : Int} {r0 : Nat}  (k1 : Q (.inl none) m)  : X G dp a b M9_drawsBallot 88 [some (rV (some r0)), some (iV (i1)), some (iV (i2))] [] m Q := by
  exact X_vret dX9_drawsBallot_88 rfl k1

theorem s9_begins_0 {G : am_G} {dp a b : Nat} {m : am_M} {Q : am_Q} {r0 : Nat} {o1 : Option am_V} (hdp : 1 ≤ dp) (h1 : am_ob m r0 8) (k1 : ∀ Q' : am_Q, (∀ (m' : am_M), X G dp a b M9_begins 4 [some (rV (some r0)), o1] [] m' Q → Q' (.inl none) m') → T G (dp - 1) 0 0 M9_layRaces [rV (some r0)] m Q')  : X G dp a b M9_begins 0 [some (rV (some r0)), o1] [] m Q := by
  refine X_aload_n dX9_begins_0 rfl rfl ?_
  exact X_callV (As := []) (rest := []) (a' := 0) (b' := 0) dX9_begins_1 t9_layRaces ml_9_186 h1 rfl rfl (Nat.le_of_ble_eq_true rfl) rfl hdp (Nat.zero_le _) (Nat.zero_le _) (k1 _ (fun m' h => h))

theorem s9_begins_4 {G : am_G} {dp a b : Nat} {m : am_M} {Q : am_Q} {r0 : Nat} {o1 : Option am_V} (h1 : am_obw m r0 8) (k1 : X G dp a b M9_begins 11 [some (rV (some r0)), some (iV (0))] [] ((u2 m.1 r0 16 (0)), m.2.1, m.2.2) Q)  : X G dp a b M9_begins 4 [some (rV (some r0)), o1] [] m Q := by
  refine X_aload_n dX9_begins_4 rfl rfl ?_
  refine Y_iconst dX9_begins_5 (by unfold i32; omega) ?_
  refine X_putI dX9_begins_6 fw_9_166 rfl h1 ?_
  refine Y_iconst dX9_begins_9 (by unfold i32; omega) ?_
  refine X_istore_n dX9_begins_10 rfl (Nat.le_of_ble_eq_true rfl) ?_
  exact k1

theorem s9_begins_11 {G : am_G} {dp a b : Nat} {m : am_M} {Q : am_Q} {i1 : Int} {r0 : Nat} (hdp : 1 ≤ dp) (h1 : am_ob m r0 8) (k1 : ∀ Q' : am_Q, (∀ (z : Int) (m' : am_M), X G dp a b M9_begins 16 [some (rV (some r0)), some (iV (i1))] [iV (z), iV (i1)] m' Q → Q' (.inl (some (iV (z)))) m') → T G (dp - 1) 0 0 M9_races [rV (some r0)] m Q')  : X G dp a b M9_begins 11 [some (rV (some r0)), some (iV (i1))] [] m Q := by
  refine X_iload_n dX9_begins_11 rfl rfl ?_
  refine X_aload_n dX9_begins_12 rfl rfl ?_
  exact X_callV (As := []) (rest := [iV (i1)]) (a' := 0) (b' := 0) dX9_begins_13 t9_races ml_9_76 h1 rfl rfl (Nat.le_of_ble_eq_true rfl) rfl hdp (Nat.zero_le _) (Nat.zero_le _) (k1 _ (fun z m' h => h))

theorem s9_begins_16 {G : am_G} {dp a b : Nat} {m : am_M} {Q : am_Q} {i1 i90 i91 : Int} {r0 : Nat} (hdp : 1 ≤ dp) (h1 : am_ob m r0 8) (k1 : (i90 ≤ i91) → ∀ Q' : am_Q, (∀ (m' : am_M), X G dp a b M9_begins 34 [some (rV (some r0)), some (iV (i1))] [] m' Q → Q' (.inl none) m') → T G (dp - 1) 0 0 M9_writesHistory [rV (some r0)] m Q') (k2 : ¬ (i90 ≤ i91) → ∀ Q' : am_Q, (∀ (m' : am_M), X G dp a b M9_begins 24 [some (rV (some r0)), some (iV (i1))] [] m' Q → Q' (.inl none) m') → T G (dp - 1) 0 0 M9_clear [rV (some r0), iV (i1)] m Q')  : X G dp a b M9_begins 16 [some (rV (some r0)), some (iV (i1))] [iV (i90), iV (i91)] m Q := by
  refine X_icmp_ge (tgt := 30) dX9_begins_16 (by decide) (fun c1 => ?_) (fun c1 => ?_)
  · refine X_aload_n dX9_begins_30 rfl rfl ?_
    exact X_callV (As := []) (rest := []) (a' := 0) (b' := 0) dX9_begins_31 t9_writesHistory ml_9_183 h1 rfl rfl (Nat.le_of_ble_eq_true rfl) rfl hdp (Nat.zero_le _) (Nat.zero_le _) ((k1 c1) _ (fun m' h => h))
  · refine X_aload_n dX9_begins_19 rfl rfl ?_
    refine X_iload_n dX9_begins_20 rfl rfl ?_
    exact X_callV (As := [iV (i1)]) (rest := []) (a' := 0) (b' := 0) dX9_begins_21 t9_clear ml_9_189 h1 rfl rfl (Nat.le_of_ble_eq_true rfl) rfl hdp (Nat.zero_le _) (Nat.zero_le _) ((k2 c1) _ (fun m' h => h))

theorem s9_begins_24 {G : am_G} {dp a b : Nat} {m : am_M} {Q : am_Q} {i1 : Int} {r0 : Nat}  (k1 : X G dp a b M9_begins 11 [some (rV (some r0)), some (iV (wr (i1 + 1)))] [] m Q)  : X G dp a b M9_begins 24 [some (rV (some r0)), some (iV (i1))] [] m Q := by
  refine X_iinc dX9_begins_24 rfl ?_
  refine X_goto (tgt := 11) dX9_begins_27 (by decide) ?_
  exact k1

theorem s9_begins_34 {G : am_G} {dp a b : Nat} {m : am_M} {Q : am_Q} {i1 : Int} {r0 : Nat}  (k1 : Q (.inl none) m)  : X G dp a b M9_begins 34 [some (rV (some r0)), some (iV (i1))] [] m Q := by
  exact X_vret dX9_begins_34 rfl k1

theorem s9_goes_0 {G : am_G} {dp a b : Nat} {m : am_M} {Q : am_Q} {r0 : Nat} {o1 : Option am_V} (hdp : 1 ≤ dp) (h1 : am_ob m r0 8) (k1 : ∀ Q' : am_Q, (∀ (m' : am_M), X G dp a b M9_goes 4 [some (rV (some r0)), o1] [] m' Q → Q' (.inl none) m') → T G (dp - 1) 0 0 M9_begins [rV (some r0)] m Q')  : X G dp a b M9_goes 0 [some (rV (some r0)), o1] [] m Q := by
  refine X_aload_n dX9_goes_0 rfl rfl ?_
  exact X_callV (As := []) (rest := []) (a' := 0) (b' := 0) dX9_goes_1 t9_begins ml_9_193 h1 rfl rfl (Nat.le_of_ble_eq_true rfl) rfl hdp (Nat.zero_le _) (Nat.zero_le _) (k1 _ (fun m' h => h))

theorem s9_goes_4 {G : am_G} {dp a b : Nat} {m : am_M} {Q : am_Q} {r0 : Nat} {o1 : Option am_V}  (k1 : X G dp a b M9_goes 6 [some (rV (some r0)), some (iV (0))] [] m Q)  : X G dp a b M9_goes 4 [some (rV (some r0)), o1] [] m Q := by
  refine Y_iconst dX9_goes_4 (by unfold i32; omega) ?_
  refine X_istore_n dX9_goes_5 rfl (Nat.le_of_ble_eq_true rfl) ?_
  exact k1

theorem s9_goes_6 {G : am_G} {dp a b : Nat} {m : am_M} {Q : am_Q} {i1 : Int} {r0 p1 : Nat} {n_p1 : Nat} (hdp : 1 ≤ dp) (h1 : am_ob m r0 8) (h2 : m.2.1 r0 0 = some p1) (h3 : am_ar m p1 100 n_p1) (k1 : ((m.1 p1 ((6 : Int)).toNat) ≤ i1) → Q (.inl none) m) (k2 : ¬ ((m.1 p1 ((6 : Int)).toNat) ≤ i1) → ∀ Q' : am_Q, (∀ (z : Int) (m' : am_M), X G dp a b M9_goes 21 [some (rV (some r0)), some (iV (i1))] [iV (z)] m' Q → Q' (.inl (some (iV (z)))) m') → T G (dp - 1) 0 0 M9_isOver [rV (some r0)] m Q') (h4 : 6 < (n_p1 : Int) := by intros; first | omega | (dsimp only at *; omega)) : X G dp a b M9_goes 6 [some (rV (some r0)), some (iV (i1))] [] m Q := by
  refine X_iload_n dX9_goes_6 rfl rfl ?_
  refine X_aload_n dX9_goes_7 rfl rfl ?_
  refine X_getP dX9_goes_8 fl_9_9 rfl h1 ?_
  refine am_ptr h2 ?_
  refine Y_bipush dX9_goes_11 (by omega) ?_
  refine X_iald dX9_goes_13 h3 (by decide) h4 ?_
  refine X_icmp_ge (tgt := 44) dX9_goes_14 (by decide) (fun c1 => ?_) (fun c1 => ?_)
  · exact X_vret dX9_goes_44 rfl (k1 c1)
  · refine X_aload_n dX9_goes_17 rfl rfl ?_
    exact X_callV (As := []) (rest := []) (a' := 0) (b' := 0) dX9_goes_18 t9_isOver ml_9_196 h1 rfl rfl (Nat.le_of_ble_eq_true rfl) rfl hdp (Nat.zero_le _) (Nat.zero_le _) ((k2 c1) _ (fun z m' h => h))

theorem s9_goes_21 {G : am_G} {dp a b : Nat} {m : am_M} {Q : am_Q} {i1 i90 : Int} {r0 p1 : Nat} {n_p1 : Nat} (hdp : 1 ≤ dp) (h1 : am_ob m r0 8) (h2 : m.2.1 r0 0 = some p1) (h3 : am_ar m p1 100 n_p1) (k1 : ¬ (i90 = 0) → Q (.inl none) m) (k2 : (i90 = 0) → ∀ Q' : am_Q, (∀ (m' : am_M), X G dp a b M9_goes 38 [some (rV (some r0)), some (iV (i1))] [] m' Q → Q' (.inl none) m') → T G (dp - 1) 0 0 M9_drawsBallot [rV (some r0), iV (m.1 p1 (wr (1214 + i1)).toNat)] m Q') (h4 : i90 = 0 → 0 ≤ wr (1214 + i1) := by intros; first | omega | (dsimp only at *; omega)) (h5 : i90 = 0 → wr (1214 + i1) < (n_p1 : Int) := by intros; first | omega | (dsimp only at *; omega)) : X G dp a b M9_goes 21 [some (rV (some r0)), some (iV (i1))] [iV (i90)] m Q := by
  refine X_if_ne (tgt := 44) dX9_goes_21 (by decide) (fun c1 => ?_) (fun c1 => ?_)
  · exact X_vret dX9_goes_44 rfl (k1 c1)
  · refine X_aload_n dX9_goes_24 rfl rfl ?_
    refine X_aload_n dX9_goes_25 rfl rfl ?_
    refine X_getP dX9_goes_26 fl_9_9 rfl h1 ?_
    refine am_ptr h2 ?_
    refine Y_sipush dX9_goes_29 (by omega) ?_
    refine X_iload_n dX9_goes_32 rfl rfl ?_
    refine X_iadd dX9_goes_33  ?_
    refine X_iald dX9_goes_34 h3 (h4 c1) (h5 c1) ?_
    exact X_callV (As := [iV (m.1 p1 (wr (1214 + i1)).toNat)]) (rest := []) (a' := 0) (b' := 0) dX9_goes_35 t9_drawsBallot ml_9_200 h1 rfl rfl (Nat.le_of_ble_eq_true rfl) rfl hdp (Nat.zero_le _) (Nat.zero_le _) ((k2 c1) _ (fun m' h => h))

theorem s9_goes_38 {G : am_G} {dp a b : Nat} {m : am_M} {Q : am_Q} {i1 : Int} {r0 : Nat}  (k1 : X G dp a b M9_goes 6 [some (rV (some r0)), some (iV (wr (i1 + 1)))] [] m Q)  : X G dp a b M9_goes 38 [some (rV (some r0)), some (iV (i1))] [] m Q := by
  refine X_iinc dX9_goes_38 rfl ?_
  refine X_goto (tgt := 6) dX9_goes_41 (by decide) ?_
  exact k1

theorem s9_isByHand_0 {G : am_G} {dp a b : Nat} {m : am_M} {Q : am_Q} {r0 : Nat} (hdp : 1 ≤ dp) (h1 : am_ob m r0 8) (k1 : ∀ Q' : am_Q, (∀ (z : Int) (m' : am_M), X G dp a b M9_isByHand 4 [some (rV (some r0))] [iV (z)] m' Q → Q' (.inl (some (iV (z)))) m') → T G (dp - 1) 0 0 M9_isOver [rV (some r0)] m Q')  : X G dp a b M9_isByHand 0 [some (rV (some r0))] [] m Q := by
  refine X_aload_n dX9_isByHand_0 rfl rfl ?_
  exact X_callV (As := []) (rest := []) (a' := 0) (b' := 0) dX9_isByHand_1 t9_isOver ml_9_196 h1 rfl rfl (Nat.le_of_ble_eq_true rfl) rfl hdp (Nat.zero_le _) (Nat.zero_le _) (k1 _ (fun z m' h => h))

theorem s9_isByHand_4 {G : am_G} {dp a b : Nat} {m : am_M} {Q : am_Q} {i90 : Int} {r0 p1 : Nat} {n_p1 : Nat} (h1 : am_ob m r0 8) (h2 : m.2.1 r0 0 = some p1) (h3 : am_ar m p1 100 n_p1) (k1 : ¬ (i90 = 0) → Q (.inl (some (iV (0)))) m) (k2 : (i90 = 0) → ((m.1 r0 16) < (m.1 p1 ((4 : Int)).toNat)) → Q (.inl (some (iV (0)))) m) (k3 : (i90 = 0) → ¬ ((m.1 r0 16) < (m.1 p1 ((4 : Int)).toNat)) → Q (.inl (some (iV (1)))) m) (h4 : i90 = 0 → 4 < (n_p1 : Int) := by intros; first | omega | (dsimp only at *; omega)) : X G dp a b M9_isByHand 4 [some (rV (some r0))] [iV (i90)] m Q := by
  refine X_if_ne (tgt := 24) dX9_isByHand_4 (by decide) (fun c1 => ?_) (fun c1 => ?_)
  · refine Y_iconst dX9_isByHand_24 (by unfold i32; omega) ?_
    exact X_zret dX9_isByHand_25 rfl (by decide) (k1 c1)
  · refine X_aload_n dX9_isByHand_7 rfl rfl ?_
    refine X_getI dX9_isByHand_8 fl_9_166 (by decide) h1 ?_
    refine X_aload_n dX9_isByHand_11 rfl rfl ?_
    refine X_getP dX9_isByHand_12 fl_9_9 rfl h1 ?_
    refine am_ptr h2 ?_
    refine Y_iconst dX9_isByHand_15 (by unfold i32; omega) ?_
    refine X_iald dX9_isByHand_16 h3 (by decide) (h4 c1) ?_
    refine X_icmp_lt (tgt := 24) dX9_isByHand_17 (by decide) (fun c2 => ?_) (fun c2 => ?_)
    · refine Y_iconst dX9_isByHand_24 (by unfold i32; omega) ?_
      exact X_zret dX9_isByHand_25 rfl (by decide) (k2 c1 c2)
    · refine Y_iconst dX9_isByHand_20 (by unfold i32; omega) ?_
      refine X_goto (tgt := 25) dX9_isByHand_21 (by decide) ?_
      exact X_zret dX9_isByHand_25 rfl (by decide) (k3 c1 c2)

theorem s9_drawnBy_0 {G : am_G} {dp a b : Nat} {m : am_M} {Q : am_Q} {r0 : Nat} (hdp : 1 ≤ dp) (h2 : am_obw m r0 8) (k1 : ∀ Q' : am_Q, (∀ (z : Int) (m' : am_M), X G dp a b M9_drawnBy 30 [some (rV (some r0))] [iV (z), iV (ian (ishx ((u2 m.1 r0 18 (wr ((wr ((m.1 r0 18) * 1103515245)) + 12345))) r0 18) 16) 32767)] m' Q → Q' (.inl (some (iV (z)))) m') → T G (dp - 1) 0 0 M9_ballots [rV (some r0)] ((u2 m.1 r0 18 (wr ((wr ((m.1 r0 18) * 1103515245)) + 12345))), m.2.1, m.2.2) Q')  : X G dp a b M9_drawnBy 0 [some (rV (some r0))] [] m Q := by
  refine X_aload_n dX9_drawnBy_0 rfl rfl ?_
  refine X_aload_n dX9_drawnBy_1 rfl rfl ?_
  refine X_getI dX9_drawnBy_2 fl_9_203 (by decide) (am_ow h2) ?_
  refine X_ldcI dX9_drawnBy_5 kc_9_206 (by unfold i32; omega) ?_
  refine X_imul dX9_drawnBy_7  ?_
  refine Y_sipush dX9_drawnBy_8 (by omega) ?_
  refine X_iadd dX9_drawnBy_11  ?_
  refine X_putI dX9_drawnBy_12 fw_9_203 rfl h2 ?_
  refine X_aload_n dX9_drawnBy_15 rfl rfl ?_
  refine X_getI dX9_drawnBy_16 fl_9_203 (by decide) (am_ow h2) ?_
  refine Y_bipush dX9_drawnBy_19 (by omega) ?_
  refine X_ishr dX9_drawnBy_21  ?_
  refine Y_sipush dX9_drawnBy_22 (by omega) ?_
  refine X_iand dX9_drawnBy_25  ?_
  refine X_aload_n dX9_drawnBy_26 rfl rfl ?_
  exact X_callV (As := []) (rest := [iV (ian (ishx ((u2 m.1 r0 18 (wr ((wr ((m.1 r0 18) * 1103515245)) + 12345))) r0 18) 16) 32767)]) (a' := 0) (b' := 0) dX9_drawnBy_27 t9_ballots ml_9_84 (am_ow h2) rfl rfl (Nat.le_of_ble_eq_true rfl) rfl hdp (Nat.zero_le _) (Nat.zero_le _) (k1 _ (fun z m' h => h))

theorem s9_drawnBy_30 {G : am_G} {dp a b : Nat} {m : am_M} {Q : am_Q} {i90 i91 : Int} {r0 : Nat}  (k1 : Q (.inl (some (iV (Int.tmod i91 i90)))) m) (h1 : i90 ≠ 0 := by intros; first | omega | (dsimp only at *; omega)) : X G dp a b M9_drawnBy 30 [some (rV (some r0))] [iV (i90), iV (i91)] m Q := by
  refine X_irem dX9_drawnBy_30 h1 ?_
  exact X_iret dX9_drawnBy_31 rfl k1

theorem s9_seeds_0 {G : am_G} {dp a b : Nat} {m : am_M} {Q : am_Q} {r0 p1 : Nat} {o1 o2 : Option am_V} {n_p1 : Nat} (h2 : m.2.1 r0 0 = some p1) (h3 : am_ar m p1 100 n_p1) (h5 : am_obw m r0 8) (k1 : X G dp a b M9_seeds 12 [some (rV (some r0)), some (iV (0)), o2] [] ((u2 m.1 r0 18 (m.1 p1 ((5 : Int)).toNat)), m.2.1, m.2.2) Q) (h4 : 5 < (n_p1 : Int) := by intros; first | omega | (dsimp only at *; omega)) : X G dp a b M9_seeds 0 [some (rV (some r0)), o1, o2] [] m Q := by
  refine X_aload_n dX9_seeds_0 rfl rfl ?_
  refine X_aload_n dX9_seeds_1 rfl rfl ?_
  refine X_getP dX9_seeds_2 fl_9_9 rfl (am_ow h5) ?_
  refine am_ptr h2 ?_
  refine Y_iconst dX9_seeds_5 (by unfold i32; omega) ?_
  refine X_iald dX9_seeds_6 h3 (by decide) h4 ?_
  refine X_putI dX9_seeds_7 fw_9_203 rfl h5 ?_
  refine Y_iconst dX9_seeds_10 (by unfold i32; omega) ?_
  refine X_istore_n dX9_seeds_11 rfl (Nat.le_of_ble_eq_true rfl) ?_
  exact k1

theorem s9_seeds_12 {G : am_G} {dp a b : Nat} {m : am_M} {Q : am_Q} {i1 : Int} {r0 p1 : Nat} {o2 : Option am_V} {n_p1 : Nat} (hdp : 1 ≤ dp) (h1 : am_ob m r0 8) (h2 : m.2.1 r0 0 = some p1) (h3 : am_ar m p1 100 n_p1) (k1 : ((m.1 p1 ((6 : Int)).toNat) ≤ i1) → Q (.inl none) m) (k2 : ¬ ((m.1 p1 ((6 : Int)).toNat) ≤ i1) → ∀ Q' : am_Q, (∀ (z : Int) (m' : am_M), X G dp a b M9_seeds 27 [some (rV (some r0)), some (iV (i1)), o2] [iV (z)] m' Q → Q' (.inl (some (iV (z)))) m') → T G (dp - 1) 0 0 M9_drawnBy [rV (some r0)] m Q') (h4 : 6 < (n_p1 : Int) := by intros; first | omega | (dsimp only at *; omega)) : X G dp a b M9_seeds 12 [some (rV (some r0)), some (iV (i1)), o2] [] m Q := by
  refine X_iload_n dX9_seeds_12 rfl rfl ?_
  refine X_aload_n dX9_seeds_13 rfl rfl ?_
  refine X_getP dX9_seeds_14 fl_9_9 rfl h1 ?_
  refine am_ptr h2 ?_
  refine Y_bipush dX9_seeds_17 (by omega) ?_
  refine X_iald dX9_seeds_19 h3 (by decide) h4 ?_
  refine X_icmp_ge (tgt := 34) dX9_seeds_20 (by decide) (fun c1 => ?_) (fun c1 => ?_)
  · exact X_vret dX9_seeds_34 rfl (k1 c1)
  · refine X_aload_n dX9_seeds_23 rfl rfl ?_
    exact X_callV (As := []) (rest := []) (a' := 0) (b' := 0) dX9_seeds_24 t9_drawnBy ml_9_207 h1 rfl rfl (Nat.le_of_ble_eq_true rfl) rfl hdp (Nat.zero_le _) (Nat.zero_le _) ((k2 c1) _ (fun z m' h => h))

theorem s9_seeds_27 {G : am_G} {dp a b : Nat} {m : am_M} {Q : am_Q} {i1 i90 : Int} {r0 : Nat} {o2 : Option am_V}  (k1 : X G dp a b M9_seeds 12 [some (rV (some r0)), some (iV (wr (i1 + 1))), some (iV (i90))] [] m Q)  : X G dp a b M9_seeds 27 [some (rV (some r0)), some (iV (i1)), o2] [iV (i90)] m Q := by
  refine X_istore_n dX9_seeds_27 rfl (Nat.le_of_ble_eq_true rfl) ?_
  refine X_iinc dX9_seeds_28 rfl ?_
  refine X_goto (tgt := 12) dX9_seeds_31 (by decide) ?_
  exact k1

theorem s9_draw_0 {G : am_G} {dp a b : Nat} {m : am_M} {Q : am_Q} {i1 : Int} {r0 : Nat} {o2 : Option am_V} (hdp : 1 ≤ dp) (h1 : am_obw m r0 8) (k1 : ∀ Q' : am_Q, (∀ (z : Int) (m' : am_M), X G dp a b M9_draw 13 [some (rV (some r0)), some (iV (i1)), o2] [iV (z)] m' Q → Q' (.inl (some (iV (z)))) m') → T G (dp - 1) 0 0 M9_isIn [iV (i1), iV (1), iV (300)] ((u2 m.1 r0 7 (0)), m.2.1, m.2.2) Q')  : X G dp a b M9_draw 0 [some (rV (some r0)), some (iV (i1)), o2] [] m Q := by
  refine X_aload_n dX9_draw_0 rfl rfl ?_
  refine Y_iconst dX9_draw_1 (by unfold i32; omega) ?_
  refine X_putI dX9_draw_2 fw_9_73 rfl h1 ?_
  refine X_iload_n dX9_draw_5 rfl rfl ?_
  refine Y_iconst dX9_draw_6 (by unfold i32; omega) ?_
  refine Y_sipush dX9_draw_7 (by omega) ?_
  exact X_callS (As := [iV (i1), iV (1), iV (300)]) (rest := []) (a' := 0) (b' := 0) dX9_draw_10 t9_isIn ml_9_80 rfl rfl (Nat.le_of_ble_eq_true rfl) rfl hdp (Nat.zero_le _) (Nat.zero_le _) (k1 _ (fun z m' h => h))

theorem s9_draw_13 {G : am_G} {dp a b : Nat} {m : am_M} {Q : am_Q} {i1 i90 : Int} {r0 : Nat} {o2 : Option am_V} (hdp : 1 ≤ dp) (h1 : am_ob m r0 8) (k1 : ¬ (i90 = 0) → ∀ Q' : am_Q, (∀ (m' : am_M), X G dp a b M9_draw 26 [some (rV (some r0)), some (iV (i1)), o2] [] m' Q → Q' (.inl none) m') → T G (dp - 1) 0 0 M9_goes [rV (some r0)] m Q') (k2 : (i90 = 0) → ∀ Q' : am_Q, (∀ (z : Int) (m' : am_M), X G dp a b M9_draw 21 [some (rV (some r0)), some (iV (i1)), o2] [iV (z)] m' Q → Q' (.inl (some (iV (z)))) m') → T G (dp - 1) 0 0 M9_fail [rV (some r0), iV (1)] m Q')  : X G dp a b M9_draw 13 [some (rV (some r0)), some (iV (i1)), o2] [iV (i90)] m Q := by
  refine X_if_ne (tgt := 22) dX9_draw_13 (by decide) (fun c1 => ?_) (fun c1 => ?_)
  · refine X_aload_n dX9_draw_22 rfl rfl ?_
    exact X_callV (As := []) (rest := []) (a' := 0) (b' := 0) dX9_draw_23 t9_goes ml_9_213 h1 rfl rfl (Nat.le_of_ble_eq_true rfl) rfl hdp (Nat.zero_le _) (Nat.zero_le _) ((k1 c1) _ (fun m' h => h))
  · refine X_aload_n dX9_draw_16 rfl rfl ?_
    refine Y_iconst dX9_draw_17 (by unfold i32; omega) ?_
    exact X_callV (As := [iV (1)]) (rest := []) (a' := 0) (b' := 0) dX9_draw_18 t9_fail ml_9_210 h1 rfl rfl (Nat.le_of_ble_eq_true rfl) rfl hdp (Nat.zero_le _) (Nat.zero_le _) ((k2 c1) _ (fun z m' h => h))

theorem s9_draw_21 {G : am_G} {dp a b : Nat} {m : am_M} {Q : am_Q} {i1 i90 : Int} {r0 : Nat} {o2 : Option am_V}  (k1 : Q (.inl (some (iV (i90)))) m)  : X G dp a b M9_draw 21 [some (rV (some r0)), some (iV (i1)), o2] [iV (i90)] m Q := by
  exact X_iret dX9_draw_21 rfl k1

theorem s9_draw_26 {G : am_G} {dp a b : Nat} {m : am_M} {Q : am_Q} {i1 : Int} {r0 : Nat} {o2 : Option am_V} (hdp : 1 ≤ dp) (h1 : am_ob m r0 8) (k1 : ∀ Q' : am_Q, (∀ (z : Int) (m' : am_M), X G dp a b M9_draw 30 [some (rV (some r0)), some (iV (i1)), o2] [iV (z)] m' Q → Q' (.inl (some (iV (z)))) m') → T G (dp - 1) 0 0 M9_isOver [rV (some r0)] m Q')  : X G dp a b M9_draw 26 [some (rV (some r0)), some (iV (i1)), o2] [] m Q := by
  refine X_aload_n dX9_draw_26 rfl rfl ?_
  exact X_callV (As := []) (rest := []) (a' := 0) (b' := 0) dX9_draw_27 t9_isOver ml_9_196 h1 rfl rfl (Nat.le_of_ble_eq_true rfl) rfl hdp (Nat.zero_le _) (Nat.zero_le _) (k1 _ (fun z m' h => h))

theorem s9_draw_30 {G : am_G} {dp a b : Nat} {m : am_M} {Q : am_Q} {i1 i90 : Int} {r0 p1 : Nat} {o2 : Option am_V} {n_p1 : Nat} (hdp : 1 ≤ dp) (h1 : am_ob m r0 8) (h2 : m.2.1 r0 0 = some p1) (h3 : am_ar m p1 100 n_p1) (k1 : ¬ (i90 = 0) → Q (.inl (some (iV ((-1))))) m) (k2 : (i90 = 0) → ((m.1 p1 ((4 : Int)).toNat) ≤ (m.1 r0 16)) → Q (.inl (some (iV ((-1))))) m) (k3 : (i90 = 0) → ¬ ((m.1 p1 ((4 : Int)).toNat) ≤ (m.1 r0 16)) → ∀ Q' : am_Q, (∀ (z : Int) (m' : am_M), X G dp a b M9_draw 50 [some (rV (some r0)), some (iV (i1)), o2] [iV (z)] m' Q → Q' (.inl (some (iV (z)))) m') → T G (dp - 1) 0 0 M9_ballots [rV (some r0)] m Q') (h4 : i90 = 0 → 4 < (n_p1 : Int) := by intros; first | omega | (dsimp only at *; omega)) : X G dp a b M9_draw 30 [some (rV (some r0)), some (iV (i1)), o2] [iV (i90)] m Q := by
  refine X_if_ne (tgt := 53) dX9_draw_30 (by decide) (fun c1 => ?_) (fun c1 => ?_)
  · refine Y_iconst dX9_draw_53 (by unfold i32; omega) ?_
    exact X_iret dX9_draw_54 rfl (k1 c1)
  · refine X_aload_n dX9_draw_33 rfl rfl ?_
    refine X_getI dX9_draw_34 fl_9_166 (by decide) h1 ?_
    refine X_aload_n dX9_draw_37 rfl rfl ?_
    refine X_getP dX9_draw_38 fl_9_9 rfl h1 ?_
    refine am_ptr h2 ?_
    refine Y_iconst dX9_draw_41 (by unfold i32; omega) ?_
    refine X_iald dX9_draw_42 h3 (by decide) (h4 c1) ?_
    refine X_icmp_ge (tgt := 53) dX9_draw_43 (by decide) (fun c2 => ?_) (fun c2 => ?_)
    · refine Y_iconst dX9_draw_53 (by unfold i32; omega) ?_
      exact X_iret dX9_draw_54 rfl (k2 c1 c2)
    · refine X_aload_n dX9_draw_46 rfl rfl ?_
      exact X_callV (As := []) (rest := []) (a' := 0) (b' := 0) dX9_draw_47 t9_ballots ml_9_84 h1 rfl rfl (Nat.le_of_ble_eq_true rfl) rfl hdp (Nat.zero_le _) (Nat.zero_le _) ((k3 c1 c2) _ (fun z m' h => h))

theorem s9_draw_50 {G : am_G} {dp a b : Nat} {m : am_M} {Q : am_Q} {i1 i90 : Int} {r0 : Nat} {o2 : Option am_V} (hdp : 1 ≤ dp) (h1 : am_ob m r0 8) (k1 : ¬ (i90 = 0) → ∀ Q' : am_Q, (∀ (m' : am_M), X G dp a b M9_draw 59 [some (rV (some r0)), some (iV (i1)), o2] [] m' Q → Q' (.inl none) m') → T G (dp - 1) 0 0 M9_keep [rV (some r0)] m Q') (k2 : (i90 = 0) → Q (.inl (some (iV ((-1))))) m)  : X G dp a b M9_draw 50 [some (rV (some r0)), some (iV (i1)), o2] [iV (i90)] m Q := by
  refine X_if_ne (tgt := 55) dX9_draw_50 (by decide) (fun c1 => ?_) (fun c1 => ?_)
  · refine X_aload_n dX9_draw_55 rfl rfl ?_
    exact X_callV (As := []) (rest := []) (a' := 0) (b' := 0) dX9_draw_56 t9_keep ml_9_216 h1 rfl rfl (Nat.le_of_ble_eq_true rfl) rfl hdp (Nat.zero_le _) (Nat.zero_le _) ((k1 c1) _ (fun m' h => h))
  · refine Y_iconst dX9_draw_53 (by unfold i32; omega) ?_
    exact X_iret dX9_draw_54 rfl (k2 c1)

theorem s9_draw_59 {G : am_G} {dp a b : Nat} {m : am_M} {Q : am_Q} {i1 : Int} {r0 : Nat} {o2 : Option am_V} (hdp : 1 ≤ dp) (h1 : am_ob m r0 8) (k1 : ∀ Q' : am_Q, (∀ (m' : am_M), X G dp a b M9_draw 63 [some (rV (some r0)), some (iV (i1)), o2] [] m' Q → Q' (.inl none) m') → T G (dp - 1) 0 0 M9_seeds [rV (some r0)] m Q')  : X G dp a b M9_draw 59 [some (rV (some r0)), some (iV (i1)), o2] [] m Q := by
  refine X_aload_n dX9_draw_59 rfl rfl ?_
  exact X_callV (As := []) (rest := []) (a' := 0) (b' := 0) dX9_draw_60 t9_seeds ml_9_219 h1 rfl rfl (Nat.le_of_ble_eq_true rfl) rfl hdp (Nat.zero_le _) (Nat.zero_le _) (k1 _ (fun m' h => h))

theorem s9_draw_63 {G : am_G} {dp a b : Nat} {m : am_M} {Q : am_Q} {i1 : Int} {r0 : Nat} {o2 : Option am_V} (h1 : am_ob m r0 8) (k1 : X G dp a b M9_draw 68 [some (rV (some r0)), some (iV (i1)), some (iV (m.1 r0 16))] [] m Q)  : X G dp a b M9_draw 63 [some (rV (some r0)), some (iV (i1)), o2] [] m Q := by
  refine X_aload_n dX9_draw_63 rfl rfl ?_
  refine X_getI dX9_draw_64 fl_9_166 (by decide) h1 ?_
  refine X_istore_n dX9_draw_67 rfl (Nat.le_of_ble_eq_true rfl) ?_
  exact k1

theorem s9_draw_68 {G : am_G} {dp a b : Nat} {m : am_M} {Q : am_Q} {i1 i2 : Int} {r0 : Nat} (hdp : 1 ≤ dp) (h1 : am_ob m r0 8) (k1 : (i1 ≤ (wr ((m.1 r0 16) - i2))) → Q (.inl (some (iV (wr ((m.1 r0 16) - i2))))) m) (k2 : ¬ (i1 ≤ (wr ((m.1 r0 16) - i2))) → ∀ Q' : am_Q, (∀ (z : Int) (m' : am_M), X G dp a b M9_draw 82 [some (rV (some r0)), some (iV (i1)), some (iV (i2))] [iV (z)] m' Q → Q' (.inl (some (iV (z)))) m') → T G (dp - 1) 0 0 M9_isOver [rV (some r0)] m Q')  : X G dp a b M9_draw 68 [some (rV (some r0)), some (iV (i1)), some (iV (i2))] [] m Q := by
  refine X_aload_n dX9_draw_68 rfl rfl ?_
  refine X_getI dX9_draw_69 fl_9_166 (by decide) h1 ?_
  refine X_iload_n dX9_draw_72 rfl rfl ?_
  refine X_isub dX9_draw_73  ?_
  refine X_iload_n dX9_draw_74 rfl rfl ?_
  refine X_icmp_ge (tgt := 105) dX9_draw_75 (by decide) (fun c1 => ?_) (fun c1 => ?_)
  · refine X_aload_n dX9_draw_105 rfl rfl ?_
    refine X_getI dX9_draw_106 fl_9_166 (by decide) h1 ?_
    refine X_iload_n dX9_draw_109 rfl rfl ?_
    refine X_isub dX9_draw_110  ?_
    exact X_iret dX9_draw_111 rfl (k1 c1)
  · refine X_aload_n dX9_draw_78 rfl rfl ?_
    exact X_callV (As := []) (rest := []) (a' := 0) (b' := 0) dX9_draw_79 t9_isOver ml_9_196 h1 rfl rfl (Nat.le_of_ble_eq_true rfl) rfl hdp (Nat.zero_le _) (Nat.zero_le _) ((k2 c1) _ (fun z m' h => h))

theorem s9_draw_82 {G : am_G} {dp a b : Nat} {m : am_M} {Q : am_Q} {i1 i2 i90 : Int} {r0 p1 : Nat} {n_p1 : Nat} (hdp : 1 ≤ dp) (h1 : am_ob m r0 8) (h2 : m.2.1 r0 0 = some p1) (h3 : am_ar m p1 100 n_p1) (k1 : ¬ (i90 = 0) → Q (.inl (some (iV (wr ((m.1 r0 16) - i2))))) m) (k2 : (i90 = 0) → ((m.1 p1 ((4 : Int)).toNat) ≤ (m.1 r0 16)) → Q (.inl (some (iV (wr ((m.1 r0 16) - i2))))) m) (k3 : (i90 = 0) → ¬ ((m.1 p1 ((4 : Int)).toNat) ≤ (m.1 r0 16)) → ∀ Q' : am_Q, (∀ (m' : am_M), X G dp a b M9_draw 102 [some (rV (some r0)), some (iV (i1)), some (iV (i2))] [] m' Q → Q' (.inl none) m') → T G (dp - 1) 0 0 M9_drawsOne [rV (some r0)] m Q') (h4 : i90 = 0 → 4 < (n_p1 : Int) := by intros; first | omega | (dsimp only at *; omega)) : X G dp a b M9_draw 82 [some (rV (some r0)), some (iV (i1)), some (iV (i2))] [iV (i90)] m Q := by
  refine X_if_ne (tgt := 105) dX9_draw_82 (by decide) (fun c1 => ?_) (fun c1 => ?_)
  · refine X_aload_n dX9_draw_105 rfl rfl ?_
    refine X_getI dX9_draw_106 fl_9_166 (by decide) h1 ?_
    refine X_iload_n dX9_draw_109 rfl rfl ?_
    refine X_isub dX9_draw_110  ?_
    exact X_iret dX9_draw_111 rfl (k1 c1)
  · refine X_aload_n dX9_draw_85 rfl rfl ?_
    refine X_getI dX9_draw_86 fl_9_166 (by decide) h1 ?_
    refine X_aload_n dX9_draw_89 rfl rfl ?_
    refine X_getP dX9_draw_90 fl_9_9 rfl h1 ?_
    refine am_ptr h2 ?_
    refine Y_iconst dX9_draw_93 (by unfold i32; omega) ?_
    refine X_iald dX9_draw_94 h3 (by decide) (h4 c1) ?_
    refine X_icmp_ge (tgt := 105) dX9_draw_95 (by decide) (fun c2 => ?_) (fun c2 => ?_)
    · refine X_aload_n dX9_draw_105 rfl rfl ?_
      refine X_getI dX9_draw_106 fl_9_166 (by decide) h1 ?_
      refine X_iload_n dX9_draw_109 rfl rfl ?_
      refine X_isub dX9_draw_110  ?_
      exact X_iret dX9_draw_111 rfl (k2 c1 c2)
    · refine X_aload_n dX9_draw_98 rfl rfl ?_
      exact X_callV (As := []) (rest := []) (a' := 0) (b' := 0) dX9_draw_99 t9_drawsOne ml_9_222 h1 rfl rfl (Nat.le_of_ble_eq_true rfl) rfl hdp (Nat.zero_le _) (Nat.zero_le _) ((k3 c1 c2) _ (fun m' h => h))

theorem s9_draw_102 {G : am_G} {dp a b : Nat} {m : am_M} {Q : am_Q} {i1 i2 : Int} {r0 : Nat}  (k1 : X G dp a b M9_draw 68 [some (rV (some r0)), some (iV (i1)), some (iV (i2))] [] m Q)  : X G dp a b M9_draw 102 [some (rV (some r0)), some (iV (i1)), some (iV (i2))] [] m Q := by
  refine X_goto (tgt := 68) dX9_draw_102 (by decide) ?_
  exact k1

theorem s9_drawsOne_0 {G : am_G} {dp a b : Nat} {m : am_M} {Q : am_Q} {r0 : Nat} {o1 : Option am_V} (hdp : 1 ≤ dp) (h1 : am_ob m r0 8) (k1 : ∀ Q' : am_Q, (∀ (z : Int) (m' : am_M), X G dp a b M9_drawsOne 4 [some (rV (some r0)), o1] [iV (z)] m' Q → Q' (.inl (some (iV (z)))) m') → T G (dp - 1) 0 0 M9_drawnBy [rV (some r0)] m Q')  : X G dp a b M9_drawsOne 0 [some (rV (some r0)), o1] [] m Q := by
  refine X_aload_n dX9_drawsOne_0 rfl rfl ?_
  exact X_callV (As := []) (rest := []) (a' := 0) (b' := 0) dX9_drawsOne_1 t9_drawnBy ml_9_207 h1 rfl rfl (Nat.le_of_ble_eq_true rfl) rfl hdp (Nat.zero_le _) (Nat.zero_le _) (k1 _ (fun z m' h => h))

theorem s9_drawsOne_4 {G : am_G} {dp a b : Nat} {m : am_M} {Q : am_Q} {i90 : Int} {r0 p1 : Nat} {o1 : Option am_V} {n_p1 : Nat} (hdp : 1 ≤ dp) (h1 : am_ob m r0 8) (h2 : m.2.1 r0 0 = some p1) (h5 : am_arw m p1 100 n_p1) (k1 : ∀ Q' : am_Q, (∀ (m' : am_M), X G dp a b M9_drawsOne 38 [some (rV (some r0)), some (iV (i90))] [] m' Q → Q' (.inl none) m') → T G (dp - 1) 0 0 M9_drawsBallot [rV (some r0), iV (i90)] ((u2 (u2 m.1 p1 (wr (1214 + (m.1 p1 ((6 : Int)).toNat))).toNat (i90)) p1 ((6 : Int)).toNat (wr (((u2 m.1 p1 (wr (1214 + (m.1 p1 ((6 : Int)).toNat))).toNat (i90)) p1 ((6 : Int)).toNat) + 1))), m.2.1, m.2.2) Q') (h4 : 6 < (n_p1 : Int) := by intros; first | omega | (dsimp only at *; omega)) (h6 : 0 ≤ wr (1214 + (m.1 p1 ((6 : Int)).toNat)) := by intros; first | omega | (dsimp only at *; omega)) (h7 : wr (1214 + (m.1 p1 ((6 : Int)).toNat)) < (n_p1 : Int) := by intros; first | omega | (dsimp only at *; omega)) : X G dp a b M9_drawsOne 4 [some (rV (some r0)), o1] [iV (i90)] m Q := by
  refine X_istore_n dX9_drawsOne_4 rfl (Nat.le_of_ble_eq_true rfl) ?_
  refine X_aload_n dX9_drawsOne_5 rfl rfl ?_
  refine X_getP dX9_drawsOne_6 fl_9_9 rfl h1 ?_
  refine am_ptr h2 ?_
  refine Y_sipush dX9_drawsOne_9 (by omega) ?_
  refine X_aload_n dX9_drawsOne_12 rfl rfl ?_
  refine X_getP dX9_drawsOne_13 fl_9_9 rfl h1 ?_
  refine am_ptr h2 ?_
  refine Y_bipush dX9_drawsOne_16 (by omega) ?_
  refine X_iald dX9_drawsOne_18 (am_rw h5) (by decide) h4 ?_
  refine X_iadd dX9_drawsOne_19  ?_
  refine X_iload_n dX9_drawsOne_20 rfl rfl ?_
  refine X_iast dX9_drawsOne_21 h5 h6 h7 ?_
  refine X_aload_n dX9_drawsOne_22 rfl rfl ?_
  refine X_getP dX9_drawsOne_23 fl_9_9 rfl h1 ?_
  refine am_ptr h2 ?_
  refine Y_bipush dX9_drawsOne_26 (by omega) ?_
  refine X_dup2 dX9_drawsOne_28 rfl rfl ?_
  refine X_iald dX9_drawsOne_29 (am_rw h5) (by decide) h4 ?_
  refine Y_iconst dX9_drawsOne_30 (by unfold i32; omega) ?_
  refine X_iadd dX9_drawsOne_31  ?_
  refine X_iast dX9_drawsOne_32 h5 (by decide) h4 ?_
  refine X_aload_n dX9_drawsOne_33 rfl rfl ?_
  refine X_iload_n dX9_drawsOne_34 rfl rfl ?_
  exact X_callV (As := [iV (i90)]) (rest := []) (a' := 0) (b' := 0) dX9_drawsOne_35 t9_drawsBallot ml_9_200 h1 rfl rfl (Nat.le_of_ble_eq_true rfl) rfl hdp (Nat.zero_le _) (Nat.zero_le _) (k1 _ (fun m' h => h))

theorem s9_drawsOne_38 {G : am_G} {dp a b : Nat} {m : am_M} {Q : am_Q} {i1 : Int} {r0 : Nat}  (k1 : Q (.inl none) m)  : X G dp a b M9_drawsOne 38 [some (rV (some r0)), some (iV (i1))] [] m Q := by
  exact X_vret dX9_drawsOne_38 rfl k1

theorem s9_layTimes_0 {G : am_G} {dp a b : Nat} {m : am_M} {Q : am_Q} {r0 : Nat} {o1 : Option am_V}  (k1 : X G dp a b M9_layTimes 2 [some (rV (some r0)), some (iV (0))] [] m Q)  : X G dp a b M9_layTimes 0 [some (rV (some r0)), o1] [] m Q := by
  refine Y_iconst dX9_layTimes_0 (by unfold i32; omega) ?_
  refine X_istore_n dX9_layTimes_1 rfl (Nat.le_of_ble_eq_true rfl) ?_
  exact k1

theorem s9_layTimes_2 {G : am_G} {dp a b : Nat} {m : am_M} {Q : am_Q} {i1 : Int} {r0 p1 : Nat} {n_p1 : Nat} (h1 : am_ob m r0 8) (h2 : m.2.1 r0 19 = some p1) (h3 : am_arw m p1 100 n_p1) (k1 : (200 ≤ i1) → X G dp a b M9_layTimes 24 [some (rV (some r0)), some (iV (0))] [] m Q) (k2 : ¬ (200 ≤ i1) → X G dp a b M9_layTimes 2 [some (rV (some r0)), some (iV (wr (i1 + 1)))] [] ((u2 m.1 p1 (i1).toNat (0)), m.2.1, m.2.2) Q) (h4 : ¬ (200 ≤ i1) → 0 ≤ i1 := by intros; first | omega | (dsimp only at *; omega)) (h5 : ¬ (200 ≤ i1) → i1 < (n_p1 : Int) := by intros; first | omega | (dsimp only at *; omega)) : X G dp a b M9_layTimes 2 [some (rV (some r0)), some (iV (i1))] [] m Q := by
  refine X_iload_n dX9_layTimes_2 rfl rfl ?_
  refine Y_sipush dX9_layTimes_3 (by omega) ?_
  refine X_icmp_ge (tgt := 22) dX9_layTimes_6 (by decide) (fun c1 => ?_) (fun c1 => ?_)
  · refine Y_iconst dX9_layTimes_22 (by unfold i32; omega) ?_
    refine X_istore_n dX9_layTimes_23 rfl (Nat.le_of_ble_eq_true rfl) ?_
    exact (k1 c1)
  · refine X_aload_n dX9_layTimes_9 rfl rfl ?_
    refine X_getP dX9_layTimes_10 fl_9_53 rfl h1 ?_
    refine am_ptr h2 ?_
    refine X_iload_n dX9_layTimes_13 rfl rfl ?_
    refine Y_iconst dX9_layTimes_14 (by unfold i32; omega) ?_
    refine X_iast dX9_layTimes_15 h3 (h4 c1) (h5 c1) ?_
    refine X_iinc dX9_layTimes_16 rfl ?_
    refine X_goto (tgt := 2) dX9_layTimes_19 (by decide) ?_
    exact (k2 c1)

theorem s9_layTimes_24 {G : am_G} {dp a b : Nat} {m : am_M} {Q : am_Q} {i1 : Int} {r0 p1 p2 : Nat} {n_p2 n_p1 : Nat} (h1 : am_ob m r0 8) (h2 : m.2.1 r0 19 = some p1) (h3 : m.2.1 r0 0 = some p2) (h4 : am_ar m p2 100 n_p2) (h10 : am_arw m p1 100 n_p1) (k1 : ((m.1 r0 16) ≤ i1) → Q (.inl none) m) (k2 : ¬ ((m.1 r0 16) ≤ i1) → X G dp a b M9_layTimes 24 [some (rV (some r0)), some (iV (wr (i1 + 1)))] [] ((u2 m.1 p1 (m.1 p2 (wr (1214 + i1)).toNat).toNat (wr ((m.1 p1 (m.1 p2 (wr (1214 + i1)).toNat).toNat) + 1))), m.2.1, m.2.2) Q) (h5 : ¬ ((m.1 r0 16) ≤ i1) → 0 ≤ wr (1214 + i1) := by intros; first | omega | (dsimp only at *; omega)) (h6 : ¬ ((m.1 r0 16) ≤ i1) → wr (1214 + i1) < (n_p2 : Int) := by intros; first | omega | (dsimp only at *; omega)) (h8 : ¬ ((m.1 r0 16) ≤ i1) → 0 ≤ m.1 p2 (wr (1214 + i1)).toNat := by intros; first | omega | (dsimp only at *; omega)) (h9 : ¬ ((m.1 r0 16) ≤ i1) → m.1 p2 (wr (1214 + i1)).toNat < (n_p1 : Int) := by intros; first | omega | (dsimp only at *; omega)) : X G dp a b M9_layTimes 24 [some (rV (some r0)), some (iV (i1))] [] m Q := by
  refine X_iload_n dX9_layTimes_24 rfl rfl ?_
  refine X_aload_n dX9_layTimes_25 rfl rfl ?_
  refine X_getI dX9_layTimes_26 fl_9_166 (by decide) h1 ?_
  refine X_icmp_ge (tgt := 57) dX9_layTimes_29 (by decide) (fun c1 => ?_) (fun c1 => ?_)
  · exact X_vret dX9_layTimes_57 rfl (k1 c1)
  · refine X_aload_n dX9_layTimes_32 rfl rfl ?_
    refine X_getP dX9_layTimes_33 fl_9_53 rfl h1 ?_
    refine am_ptr h2 ?_
    refine X_aload_n dX9_layTimes_36 rfl rfl ?_
    refine X_getP dX9_layTimes_37 fl_9_9 rfl h1 ?_
    refine am_ptr h3 ?_
    refine Y_sipush dX9_layTimes_40 (by omega) ?_
    refine X_iload_n dX9_layTimes_43 rfl rfl ?_
    refine X_iadd dX9_layTimes_44  ?_
    refine X_iald dX9_layTimes_45 h4 (h5 c1) (h6 c1) ?_
    refine X_dup2 dX9_layTimes_46 rfl rfl ?_
    refine X_iald dX9_layTimes_47 (am_rw h10) (h8 c1) (h9 c1) ?_
    refine Y_iconst dX9_layTimes_48 (by unfold i32; omega) ?_
    refine X_iadd dX9_layTimes_49  ?_
    refine X_iast dX9_layTimes_50 h10 (h8 c1) (h9 c1) ?_
    refine X_iinc dX9_layTimes_51 rfl ?_
    refine X_goto (tgt := 24) dX9_layTimes_54 (by decide) ?_
    exact (k2 c1)

theorem s9_unlikeDrawn_0 {G : am_G} {dp a b : Nat} {m : am_M} {Q : am_Q} {r0 : Nat} {o1 o2 : Option am_V} (hdp : 1 ≤ dp) (h1 : am_ob m r0 8) (k1 : ∀ Q' : am_Q, (∀ (m' : am_M), X G dp a b M9_unlikeDrawn 4 [some (rV (some r0)), o1, o2] [] m' Q → Q' (.inl none) m') → T G (dp - 1) 0 0 M9_layTimes [rV (some r0)] m Q')  : X G dp a b M9_unlikeDrawn 0 [some (rV (some r0)), o1, o2] [] m Q := by
  refine X_aload_n dX9_unlikeDrawn_0 rfl rfl ?_
  exact X_callV (As := []) (rest := []) (a' := 0) (b' := 0) dX9_unlikeDrawn_1 t9_layTimes ml_9_225 h1 rfl rfl (Nat.le_of_ble_eq_true rfl) rfl hdp (Nat.zero_le _) (Nat.zero_le _) (k1 _ (fun m' h => h))

theorem s9_unlikeDrawn_4 {G : am_G} {dp a b : Nat} {m : am_M} {Q : am_Q} {r0 : Nat} {o1 o2 : Option am_V}  (k1 : X G dp a b M9_unlikeDrawn 8 [some (rV (some r0)), some (iV (0)), some (iV (0))] [] m Q)  : X G dp a b M9_unlikeDrawn 4 [some (rV (some r0)), o1, o2] [] m Q := by
  refine Y_iconst dX9_unlikeDrawn_4 (by unfold i32; omega) ?_
  refine X_istore_n dX9_unlikeDrawn_5 rfl (Nat.le_of_ble_eq_true rfl) ?_
  refine Y_iconst dX9_unlikeDrawn_6 (by unfold i32; omega) ?_
  refine X_istore_n dX9_unlikeDrawn_7 rfl (Nat.le_of_ble_eq_true rfl) ?_
  exact k1

theorem s9_unlikeDrawn_8 {G : am_G} {dp a b : Nat} {m : am_M} {Q : am_Q} {i1 i2 : Int} {r0 : Nat} (hdp : 1 ≤ dp) (h1 : am_ob m r0 8) (k1 : ∀ Q' : am_Q, (∀ (z : Int) (m' : am_M), X G dp a b M9_unlikeDrawn 13 [some (rV (some r0)), some (iV (i1)), some (iV (i2))] [iV (z), iV (i2)] m' Q → Q' (.inl (some (iV (z)))) m') → T G (dp - 1) 0 0 M9_ballots [rV (some r0)] m Q')  : X G dp a b M9_unlikeDrawn 8 [some (rV (some r0)), some (iV (i1)), some (iV (i2))] [] m Q := by
  refine X_iload_n dX9_unlikeDrawn_8 rfl rfl ?_
  refine X_aload_n dX9_unlikeDrawn_9 rfl rfl ?_
  exact X_callV (As := []) (rest := [iV (i2)]) (a' := 0) (b' := 0) dX9_unlikeDrawn_10 t9_ballots ml_9_84 h1 rfl rfl (Nat.le_of_ble_eq_true rfl) rfl hdp (Nat.zero_le _) (Nat.zero_le _) (k1 _ (fun z m' h => h))

theorem s9_unlikeDrawn_13 {G : am_G} {dp a b : Nat} {m : am_M} {Q : am_Q} {i1 i2 i90 i91 : Int} {r0 p1 : Nat} {n_p1 : Nat} (h1 : am_ob m r0 8) (h2 : m.2.1 r0 19 = some p1) (h3 : am_ar m p1 100 n_p1) (k1 : (i90 ≤ i91) → Q (.inl (some (iV (i1)))) m) (k2 : ¬ (i90 ≤ i91) → ((m.1 p1 (i2).toNat) ≤ 0) → X G dp a b M9_unlikeDrawn 8 [some (rV (some r0)), some (iV (i1)), some (iV (wr (i2 + 1)))] [] m Q) (k3 : ¬ (i90 ≤ i91) → ¬ ((m.1 p1 (i2).toNat) ≤ 0) → X G dp a b M9_unlikeDrawn 8 [some (rV (some r0)), some (iV (wr (i1 + 1))), some (iV (wr (i2 + 1)))] [] m Q) (h4 : ¬ (i90 ≤ i91) → 0 ≤ i2 := by intros; first | omega | (dsimp only at *; omega)) (h5 : ¬ (i90 ≤ i91) → i2 < (n_p1 : Int) := by intros; first | omega | (dsimp only at *; omega)) : X G dp a b M9_unlikeDrawn 13 [some (rV (some r0)), some (iV (i1)), some (iV (i2))] [iV (i90), iV (i91)] m Q := by
  refine X_icmp_ge (tgt := 34) dX9_unlikeDrawn_13 (by decide) (fun c1 => ?_) (fun c1 => ?_)
  · refine X_iload_n dX9_unlikeDrawn_34 rfl rfl ?_
    exact X_iret dX9_unlikeDrawn_35 rfl (k1 c1)
  · refine X_aload_n dX9_unlikeDrawn_16 rfl rfl ?_
    refine X_getP dX9_unlikeDrawn_17 fl_9_53 rfl h1 ?_
    refine am_ptr h2 ?_
    refine X_iload_n dX9_unlikeDrawn_20 rfl rfl ?_
    refine X_iald dX9_unlikeDrawn_21 h3 (h4 c1) (h5 c1) ?_
    refine X_if_le (tgt := 28) dX9_unlikeDrawn_22 (by decide) (fun c2 => ?_) (fun c2 => ?_)
    · refine X_iinc dX9_unlikeDrawn_28 rfl ?_
      refine X_goto (tgt := 8) dX9_unlikeDrawn_31 (by decide) ?_
      exact (k2 c1 c2)
    · refine X_iinc dX9_unlikeDrawn_25 rfl ?_
      refine X_iinc dX9_unlikeDrawn_28 rfl ?_
      refine X_goto (tgt := 8) dX9_unlikeDrawn_31 (by decide) ?_
      exact (k3 c1 c2)

theorem s9_doneMany_0 {G : am_G} {dp a b : Nat} {m : am_M} {Q : am_Q} {r0 : Nat} {o1 o2 : Option am_V}  (k1 : X G dp a b M9_doneMany 4 [some (rV (some r0)), some (iV (0)), some (iV (0))] [] m Q)  : X G dp a b M9_doneMany 0 [some (rV (some r0)), o1, o2] [] m Q := by
  refine Y_iconst dX9_doneMany_0 (by unfold i32; omega) ?_
  refine X_istore_n dX9_doneMany_1 rfl (Nat.le_of_ble_eq_true rfl) ?_
  refine Y_iconst dX9_doneMany_2 (by unfold i32; omega) ?_
  refine X_istore_n dX9_doneMany_3 rfl (Nat.le_of_ble_eq_true rfl) ?_
  exact k1

theorem s9_doneMany_4 {G : am_G} {dp a b : Nat} {m : am_M} {Q : am_Q} {i1 i2 : Int} {r0 : Nat} (hdp : 1 ≤ dp) (h1 : am_ob m r0 8) (k1 : ∀ Q' : am_Q, (∀ (z : Int) (m' : am_M), X G dp a b M9_doneMany 9 [some (rV (some r0)), some (iV (i1)), some (iV (i2))] [iV (z), iV (i2)] m' Q → Q' (.inl (some (iV (z)))) m') → T G (dp - 1) 0 0 M9_races [rV (some r0)] m Q')  : X G dp a b M9_doneMany 4 [some (rV (some r0)), some (iV (i1)), some (iV (i2))] [] m Q := by
  refine X_iload_n dX9_doneMany_4 rfl rfl ?_
  refine X_aload_n dX9_doneMany_5 rfl rfl ?_
  exact X_callV (As := []) (rest := [iV (i2)]) (a' := 0) (b' := 0) dX9_doneMany_6 t9_races ml_9_76 h1 rfl rfl (Nat.le_of_ble_eq_true rfl) rfl hdp (Nat.zero_le _) (Nat.zero_le _) (k1 _ (fun z m' h => h))

theorem s9_doneMany_9 {G : am_G} {dp a b : Nat} {m : am_M} {Q : am_Q} {i1 i2 i90 i91 : Int} {r0 p1 : Nat} {n_p1 : Nat} (h1 : am_ob m r0 8) (h2 : m.2.1 r0 15 = some p1) (h3 : am_ar m p1 100 n_p1) (k1 : (i90 ≤ i91) → Q (.inl (some (iV (i1)))) m) (k2 : ¬ (i90 ≤ i91) → ((m.1 p1 (i2).toNat) = (-1)) → X G dp a b M9_doneMany 4 [some (rV (some r0)), some (iV (i1)), some (iV (wr (i2 + 1)))] [] m Q) (k3 : ¬ (i90 ≤ i91) → ¬ ((m.1 p1 (i2).toNat) = (-1)) → X G dp a b M9_doneMany 4 [some (rV (some r0)), some (iV (wr (i1 + 1))), some (iV (wr (i2 + 1)))] [] m Q) (h4 : ¬ (i90 ≤ i91) → 0 ≤ i2 := by intros; first | omega | (dsimp only at *; omega)) (h5 : ¬ (i90 ≤ i91) → i2 < (n_p1 : Int) := by intros; first | omega | (dsimp only at *; omega)) : X G dp a b M9_doneMany 9 [some (rV (some r0)), some (iV (i1)), some (iV (i2))] [iV (i90), iV (i91)] m Q := by
  refine X_icmp_ge (tgt := 31) dX9_doneMany_9 (by decide) (fun c1 => ?_) (fun c1 => ?_)
  · refine X_iload_n dX9_doneMany_31 rfl rfl ?_
    exact X_iret dX9_doneMany_32 rfl (k1 c1)
  · refine X_aload_n dX9_doneMany_12 rfl rfl ?_
    refine X_getP dX9_doneMany_13 fl_9_47 rfl h1 ?_
    refine am_ptr h2 ?_
    refine X_iload_n dX9_doneMany_16 rfl rfl ?_
    refine X_iald dX9_doneMany_17 h3 (h4 c1) (h5 c1) ?_
    refine Y_iconst dX9_doneMany_18 (by unfold i32; omega) ?_
    refine X_icmp_eq (tgt := 25) dX9_doneMany_19 (by decide) (fun c2 => ?_) (fun c2 => ?_)
    · refine X_iinc dX9_doneMany_25 rfl ?_
      refine X_goto (tgt := 4) dX9_doneMany_28 (by decide) ?_
      exact (k2 c1 c2)
    · refine X_iinc dX9_doneMany_22 rfl ?_
      refine X_iinc dX9_doneMany_25 rfl ?_
      refine X_goto (tgt := 4) dX9_doneMany_28 (by decide) ?_
      exact (k3 c1 c2)

theorem s9_count_0 {G : am_G} {dp a b : Nat} {m : am_M} {Q : am_Q} {i1 : Int} {r0 : Nat} (hdp : 1 ≤ dp) (h1 : am_obw m r0 8) (k1 : ∀ Q' : am_Q, (∀ (m' : am_M), X G dp a b M9_count 9 [some (rV (some r0)), some (iV (i1))] [] m' Q → Q' (.inl none) m') → T G (dp - 1) 0 0 M9_goes [rV (some r0)] ((u2 m.1 r0 7 (0)), m.2.1, m.2.2) Q')  : X G dp a b M9_count 0 [some (rV (some r0)), some (iV (i1))] [] m Q := by
  refine X_aload_n dX9_count_0 rfl rfl ?_
  refine Y_iconst dX9_count_1 (by unfold i32; omega) ?_
  refine X_putI dX9_count_2 fw_9_73 rfl h1 ?_
  refine X_aload_n dX9_count_5 rfl rfl ?_
  exact X_callV (As := []) (rest := []) (a' := 0) (b' := 0) dX9_count_6 t9_goes ml_9_213 (am_ow h1) rfl rfl (Nat.le_of_ble_eq_true rfl) rfl hdp (Nat.zero_le _) (Nat.zero_le _) (k1 _ (fun m' h => h))

theorem s9_count_9 {G : am_G} {dp a b : Nat} {m : am_M} {Q : am_Q} {i1 : Int} {r0 p1 p2 p3 p4 p5 : Nat} {n_p1 n_p2 n_p3 n_p4 n_p5 : Nat} (hdp : 1 ≤ dp) (h1 : am_ob m r0 8) (h2 : m.2.1 r0 0 = some p1) (h3 : am_ar m p1 100 n_p1) (h6 : m.2.1 r0 0 = some p2) (h7 : am_ar m p2 100 n_p2) (h10 : m.2.1 r0 0 = some p3) (h11 : am_ar m p3 100 n_p3) (h14 : m.2.1 r0 0 = some p4) (h15 : am_ar m p4 100 n_p4) (h18 : m.2.1 r0 0 = some p5) (h19 : am_ar m p5 100 n_p5) (k1 : (i1 = 0) → Q (.inl (some (iV (m.1 p1 (i1).toNat)))) m) (k2 : (i1 = 1) → Q (.inl (some (iV (m.1 p2 (i1).toNat)))) m) (k3 : (i1 = 2) → Q (.inl (some (iV (m.1 p3 (i1).toNat)))) m) (k4 : (i1 = 3) → Q (.inl (some (iV (m.1 p4 (i1).toNat)))) m) (k5 : (i1 = 4) → Q (.inl (some (iV (m.1 p5 (i1).toNat)))) m) (k6 : (i1 = 5) → Q (.inl (some (iV (m.1 r0 16)))) m) (k7 : (i1 = 6) → ∀ Q' : am_Q, (∀ (z : Int) (m' : am_M), X G dp a b M9_count 88 [some (rV (some r0)), some (iV (i1))] [iV (z)] m' Q → Q' (.inl (some (iV (z)))) m') → T G (dp - 1) 0 0 M9_unlikeDrawn [rV (some r0)] m Q') (k8 : (i1 = 7) → ∀ Q' : am_Q, (∀ (z : Int) (m' : am_M), X G dp a b M9_count 93 [some (rV (some r0)), some (iV (i1))] [iV (z)] m' Q → Q' (.inl (some (iV (z)))) m') → T G (dp - 1) 0 0 M9_doneMany [rV (some r0)] m Q') (k9 : (i1 = 8) → ∀ Q' : am_Q, (∀ (z : Int) (m' : am_M), X G dp a b M9_count 98 [some (rV (some r0)), some (iV (i1))] [iV (z)] m' Q → Q' (.inl (some (iV (z)))) m') → T G (dp - 1) 0 0 M9_isOver [rV (some r0)] m Q') (k10 : (i1 = 9) → ∀ Q' : am_Q, (∀ (z : Int) (m' : am_M), X G dp a b M9_count 111 [some (rV (some r0)), some (iV (i1))] [iV (z)] m' Q → Q' (.inl (some (iV (z)))) m') → T G (dp - 1) 0 0 M9_isByHand [rV (some r0)] m Q') (k11 : (i1 = 10) → Q (.inl (some (iV (m.1 r0 6)))) m) (k12 : (i1 = 11) → Q (.inl (some (iV (m.1 r0 24)))) m) (k13 : ¬ (i1 = 0) → ¬ (i1 = 1) → ¬ (i1 = 2) → ¬ (i1 = 3) → ¬ (i1 = 4) → ¬ (i1 = 5) → ¬ (i1 = 6) → ¬ (i1 = 7) → ¬ (i1 = 8) → ¬ (i1 = 9) → ¬ (i1 = 10) → ¬ (i1 = 11) → ∀ Q' : am_Q, (∀ (z : Int) (m' : am_M), X G dp a b M9_count 135 [some (rV (some r0)), some (iV (i1))] [iV (z)] m' Q → Q' (.inl (some (iV (z)))) m') → T G (dp - 1) 0 0 M9_fail [rV (some r0), iV (1)] m Q') (h4 : i1 = 0 → 0 ≤ i1 := by intros; first | omega | (dsimp only at *; omega)) (h5 : i1 = 0 → i1 < (n_p1 : Int) := by intros; first | omega | (dsimp only at *; omega)) (h8 : i1 = 1 → 0 ≤ i1 := by intros; first | omega | (dsimp only at *; omega)) (h9 : i1 = 1 → i1 < (n_p2 : Int) := by intros; first | omega | (dsimp only at *; omega)) (h12 : i1 = 2 → 0 ≤ i1 := by intros; first | omega | (dsimp only at *; omega)) (h13 : i1 = 2 → i1 < (n_p3 : Int) := by intros; first | omega | (dsimp only at *; omega)) (h16 : i1 = 3 → 0 ≤ i1 := by intros; first | omega | (dsimp only at *; omega)) (h17 : i1 = 3 → i1 < (n_p4 : Int) := by intros; first | omega | (dsimp only at *; omega)) (h20 : i1 = 4 → 0 ≤ i1 := by intros; first | omega | (dsimp only at *; omega)) (h21 : i1 = 4 → i1 < (n_p5 : Int) := by intros; first | omega | (dsimp only at *; omega)) : X G dp a b M9_count 9 [some (rV (some r0)), some (iV (i1))] [] m Q := by
  refine X_iload_n dX9_count_9 rfl rfl ?_
  by_cases c1 : i1 = 0
  · refine X_tableIn (tgt := 72) dX9_count_10 (by rw [c1]; decide) (by rw [c1]; decide) (by rw [c1]; rfl) (by decide) ?_
    refine X_aload_n dX9_count_72 rfl rfl ?_
    refine X_getP dX9_count_73 fl_9_9 rfl h1 ?_
    refine am_ptr h2 ?_
    refine X_iload_n dX9_count_76 rfl rfl ?_
    refine X_iald dX9_count_77 h3 (h4 c1) (h5 c1) ?_
    exact X_iret dX9_count_78 rfl (k1 c1)
  by_cases c2 : i1 = 1
  · refine X_tableIn (tgt := 72) dX9_count_10 (by rw [c2]; decide) (by rw [c2]; decide) (by rw [c2]; rfl) (by decide) ?_
    refine X_aload_n dX9_count_72 rfl rfl ?_
    refine X_getP dX9_count_73 fl_9_9 rfl h1 ?_
    refine am_ptr h6 ?_
    refine X_iload_n dX9_count_76 rfl rfl ?_
    refine X_iald dX9_count_77 h7 (h8 c2) (h9 c2) ?_
    exact X_iret dX9_count_78 rfl (k2 c2)
  by_cases c3 : i1 = 2
  · refine X_tableIn (tgt := 72) dX9_count_10 (by rw [c3]; decide) (by rw [c3]; decide) (by rw [c3]; rfl) (by decide) ?_
    refine X_aload_n dX9_count_72 rfl rfl ?_
    refine X_getP dX9_count_73 fl_9_9 rfl h1 ?_
    refine am_ptr h10 ?_
    refine X_iload_n dX9_count_76 rfl rfl ?_
    refine X_iald dX9_count_77 h11 (h12 c3) (h13 c3) ?_
    exact X_iret dX9_count_78 rfl (k3 c3)
  by_cases c4 : i1 = 3
  · refine X_tableIn (tgt := 72) dX9_count_10 (by rw [c4]; decide) (by rw [c4]; decide) (by rw [c4]; rfl) (by decide) ?_
    refine X_aload_n dX9_count_72 rfl rfl ?_
    refine X_getP dX9_count_73 fl_9_9 rfl h1 ?_
    refine am_ptr h14 ?_
    refine X_iload_n dX9_count_76 rfl rfl ?_
    refine X_iald dX9_count_77 h15 (h16 c4) (h17 c4) ?_
    exact X_iret dX9_count_78 rfl (k4 c4)
  by_cases c5 : i1 = 4
  · refine X_tableIn (tgt := 72) dX9_count_10 (by rw [c5]; decide) (by rw [c5]; decide) (by rw [c5]; rfl) (by decide) ?_
    refine X_aload_n dX9_count_72 rfl rfl ?_
    refine X_getP dX9_count_73 fl_9_9 rfl h1 ?_
    refine am_ptr h18 ?_
    refine X_iload_n dX9_count_76 rfl rfl ?_
    refine X_iald dX9_count_77 h19 (h20 c5) (h21 c5) ?_
    exact X_iret dX9_count_78 rfl (k5 c5)
  by_cases c6 : i1 = 5
  · refine X_tableIn (tgt := 79) dX9_count_10 (by rw [c6]; decide) (by rw [c6]; decide) (by rw [c6]; rfl) (by decide) ?_
    refine X_aload_n dX9_count_79 rfl rfl ?_
    refine X_getI dX9_count_80 fl_9_166 (by decide) h1 ?_
    exact X_iret dX9_count_83 rfl (k6 c6)
  by_cases c7 : i1 = 6
  · refine X_tableIn (tgt := 84) dX9_count_10 (by rw [c7]; decide) (by rw [c7]; decide) (by rw [c7]; rfl) (by decide) ?_
    refine X_aload_n dX9_count_84 rfl rfl ?_
    exact X_callV (As := []) (rest := []) (a' := 0) (b' := 0) dX9_count_85 t9_unlikeDrawn ml_9_228 h1 rfl rfl (Nat.le_of_ble_eq_true rfl) rfl hdp (Nat.zero_le _) (Nat.zero_le _) ((k7 c7) _ (fun z m' h => h))
  by_cases c8 : i1 = 7
  · refine X_tableIn (tgt := 89) dX9_count_10 (by rw [c8]; decide) (by rw [c8]; decide) (by rw [c8]; rfl) (by decide) ?_
    refine X_aload_n dX9_count_89 rfl rfl ?_
    exact X_callV (As := []) (rest := []) (a' := 0) (b' := 0) dX9_count_90 t9_doneMany ml_9_163 h1 rfl rfl (Nat.le_of_ble_eq_true rfl) rfl hdp (Nat.zero_le _) (Nat.zero_le _) ((k8 c8) _ (fun z m' h => h))
  by_cases c9 : i1 = 8
  · refine X_tableIn (tgt := 94) dX9_count_10 (by rw [c9]; decide) (by rw [c9]; decide) (by rw [c9]; rfl) (by decide) ?_
    refine X_aload_n dX9_count_94 rfl rfl ?_
    exact X_callV (As := []) (rest := []) (a' := 0) (b' := 0) dX9_count_95 t9_isOver ml_9_196 h1 rfl rfl (Nat.le_of_ble_eq_true rfl) rfl hdp (Nat.zero_le _) (Nat.zero_le _) ((k9 c9) _ (fun z m' h => h))
  by_cases c10 : i1 = 9
  · refine X_tableIn (tgt := 107) dX9_count_10 (by rw [c10]; decide) (by rw [c10]; decide) (by rw [c10]; rfl) (by decide) ?_
    refine X_aload_n dX9_count_107 rfl rfl ?_
    exact X_callV (As := []) (rest := []) (a' := 0) (b' := 0) dX9_count_108 t9_isByHand ml_9_231 h1 rfl rfl (Nat.le_of_ble_eq_true rfl) rfl hdp (Nat.zero_le _) (Nat.zero_le _) ((k10 c10) _ (fun z m' h => h))
  by_cases c11 : i1 = 10
  · refine X_tableIn (tgt := 120) dX9_count_10 (by rw [c11]; decide) (by rw [c11]; decide) (by rw [c11]; rfl) (by decide) ?_
    refine X_aload_n dX9_count_120 rfl rfl ?_
    refine X_getI dX9_count_121 fl_9_234 (by decide) h1 ?_
    exact X_iret dX9_count_124 rfl (k11 c11)
  by_cases c12 : i1 = 11
  · refine X_tableIn (tgt := 125) dX9_count_10 (by rw [c12]; decide) (by rw [c12]; decide) (by rw [c12]; rfl) (by decide) ?_
    refine X_aload_n dX9_count_125 rfl rfl ?_
    refine X_getI dX9_count_126 fl_9_237 (by decide) h1 ?_
    exact X_iret dX9_count_129 rfl (k12 c12)
  refine X_tableOut (tgt := 130) dX9_count_10 (by omega) (by decide) ?_
  refine X_aload_n dX9_count_130 rfl rfl ?_
  refine Y_iconst dX9_count_131 (by unfold i32; omega) ?_
  exact X_callV (As := [iV (1)]) (rest := []) (a' := 0) (b' := 0) dX9_count_132 t9_fail ml_9_210 h1 rfl rfl (Nat.le_of_ble_eq_true rfl) rfl hdp (Nat.zero_le _) (Nat.zero_le _) ((k13 c1 c2 c3 c4 c5 c6 c7 c8 c9 c10 c11 c12) _ (fun z m' h => h))

theorem s9_count_88 {G : am_G} {dp a b : Nat} {m : am_M} {Q : am_Q} {i1 i90 : Int} {r0 : Nat}  (k1 : Q (.inl (some (iV (i90)))) m)  : X G dp a b M9_count 88 [some (rV (some r0)), some (iV (i1))] [iV (i90)] m Q := by
  exact X_iret dX9_count_88 rfl k1

theorem s9_count_93 {G : am_G} {dp a b : Nat} {m : am_M} {Q : am_Q} {i1 i90 : Int} {r0 : Nat}  (k1 : Q (.inl (some (iV (i90)))) m)  : X G dp a b M9_count 93 [some (rV (some r0)), some (iV (i1))] [iV (i90)] m Q := by
  exact X_iret dX9_count_93 rfl k1

theorem s9_count_98 {G : am_G} {dp a b : Nat} {m : am_M} {Q : am_Q} {i1 i90 : Int} {r0 : Nat}  (k1 : (i90 = 0) → Q (.inl (some (iV (0)))) m) (k2 : ¬ (i90 = 0) → Q (.inl (some (iV (1)))) m)  : X G dp a b M9_count 98 [some (rV (some r0)), some (iV (i1))] [iV (i90)] m Q := by
  refine X_if_eq (tgt := 105) dX9_count_98 (by decide) (fun c1 => ?_) (fun c1 => ?_)
  · refine Y_iconst dX9_count_105 (by unfold i32; omega) ?_
    exact X_iret dX9_count_106 rfl (k1 c1)
  · refine Y_iconst dX9_count_101 (by unfold i32; omega) ?_
    refine X_goto (tgt := 106) dX9_count_102 (by decide) ?_
    exact X_iret dX9_count_106 rfl (k2 c1)

theorem s9_count_111 {G : am_G} {dp a b : Nat} {m : am_M} {Q : am_Q} {i1 i90 : Int} {r0 : Nat}  (k1 : (i90 = 0) → Q (.inl (some (iV (0)))) m) (k2 : ¬ (i90 = 0) → Q (.inl (some (iV (1)))) m)  : X G dp a b M9_count 111 [some (rV (some r0)), some (iV (i1))] [iV (i90)] m Q := by
  refine X_if_eq (tgt := 118) dX9_count_111 (by decide) (fun c1 => ?_) (fun c1 => ?_)
  · refine Y_iconst dX9_count_118 (by unfold i32; omega) ?_
    exact X_iret dX9_count_119 rfl (k1 c1)
  · refine Y_iconst dX9_count_114 (by unfold i32; omega) ?_
    refine X_goto (tgt := 119) dX9_count_115 (by decide) ?_
    exact X_iret dX9_count_119 rfl (k2 c1)

theorem s9_count_135 {G : am_G} {dp a b : Nat} {m : am_M} {Q : am_Q} {i1 i90 : Int} {r0 : Nat}  (k1 : Q (.inl (some (iV (i90)))) m)  : X G dp a b M9_count 135 [some (rV (some r0)), some (iV (i1))] [iV (i90)] m Q := by
  exact X_iret dX9_count_135 rfl k1

theorem s9_wins_0 {G : am_G} {dp a b : Nat} {m : am_M} {Q : am_Q} {i1 : Int} {r0 p1 p2 : Nat} {n_p1 n_p2 : Nat} (hdp : 1 ≤ dp) (h1 : am_ob m r0 8) (h2 : m.2.1 r0 15 = some p1) (h3 : am_ar m p1 100 n_p1) (h6 : m.2.1 r0 10 = some p2) (h7 : am_ar m p2 100 n_p2) (k1 : ((m.1 p1 (i1).toNat) = (-1)) → ∀ Q' : am_Q, (∀ (z : Int) (m' : am_M), X G dp a b M9_wins 23 [some (rV (some r0)), some (iV (i1))] [iV (z)] m' Q → Q' (.inl (some (iV (z)))) m') → T G (dp - 1) 0 0 M9_isByHand [rV (some r0)] m Q') (k2 : ¬ ((m.1 p1 (i1).toNat) = (-1)) → Q (.inl (some (iV (m.1 p2 (i1).toNat)))) m) (h4 : 0 ≤ i1 := by intros; first | omega | (dsimp only at *; omega)) (h5 : i1 < (n_p1 : Int) := by intros; first | omega | (dsimp only at *; omega)) (h8 : ¬ ((m.1 p1 (i1).toNat) = (-1)) → i1 < (n_p2 : Int) := by intros; first | omega | (dsimp only at *; omega)) : X G dp a b M9_wins 0 [some (rV (some r0)), some (iV (i1))] [] m Q := by
  refine X_aload_n dX9_wins_0 rfl rfl ?_
  refine X_getP dX9_wins_1 fl_9_47 rfl h1 ?_
  refine am_ptr h2 ?_
  refine X_iload_n dX9_wins_4 rfl rfl ?_
  refine X_iald dX9_wins_5 h3 h4 h5 ?_
  refine Y_iconst dX9_wins_6 (by unfold i32; omega) ?_
  refine X_icmp_eq (tgt := 19) dX9_wins_7 (by decide) (fun c1 => ?_) (fun c1 => ?_)
  · refine X_aload_n dX9_wins_19 rfl rfl ?_
    exact X_callV (As := []) (rest := []) (a' := 0) (b' := 0) dX9_wins_20 t9_isByHand ml_9_231 h1 rfl rfl (Nat.le_of_ble_eq_true rfl) rfl hdp (Nat.zero_le _) (Nat.zero_le _) ((k1 c1) _ (fun z m' h => h))
  · refine X_aload_n dX9_wins_10 rfl rfl ?_
    refine X_getP dX9_wins_11 fl_9_31 rfl h1 ?_
    refine am_ptr h6 ?_
    refine X_iload_n dX9_wins_14 rfl rfl ?_
    refine X_iald dX9_wins_15 h7 h4 (h8 c1) ?_
    refine X_goto (tgt := 36) dX9_wins_16 (by decide) ?_
    exact X_iret dX9_wins_36 rfl (k2 c1)

theorem s9_wins_23 {G : am_G} {dp a b : Nat} {m : am_M} {Q : am_Q} {i1 i90 : Int} {r0 p1 : Nat} {n_p1 : Nat} (h1 : am_ob m r0 8) (h2 : m.2.1 r0 11 = some p1) (h3 : am_ar m p1 100 n_p1) (k1 : (i90 = 0) → Q (.inl (some (iV ((-1))))) m) (k2 : ¬ (i90 = 0) → Q (.inl (some (iV (m.1 p1 (i1).toNat)))) m) (h4 : ¬ (i90 = 0) → 0 ≤ i1 := by intros; first | omega | (dsimp only at *; omega)) (h5 : ¬ (i90 = 0) → i1 < (n_p1 : Int) := by intros; first | omega | (dsimp only at *; omega)) : X G dp a b M9_wins 23 [some (rV (some r0)), some (iV (i1))] [iV (i90)] m Q := by
  refine X_if_eq (tgt := 35) dX9_wins_23 (by decide) (fun c1 => ?_) (fun c1 => ?_)
  · refine Y_iconst dX9_wins_35 (by unfold i32; omega) ?_
    exact X_iret dX9_wins_36 rfl (k1 c1)
  · refine X_aload_n dX9_wins_26 rfl rfl ?_
    refine X_getP dX9_wins_27 fl_9_34 rfl h1 ?_
    refine am_ptr h2 ?_
    refine X_iload_n dX9_wins_30 rfl rfl ?_
    refine X_iald dX9_wins_31 h3 (h4 c1) (h5 c1) ?_
    refine X_goto (tgt := 36) dX9_wins_32 (by decide) ?_
    exact X_iret dX9_wins_36 rfl (k2 c1)

theorem s9_race_0 {G : am_G} {dp a b : Nat} {m : am_M} {Q : am_Q} {i1 i2 : Int} {r0 : Nat} (hdp : 1 ≤ dp) (h1 : am_obw m r0 8) (k1 : ∀ Q' : am_Q, (∀ (z : Int) (m' : am_M), X G dp a b M9_race 10 [some (rV (some r0)), some (iV (i1)), some (iV (i2))] [iV (z)] m' Q → Q' (.inl (some (iV (z)))) m') → T G (dp - 1) 0 0 M9_isRace [rV (some r0), iV (i1)] ((u2 m.1 r0 7 (0)), m.2.1, m.2.2) Q')  : X G dp a b M9_race 0 [some (rV (some r0)), some (iV (i1)), some (iV (i2))] [] m Q := by
  refine X_aload_n dX9_race_0 rfl rfl ?_
  refine Y_iconst dX9_race_1 (by unfold i32; omega) ?_
  refine X_putI dX9_race_2 fw_9_73 rfl h1 ?_
  refine X_aload_n dX9_race_5 rfl rfl ?_
  refine X_iload_n dX9_race_6 rfl rfl ?_
  exact X_callV (As := [iV (i1)]) (rest := []) (a' := 0) (b' := 0) dX9_race_7 t9_isRace ml_9_240 (am_ow h1) rfl rfl (Nat.le_of_ble_eq_true rfl) rfl hdp (Nat.zero_le _) (Nat.zero_le _) (k1 _ (fun z m' h => h))

theorem s9_race_10 {G : am_G} {dp a b : Nat} {m : am_M} {Q : am_Q} {i1 i2 i90 : Int} {r0 : Nat} (hdp : 1 ≤ dp) (h1 : am_ob m r0 8) (k1 : (i90 = 0) → ∀ Q' : am_Q, (∀ (z : Int) (m' : am_M), X G dp a b M9_race 28 [some (rV (some r0)), some (iV (i1)), some (iV (i2))] [iV (z)] m' Q → Q' (.inl (some (iV (z)))) m') → T G (dp - 1) 0 0 M9_fail [rV (some r0), iV (1)] m Q') (k2 : ¬ (i90 = 0) → ∀ Q' : am_Q, (∀ (z : Int) (m' : am_M), X G dp a b M9_race 20 [some (rV (some r0)), some (iV (i1)), some (iV (i2))] [iV (z)] m' Q → Q' (.inl (some (iV (z)))) m') → T G (dp - 1) 0 0 M9_isIn [iV (i2), iV (0), iV (7)] m Q')  : X G dp a b M9_race 10 [some (rV (some r0)), some (iV (i1)), some (iV (i2))] [iV (i90)] m Q := by
  refine X_if_eq (tgt := 23) dX9_race_10 (by decide) (fun c1 => ?_) (fun c1 => ?_)
  · refine X_aload_n dX9_race_23 rfl rfl ?_
    refine Y_iconst dX9_race_24 (by unfold i32; omega) ?_
    exact X_callV (As := [iV (1)]) (rest := []) (a' := 0) (b' := 0) dX9_race_25 t9_fail ml_9_210 h1 rfl rfl (Nat.le_of_ble_eq_true rfl) rfl hdp (Nat.zero_le _) (Nat.zero_le _) ((k1 c1) _ (fun z m' h => h))
  · refine X_iload_n dX9_race_13 rfl rfl ?_
    refine Y_iconst dX9_race_14 (by unfold i32; omega) ?_
    refine Y_bipush dX9_race_15 (by omega) ?_
    exact X_callS (As := [iV (i2), iV (0), iV (7)]) (rest := []) (a' := 0) (b' := 0) dX9_race_17 t9_isIn ml_9_80 rfl rfl (Nat.le_of_ble_eq_true rfl) rfl hdp (Nat.zero_le _) (Nat.zero_le _) ((k2 c1) _ (fun z m' h => h))

theorem s9_race_20 {G : am_G} {dp a b : Nat} {m : am_M} {Q : am_Q} {i1 i2 i90 : Int} {r0 : Nat} (hdp : 1 ≤ dp) (h1 : am_ob m r0 8) (k1 : ¬ (i90 = 0) → ∀ Q' : am_Q, (∀ (m' : am_M), X G dp a b M9_race 33 [some (rV (some r0)), some (iV (i1)), some (iV (i2))] [] m' Q → Q' (.inl none) m') → T G (dp - 1) 0 0 M9_goes [rV (some r0)] m Q') (k2 : (i90 = 0) → ∀ Q' : am_Q, (∀ (z : Int) (m' : am_M), X G dp a b M9_race 28 [some (rV (some r0)), some (iV (i1)), some (iV (i2))] [iV (z)] m' Q → Q' (.inl (some (iV (z)))) m') → T G (dp - 1) 0 0 M9_fail [rV (some r0), iV (1)] m Q')  : X G dp a b M9_race 20 [some (rV (some r0)), some (iV (i1)), some (iV (i2))] [iV (i90)] m Q := by
  refine X_if_ne (tgt := 29) dX9_race_20 (by decide) (fun c1 => ?_) (fun c1 => ?_)
  · refine X_aload_n dX9_race_29 rfl rfl ?_
    exact X_callV (As := []) (rest := []) (a' := 0) (b' := 0) dX9_race_30 t9_goes ml_9_213 h1 rfl rfl (Nat.le_of_ble_eq_true rfl) rfl hdp (Nat.zero_le _) (Nat.zero_le _) ((k1 c1) _ (fun m' h => h))
  · refine X_aload_n dX9_race_23 rfl rfl ?_
    refine Y_iconst dX9_race_24 (by unfold i32; omega) ?_
    exact X_callV (As := [iV (1)]) (rest := []) (a' := 0) (b' := 0) dX9_race_25 t9_fail ml_9_210 h1 rfl rfl (Nat.le_of_ble_eq_true rfl) rfl hdp (Nat.zero_le _) (Nat.zero_le _) ((k2 c1) _ (fun z m' h => h))

theorem s9_race_28 {G : am_G} {dp a b : Nat} {m : am_M} {Q : am_Q} {i1 i2 i90 : Int} {r0 : Nat}  (k1 : Q (.inl (some (iV (i90)))) m)  : X G dp a b M9_race 28 [some (rV (some r0)), some (iV (i1)), some (iV (i2))] [iV (i90)] m Q := by
  exact X_iret dX9_race_28 rfl k1

theorem s9_race_33 {G : am_G} {dp a b : Nat} {m : am_M} {Q : am_Q} {i1 i2 : Int} {r0 p1 p2 p3 p4 p5 : Nat} {n_p1 n_p2 n_p3 n_p4 n_p5 : Nat} (hdp : 1 ≤ dp) (h1 : am_ob m r0 8) (h2 : m.2.1 r0 10 = some p1) (h3 : am_ar m p1 100 n_p1) (h6 : m.2.1 r0 11 = some p2) (h7 : am_ar m p2 100 n_p2) (h10 : m.2.1 r0 12 = some p3) (h11 : am_ar m p3 100 n_p3) (h14 : m.2.1 r0 15 = some p4) (h15 : am_ar m p4 100 n_p4) (h18 : m.2.1 r0 15 = some p5) (h19 : am_ar m p5 100 n_p5) (k1 : (i2 = 0) → ∀ Q' : am_Q, (∀ (z : Int) (m' : am_M), X G dp a b M9_race 81 [some (rV (some r0)), some (iV (i1)), some (iV (i2))] [iV (z)] m' Q → Q' (.inl (some (iV (z)))) m') → T G (dp - 1) 0 0 M9_candidates [rV (some r0), iV (i1)] m Q') (k2 : (i2 = 1) → ∀ Q' : am_Q, (∀ (z : Int) (m' : am_M), X G dp a b M9_race 87 [some (rV (some r0)), some (iV (i1)), some (iV (i2))] [iV (z)] m' Q → Q' (.inl (some (iV (z)))) m') → T G (dp - 1) 0 0 M9_wayOf [rV (some r0), iV (i1)] m Q') (k3 : (i2 = 2) → Q (.inl (some (iV (m.1 p1 (i1).toNat)))) m) (k4 : (i2 = 3) → Q (.inl (some (iV (m.1 p2 (i1).toNat)))) m) (k5 : (i2 = 4) → Q (.inl (some (iV (m.1 p3 (i1).toNat)))) m) (k6 : (i2 = 5) → ¬ ((m.1 p4 (i1).toNat) = (-1)) → Q (.inl (some (iV (1)))) m) (k7 : (i2 = 5) → ((m.1 p4 (i1).toNat) = (-1)) → Q (.inl (some (iV (0)))) m) (k8 : (i2 = 6) → Q (.inl (some (iV (m.1 p5 (i1).toNat)))) m) (k9 : ¬ (i2 = 0) → ¬ (i2 = 1) → ¬ (i2 = 2) → ¬ (i2 = 3) → ¬ (i2 = 4) → ¬ (i2 = 5) → ¬ (i2 = 6) → ∀ Q' : am_Q, (∀ (z : Int) (m' : am_M), X G dp a b M9_race 137 [some (rV (some r0)), some (iV (i1)), some (iV (i2))] [iV (z)] m' Q → Q' (.inl (some (iV (z)))) m') → T G (dp - 1) 0 0 M9_wins [rV (some r0), iV (i1)] m Q') (h4 : i2 = 2 → 0 ≤ i1 := by intros; first | omega | (dsimp only at *; omega)) (h5 : i2 = 2 → i1 < (n_p1 : Int) := by intros; first | omega | (dsimp only at *; omega)) (h8 : i2 = 3 → 0 ≤ i1 := by intros; first | omega | (dsimp only at *; omega)) (h9 : i2 = 3 → i1 < (n_p2 : Int) := by intros; first | omega | (dsimp only at *; omega)) (h12 : i2 = 4 → 0 ≤ i1 := by intros; first | omega | (dsimp only at *; omega)) (h13 : i2 = 4 → i1 < (n_p3 : Int) := by intros; first | omega | (dsimp only at *; omega)) (h16 : i2 = 5 → 0 ≤ i1 := by intros; first | omega | (dsimp only at *; omega)) (h17 : i2 = 5 → i1 < (n_p4 : Int) := by intros; first | omega | (dsimp only at *; omega)) (h20 : i2 = 6 → 0 ≤ i1 := by intros; first | omega | (dsimp only at *; omega)) (h21 : i2 = 6 → i1 < (n_p5 : Int) := by intros; first | omega | (dsimp only at *; omega)) : X G dp a b M9_race 33 [some (rV (some r0)), some (iV (i1)), some (iV (i2))] [] m Q := by
  refine X_iload_n dX9_race_33 rfl rfl ?_
  by_cases c1 : i2 = 0
  · refine X_tableIn (tgt := 76) dX9_race_34 (by rw [c1]; decide) (by rw [c1]; decide) (by rw [c1]; rfl) (by decide) ?_
    refine X_aload_n dX9_race_76 rfl rfl ?_
    refine X_iload_n dX9_race_77 rfl rfl ?_
    exact X_callV (As := [iV (i1)]) (rest := []) (a' := 0) (b' := 0) dX9_race_78 t9_candidates ml_9_87 h1 rfl rfl (Nat.le_of_ble_eq_true rfl) rfl hdp (Nat.zero_le _) (Nat.zero_le _) ((k1 c1) _ (fun z m' h => h))
  by_cases c2 : i2 = 1
  · refine X_tableIn (tgt := 82) dX9_race_34 (by rw [c2]; decide) (by rw [c2]; decide) (by rw [c2]; rfl) (by decide) ?_
    refine X_aload_n dX9_race_82 rfl rfl ?_
    refine X_iload_n dX9_race_83 rfl rfl ?_
    exact X_callV (As := [iV (i1)]) (rest := []) (a' := 0) (b' := 0) dX9_race_84 t9_wayOf ml_9_141 h1 rfl rfl (Nat.le_of_ble_eq_true rfl) rfl hdp (Nat.zero_le _) (Nat.zero_le _) ((k2 c2) _ (fun z m' h => h))
  by_cases c3 : i2 = 2
  · refine X_tableIn (tgt := 88) dX9_race_34 (by rw [c3]; decide) (by rw [c3]; decide) (by rw [c3]; rfl) (by decide) ?_
    refine X_aload_n dX9_race_88 rfl rfl ?_
    refine X_getP dX9_race_89 fl_9_31 rfl h1 ?_
    refine am_ptr h2 ?_
    refine X_iload_n dX9_race_92 rfl rfl ?_
    refine X_iald dX9_race_93 h3 (h4 c3) (h5 c3) ?_
    exact X_iret dX9_race_94 rfl (k3 c3)
  by_cases c4 : i2 = 3
  · refine X_tableIn (tgt := 95) dX9_race_34 (by rw [c4]; decide) (by rw [c4]; decide) (by rw [c4]; rfl) (by decide) ?_
    refine X_aload_n dX9_race_95 rfl rfl ?_
    refine X_getP dX9_race_96 fl_9_34 rfl h1 ?_
    refine am_ptr h6 ?_
    refine X_iload_n dX9_race_99 rfl rfl ?_
    refine X_iald dX9_race_100 h7 (h8 c4) (h9 c4) ?_
    exact X_iret dX9_race_101 rfl (k4 c4)
  by_cases c5 : i2 = 4
  · refine X_tableIn (tgt := 102) dX9_race_34 (by rw [c5]; decide) (by rw [c5]; decide) (by rw [c5]; rfl) (by decide) ?_
    refine X_aload_n dX9_race_102 rfl rfl ?_
    refine X_getP dX9_race_103 fl_9_37 rfl h1 ?_
    refine am_ptr h10 ?_
    refine X_iload_n dX9_race_106 rfl rfl ?_
    refine X_iald dX9_race_107 h11 (h12 c5) (h13 c5) ?_
    exact X_iret dX9_race_108 rfl (k5 c5)
  by_cases c6 : i2 = 5
  · refine X_tableIn (tgt := 109) dX9_race_34 (by rw [c6]; decide) (by rw [c6]; decide) (by rw [c6]; rfl) (by decide) ?_
    refine X_aload_n dX9_race_109 rfl rfl ?_
    refine X_getP dX9_race_110 fl_9_47 rfl h1 ?_
    refine am_ptr h14 ?_
    refine X_iload_n dX9_race_113 rfl rfl ?_
    refine X_iald dX9_race_114 h15 (h16 c6) (h17 c6) ?_
    refine Y_iconst dX9_race_115 (by unfold i32; omega) ?_
    refine X_icmp_ne (tgt := 123) dX9_race_116 (by decide) (fun c7 => ?_) (fun c7 => ?_)
    · refine Y_iconst dX9_race_123 (by unfold i32; omega) ?_
      exact X_iret dX9_race_124 rfl (k6 c6 c7)
    · refine Y_iconst dX9_race_119 (by unfold i32; omega) ?_
      refine X_goto (tgt := 124) dX9_race_120 (by decide) ?_
      exact X_iret dX9_race_124 rfl (k7 c6 c7)
  by_cases c8 : i2 = 6
  · refine X_tableIn (tgt := 125) dX9_race_34 (by rw [c8]; decide) (by rw [c8]; decide) (by rw [c8]; rfl) (by decide) ?_
    refine X_aload_n dX9_race_125 rfl rfl ?_
    refine X_getP dX9_race_126 fl_9_47 rfl h1 ?_
    refine am_ptr h18 ?_
    refine X_iload_n dX9_race_129 rfl rfl ?_
    refine X_iald dX9_race_130 h19 (h20 c8) (h21 c8) ?_
    exact X_iret dX9_race_131 rfl (k8 c8)
  refine X_tableOut (tgt := 132) dX9_race_34 (by omega) (by decide) ?_
  refine X_aload_n dX9_race_132 rfl rfl ?_
  refine X_iload_n dX9_race_133 rfl rfl ?_
  exact X_callV (As := [iV (i1)]) (rest := []) (a' := 0) (b' := 0) dX9_race_134 t9_wins ml_9_244 h1 rfl rfl (Nat.le_of_ble_eq_true rfl) rfl hdp (Nat.zero_le _) (Nat.zero_le _) ((k9 c1 c2 c3 c4 c5 c6 c8) _ (fun z m' h => h))

theorem s9_race_81 {G : am_G} {dp a b : Nat} {m : am_M} {Q : am_Q} {i1 i2 i90 : Int} {r0 : Nat}  (k1 : Q (.inl (some (iV (i90)))) m)  : X G dp a b M9_race 81 [some (rV (some r0)), some (iV (i1)), some (iV (i2))] [iV (i90)] m Q := by
  exact X_iret dX9_race_81 rfl k1

theorem s9_race_87 {G : am_G} {dp a b : Nat} {m : am_M} {Q : am_Q} {i1 i2 i90 : Int} {r0 : Nat}  (k1 : Q (.inl (some (iV (i90)))) m)  : X G dp a b M9_race 87 [some (rV (some r0)), some (iV (i1)), some (iV (i2))] [iV (i90)] m Q := by
  exact X_iret dX9_race_87 rfl k1

theorem s9_race_137 {G : am_G} {dp a b : Nat} {m : am_M} {Q : am_Q} {i1 i2 i90 : Int} {r0 : Nat}  (k1 : Q (.inl (some (iV (i90)))) m)  : X G dp a b M9_race 137 [some (rV (some r0)), some (iV (i1)), some (iV (i2))] [iV (i90)] m Q := by
  exact X_iret dX9_race_137 rfl k1

theorem s9_risk_0 {G : am_G} {dp a b : Nat} {m : am_M} {Q : am_Q} {i1 : Int} {r0 : Nat} (hdp : 1 ≤ dp) (h1 : am_obw m r0 8) (k1 : ∀ Q' : am_Q, (∀ (z : Int) (m' : am_M), X G dp a b M9_risk 10 [some (rV (some r0)), some (iV (i1))] [iV (z)] m' Q → Q' (.inl (some (iV (z)))) m') → T G (dp - 1) 0 0 M9_isRace [rV (some r0), iV (i1)] ((u2 m.1 r0 7 (0)), m.2.1, m.2.2) Q')  : X G dp a b M9_risk 0 [some (rV (some r0)), some (iV (i1))] [] m Q := by
  refine X_aload_n dX9_risk_0 rfl rfl ?_
  refine Y_iconst dX9_risk_1 (by unfold i32; omega) ?_
  refine X_putI dX9_risk_2 fw_9_73 rfl h1 ?_
  refine X_aload_n dX9_risk_5 rfl rfl ?_
  refine X_iload_n dX9_risk_6 rfl rfl ?_
  exact X_callV (As := [iV (i1)]) (rest := []) (a' := 0) (b' := 0) dX9_risk_7 t9_isRace ml_9_240 (am_ow h1) rfl rfl (Nat.le_of_ble_eq_true rfl) rfl hdp (Nat.zero_le _) (Nat.zero_le _) (k1 _ (fun z m' h => h))

theorem s9_risk_10 {G : am_G} {dp a b : Nat} {m : am_M} {Q : am_Q} {i1 i90 : Int} {r0 : Nat} (hdp : 1 ≤ dp) (h1 : am_ob m r0 8) (k1 : ¬ (i90 = 0) → ∀ Q' : am_Q, (∀ (m' : am_M), X G dp a b M9_risk 24 [some (rV (some r0)), some (iV (i1))] [] m' Q → Q' (.inl none) m') → T G (dp - 1) 0 0 M9_goes [rV (some r0)] m Q') (k2 : (i90 = 0) → ∀ Q' : am_Q, (∀ (z : Int) (m' : am_M), X G dp a b M9_risk 18 [some (rV (some r0)), some (iV (i1))] [iV (z)] m' Q → Q' (.inl (some (iV (z)))) m') → T G (dp - 1) 0 0 M9_fail [rV (some r0), iV (1)] m Q')  : X G dp a b M9_risk 10 [some (rV (some r0)), some (iV (i1))] [iV (i90)] m Q := by
  refine X_if_ne (tgt := 20) dX9_risk_10 (by decide) (fun c1 => ?_) (fun c1 => ?_)
  · refine X_aload_n dX9_risk_20 rfl rfl ?_
    exact X_callV (As := []) (rest := []) (a' := 0) (b' := 0) dX9_risk_21 t9_goes ml_9_213 h1 rfl rfl (Nat.le_of_ble_eq_true rfl) rfl hdp (Nat.zero_le _) (Nat.zero_le _) ((k1 c1) _ (fun m' h => h))
  · refine X_aload_n dX9_risk_13 rfl rfl ?_
    refine Y_iconst dX9_risk_14 (by unfold i32; omega) ?_
    exact X_callV (As := [iV (1)]) (rest := []) (a' := 0) (b' := 0) dX9_risk_15 t9_fail ml_9_210 h1 rfl rfl (Nat.le_of_ble_eq_true rfl) rfl hdp (Nat.zero_le _) (Nat.zero_le _) ((k2 c1) _ (fun z m' h => h))

theorem s9_risk_18 {G : am_G} {dp a b : Nat} {m : am_M} {Q : am_Q} {i1 i90 : Int} {r0 : Nat}  (k1 : Q (.inl (some (lV (i90)))) m)  : X G dp a b M9_risk 18 [some (rV (some r0)), some (iV (i1))] [iV (i90)] m Q := by
  refine X_i2l dX9_risk_18 ?_
  exact X_lret dX9_risk_19 rfl k1

theorem s9_risk_24 {G : am_G} {dp a b : Nat} {m : am_M} {Q : am_Q} {i1 : Int} {r0 : Nat} (hdp : 1 ≤ dp) (h1 : am_ob m r0 8) (k1 : ∀ Q' : am_Q, (∀ (z : Int) (m' : am_M), X G dp a b M9_risk 29 [some (rV (some r0)), some (iV (i1))] [lV (z)] m' Q → Q' (.inl (some (lV (z)))) m') → T G (dp - 1) 0 0 M9_riskNow [rV (some r0), iV (i1)] m Q')  : X G dp a b M9_risk 24 [some (rV (some r0)), some (iV (i1))] [] m Q := by
  refine X_aload_n dX9_risk_24 rfl rfl ?_
  refine X_iload_n dX9_risk_25 rfl rfl ?_
  exact X_callV (As := [iV (i1)]) (rest := []) (a' := 0) (b' := 0) dX9_risk_26 t9_riskNow ml_9_169 h1 rfl rfl (Nat.le_of_ble_eq_true rfl) rfl hdp (Nat.zero_le _) (Nat.zero_le _) (k1 _ (fun z m' h => h))

theorem s9_risk_29 {G : am_G} {dp a b : Nat} {m : am_M} {Q : am_Q} {i1 l90 : Int} {r0 : Nat}  (k1 : Q (.inl (some (lV (l90)))) m)  : X G dp a b M9_risk 29 [some (rV (some r0)), some (iV (i1))] [lV (l90)] m Q := by
  exact X_lret dX9_risk_29 rfl k1

theorem s9_riskOf_0 {G : am_G} {dp a b : Nat} {m : am_M} {Q : am_Q} {i1 i2 : Int} {r0 : Nat} (hdp : 1 ≤ dp) (h1 : am_obw m r0 8) (k1 : ∀ Q' : am_Q, (∀ (z : Int) (m' : am_M), X G dp a b M9_riskOf 10 [some (rV (some r0)), some (iV (i1)), some (iV (i2))] [iV (z)] m' Q → Q' (.inl (some (iV (z)))) m') → T G (dp - 1) 0 0 M9_isRace [rV (some r0), iV (i1)] ((u2 m.1 r0 7 (0)), m.2.1, m.2.2) Q')  : X G dp a b M9_riskOf 0 [some (rV (some r0)), some (iV (i1)), some (iV (i2))] [] m Q := by
  refine X_aload_n dX9_riskOf_0 rfl rfl ?_
  refine Y_iconst dX9_riskOf_1 (by unfold i32; omega) ?_
  refine X_putI dX9_riskOf_2 fw_9_73 rfl h1 ?_
  refine X_aload_n dX9_riskOf_5 rfl rfl ?_
  refine X_iload_n dX9_riskOf_6 rfl rfl ?_
  exact X_callV (As := [iV (i1)]) (rest := []) (a' := 0) (b' := 0) dX9_riskOf_7 t9_isRace ml_9_240 (am_ow h1) rfl rfl (Nat.le_of_ble_eq_true rfl) rfl hdp (Nat.zero_le _) (Nat.zero_le _) (k1 _ (fun z m' h => h))

theorem s9_riskOf_10 {G : am_G} {dp a b : Nat} {m : am_M} {Q : am_Q} {i1 i2 i90 : Int} {r0 : Nat} (hdp : 1 ≤ dp) (h1 : am_ob m r0 8) (k1 : (i90 = 0) → ∀ Q' : am_Q, (∀ (z : Int) (m' : am_M), X G dp a b M9_riskOf 27 [some (rV (some r0)), some (iV (i1)), some (iV (i2))] [iV (z)] m' Q → Q' (.inl (some (iV (z)))) m') → T G (dp - 1) 0 0 M9_fail [rV (some r0), iV (1)] m Q') (k2 : ¬ (i90 = 0) → ∀ Q' : am_Q, (∀ (z : Int) (m' : am_M), X G dp a b M9_riskOf 19 [some (rV (some r0)), some (iV (i1)), some (iV (i2))] [iV (z)] m' Q → Q' (.inl (some (iV (z)))) m') → T G (dp - 1) 0 0 M9_isCandidate [rV (some r0), iV (i1), iV (i2)] m Q')  : X G dp a b M9_riskOf 10 [some (rV (some r0)), some (iV (i1)), some (iV (i2))] [iV (i90)] m Q := by
  refine X_if_eq (tgt := 22) dX9_riskOf_10 (by decide) (fun c1 => ?_) (fun c1 => ?_)
  · refine X_aload_n dX9_riskOf_22 rfl rfl ?_
    refine Y_iconst dX9_riskOf_23 (by unfold i32; omega) ?_
    exact X_callV (As := [iV (1)]) (rest := []) (a' := 0) (b' := 0) dX9_riskOf_24 t9_fail ml_9_210 h1 rfl rfl (Nat.le_of_ble_eq_true rfl) rfl hdp (Nat.zero_le _) (Nat.zero_le _) ((k1 c1) _ (fun z m' h => h))
  · refine X_aload_n dX9_riskOf_13 rfl rfl ?_
    refine X_iload_n dX9_riskOf_14 rfl rfl ?_
    refine X_iload_n dX9_riskOf_15 rfl rfl ?_
    exact X_callV (As := [iV (i1), iV (i2)]) (rest := []) (a' := 0) (b' := 0) dX9_riskOf_16 t9_isCandidate ml_9_247 h1 rfl rfl (Nat.le_of_ble_eq_true rfl) rfl hdp (Nat.zero_le _) (Nat.zero_le _) ((k2 c1) _ (fun z m' h => h))

theorem s9_riskOf_19 {G : am_G} {dp a b : Nat} {m : am_M} {Q : am_Q} {i1 i2 i90 : Int} {r0 : Nat} (hdp : 1 ≤ dp) (h1 : am_ob m r0 8) (k1 : ¬ (i90 = 0) → ∀ Q' : am_Q, (∀ (m' : am_M), X G dp a b M9_riskOf 33 [some (rV (some r0)), some (iV (i1)), some (iV (i2))] [] m' Q → Q' (.inl none) m') → T G (dp - 1) 0 0 M9_goes [rV (some r0)] m Q') (k2 : (i90 = 0) → ∀ Q' : am_Q, (∀ (z : Int) (m' : am_M), X G dp a b M9_riskOf 27 [some (rV (some r0)), some (iV (i1)), some (iV (i2))] [iV (z)] m' Q → Q' (.inl (some (iV (z)))) m') → T G (dp - 1) 0 0 M9_fail [rV (some r0), iV (1)] m Q')  : X G dp a b M9_riskOf 19 [some (rV (some r0)), some (iV (i1)), some (iV (i2))] [iV (i90)] m Q := by
  refine X_if_ne (tgt := 29) dX9_riskOf_19 (by decide) (fun c1 => ?_) (fun c1 => ?_)
  · refine X_aload_n dX9_riskOf_29 rfl rfl ?_
    exact X_callV (As := []) (rest := []) (a' := 0) (b' := 0) dX9_riskOf_30 t9_goes ml_9_213 h1 rfl rfl (Nat.le_of_ble_eq_true rfl) rfl hdp (Nat.zero_le _) (Nat.zero_le _) ((k1 c1) _ (fun m' h => h))
  · refine X_aload_n dX9_riskOf_22 rfl rfl ?_
    refine Y_iconst dX9_riskOf_23 (by unfold i32; omega) ?_
    exact X_callV (As := [iV (1)]) (rest := []) (a' := 0) (b' := 0) dX9_riskOf_24 t9_fail ml_9_210 h1 rfl rfl (Nat.le_of_ble_eq_true rfl) rfl hdp (Nat.zero_le _) (Nat.zero_le _) ((k2 c1) _ (fun z m' h => h))

theorem s9_riskOf_27 {G : am_G} {dp a b : Nat} {m : am_M} {Q : am_Q} {i1 i2 i90 : Int} {r0 : Nat}  (k1 : Q (.inl (some (lV (i90)))) m)  : X G dp a b M9_riskOf 27 [some (rV (some r0)), some (iV (i1)), some (iV (i2))] [iV (i90)] m Q := by
  refine X_i2l dX9_riskOf_27 ?_
  exact X_lret dX9_riskOf_28 rfl k1

theorem s9_riskOf_33 {G : am_G} {dp a b : Nat} {m : am_M} {Q : am_Q} {i1 i2 : Int} {r0 p1 : Nat} {n_p1 : Nat} (hdp : 1 ≤ dp) (h1 : am_ob m r0 8) (h2 : m.2.1 r0 10 = some p1) (h3 : am_ar m p1 100 n_p1) (k1 : ¬ (i2 = (m.1 p1 (i1).toNat)) → ∀ Q' : am_Q, (∀ (z : Int) (m' : am_M), X G dp a b M9_riskOf 50 [some (rV (some r0)), some (iV (i1)), some (iV (i2))] [iV (z)] m' Q → Q' (.inl (some (iV (z)))) m') → T G (dp - 1) 0 0 M9_wayOf [rV (some r0), iV (i1)] m Q') (k2 : (i2 = (m.1 p1 (i1).toNat)) → Q (.inl (some (lV (0)))) m) (h4 : 0 ≤ i1 := by intros; first | omega | (dsimp only at *; omega)) (h5 : i1 < (n_p1 : Int) := by intros; first | omega | (dsimp only at *; omega)) : X G dp a b M9_riskOf 33 [some (rV (some r0)), some (iV (i1)), some (iV (i2))] [] m Q := by
  refine X_iload_n dX9_riskOf_33 rfl rfl ?_
  refine X_aload_n dX9_riskOf_34 rfl rfl ?_
  refine X_getP dX9_riskOf_35 fl_9_31 rfl h1 ?_
  refine am_ptr h2 ?_
  refine X_iload_n dX9_riskOf_38 rfl rfl ?_
  refine X_iald dX9_riskOf_39 h3 h4 h5 ?_
  refine X_icmp_ne (tgt := 45) dX9_riskOf_40 (by decide) (fun c1 => ?_) (fun c1 => ?_)
  · refine X_aload_n dX9_riskOf_45 rfl rfl ?_
    refine X_iload_n dX9_riskOf_46 rfl rfl ?_
    exact X_callV (As := [iV (i1)]) (rest := []) (a' := 0) (b' := 0) dX9_riskOf_47 t9_wayOf ml_9_141 h1 rfl rfl (Nat.le_of_ble_eq_true rfl) rfl hdp (Nat.zero_le _) (Nat.zero_le _) ((k1 c1) _ (fun z m' h => h))
  · refine Y_lconst0 dX9_riskOf_43 ?_
    exact X_lret dX9_riskOf_44 rfl (k2 c1)

theorem s9_riskOf_50 {G : am_G} {dp a b : Nat} {m : am_M} {Q : am_Q} {i1 i2 i90 : Int} {r0 p1 : Nat} {n_p1 : Nat} (hdp : 1 ≤ dp) (h1 : am_ob m r0 8) (h2 : m.2.1 r0 14 = some p1) (h3 : am_ar m p1 101 n_p1) (k1 : ¬ (i90 = 0) → Q (.inl (some (lV (m.1 p1 (wr ((wr (4 * i1)) + i2)).toNat)))) m) (k2 : (i90 = 0) → ∀ Q' : am_Q, (∀ (z : Int) (m' : am_M), X G dp a b M9_riskOf 58 [some (rV (some r0)), some (iV (i1)), some (iV (i2))] [lV (z)] m' Q → Q' (.inl (some (lV (z)))) m') → T G (dp - 1) 0 0 M9_riskNow [rV (some r0), iV (i1)] m Q') (h4 : ¬ (i90 = 0) → 0 ≤ wr ((wr (4 * i1)) + i2) := by intros; first | omega | (dsimp only at *; omega)) (h5 : ¬ (i90 = 0) → wr ((wr (4 * i1)) + i2) < (n_p1 : Int) := by intros; first | omega | (dsimp only at *; omega)) : X G dp a b M9_riskOf 50 [some (rV (some r0)), some (iV (i1)), some (iV (i2))] [iV (i90)] m Q := by
  refine X_if_ne (tgt := 61) dX9_riskOf_50 (by decide) (fun c1 => ?_) (fun c1 => ?_)
  · refine X_aload_n dX9_riskOf_61 rfl rfl ?_
    refine X_getP dX9_riskOf_62 fl_9_43 rfl h1 ?_
    refine am_ptr h2 ?_
    refine Y_iconst dX9_riskOf_65 (by unfold i32; omega) ?_
    refine X_iload_n dX9_riskOf_66 rfl rfl ?_
    refine X_imul dX9_riskOf_67  ?_
    refine X_iload_n dX9_riskOf_68 rfl rfl ?_
    refine X_iadd dX9_riskOf_69  ?_
    refine X_lald dX9_riskOf_70 h3 (h4 c1) (h5 c1) ?_
    exact X_lret dX9_riskOf_71 rfl (k1 c1)
  · refine X_aload_n dX9_riskOf_53 rfl rfl ?_
    refine X_iload_n dX9_riskOf_54 rfl rfl ?_
    exact X_callV (As := [iV (i1)]) (rest := []) (a' := 0) (b' := 0) dX9_riskOf_55 t9_riskNow ml_9_169 h1 rfl rfl (Nat.le_of_ble_eq_true rfl) rfl hdp (Nat.zero_le _) (Nat.zero_le _) ((k2 c1) _ (fun z m' h => h))

theorem s9_riskOf_58 {G : am_G} {dp a b : Nat} {m : am_M} {Q : am_Q} {i1 i2 l90 : Int} {r0 : Nat}  (k1 : Q (.inl (some (lV (l90)))) m)  : X G dp a b M9_riskOf 58 [some (rV (some r0)), some (iV (i1)), some (iV (i2))] [lV (l90)] m Q := by
  refine X_goto (tgt := 71) dX9_riskOf_58 (by decide) ?_
  exact X_lret dX9_riskOf_71 rfl k1

theorem s9_riskAt_0 {G : am_G} {dp a b : Nat} {m : am_M} {Q : am_Q} {i1 i2 : Int} {r0 : Nat} (hdp : 1 ≤ dp) (h1 : am_obw m r0 8) (k1 : ∀ Q' : am_Q, (∀ (m' : am_M), X G dp a b M9_riskAt 9 [some (rV (some r0)), some (iV (i1)), some (iV (i2))] [] m' Q → Q' (.inl none) m') → T G (dp - 1) 0 0 M9_goes [rV (some r0)] ((u2 m.1 r0 7 (0)), m.2.1, m.2.2) Q')  : X G dp a b M9_riskAt 0 [some (rV (some r0)), some (iV (i1)), some (iV (i2))] [] m Q := by
  refine X_aload_n dX9_riskAt_0 rfl rfl ?_
  refine Y_iconst dX9_riskAt_1 (by unfold i32; omega) ?_
  refine X_putI dX9_riskAt_2 fw_9_73 rfl h1 ?_
  refine X_aload_n dX9_riskAt_5 rfl rfl ?_
  exact X_callV (As := []) (rest := []) (a' := 0) (b' := 0) dX9_riskAt_6 t9_goes ml_9_213 (am_ow h1) rfl rfl (Nat.le_of_ble_eq_true rfl) rfl hdp (Nat.zero_le _) (Nat.zero_le _) (k1 _ (fun m' h => h))

theorem s9_riskAt_9 {G : am_G} {dp a b : Nat} {m : am_M} {Q : am_Q} {i1 i2 : Int} {r0 : Nat} (hdp : 1 ≤ dp) (h1 : am_ob m r0 8) (k1 : ∀ Q' : am_Q, (∀ (z : Int) (m' : am_M), X G dp a b M9_riskAt 14 [some (rV (some r0)), some (iV (i1)), some (iV (i2))] [iV (z)] m' Q → Q' (.inl (some (iV (z)))) m') → T G (dp - 1) 0 0 M9_isRace [rV (some r0), iV (i1)] m Q')  : X G dp a b M9_riskAt 9 [some (rV (some r0)), some (iV (i1)), some (iV (i2))] [] m Q := by
  refine X_aload_n dX9_riskAt_9 rfl rfl ?_
  refine X_iload_n dX9_riskAt_10 rfl rfl ?_
  exact X_callV (As := [iV (i1)]) (rest := []) (a' := 0) (b' := 0) dX9_riskAt_11 t9_isRace ml_9_240 h1 rfl rfl (Nat.le_of_ble_eq_true rfl) rfl hdp (Nat.zero_le _) (Nat.zero_le _) (k1 _ (fun z m' h => h))

theorem s9_riskAt_14 {G : am_G} {dp a b : Nat} {m : am_M} {Q : am_Q} {i1 i2 i90 : Int} {r0 : Nat} (hdp : 1 ≤ dp) (h1 : am_ob m r0 8) (k1 : (i90 = 0) → ∀ Q' : am_Q, (∀ (z : Int) (m' : am_M), X G dp a b M9_riskAt 34 [some (rV (some r0)), some (iV (i1)), some (iV (i2))] [iV (z)] m' Q → Q' (.inl (some (iV (z)))) m') → T G (dp - 1) 0 0 M9_fail [rV (some r0), iV (1)] m Q') (k2 : ¬ (i90 = 0) → ∀ Q' : am_Q, (∀ (z : Int) (m' : am_M), X G dp a b M9_riskAt 26 [some (rV (some r0)), some (iV (i1)), some (iV (i2))] [iV (z)] m' Q → Q' (.inl (some (iV (z)))) m') → T G (dp - 1) 0 0 M9_isIn [iV (i2), iV (0), iV (m.1 r0 16)] m Q')  : X G dp a b M9_riskAt 14 [some (rV (some r0)), some (iV (i1)), some (iV (i2))] [iV (i90)] m Q := by
  refine X_if_eq (tgt := 29) dX9_riskAt_14 (by decide) (fun c1 => ?_) (fun c1 => ?_)
  · refine X_aload_n dX9_riskAt_29 rfl rfl ?_
    refine Y_iconst dX9_riskAt_30 (by unfold i32; omega) ?_
    exact X_callV (As := [iV (1)]) (rest := []) (a' := 0) (b' := 0) dX9_riskAt_31 t9_fail ml_9_210 h1 rfl rfl (Nat.le_of_ble_eq_true rfl) rfl hdp (Nat.zero_le _) (Nat.zero_le _) ((k1 c1) _ (fun z m' h => h))
  · refine X_iload_n dX9_riskAt_17 rfl rfl ?_
    refine Y_iconst dX9_riskAt_18 (by unfold i32; omega) ?_
    refine X_aload_n dX9_riskAt_19 rfl rfl ?_
    refine X_getI dX9_riskAt_20 fl_9_166 (by decide) h1 ?_
    exact X_callS (As := [iV (i2), iV (0), iV (m.1 r0 16)]) (rest := []) (a' := 0) (b' := 0) dX9_riskAt_23 t9_isIn ml_9_80 rfl rfl (Nat.le_of_ble_eq_true rfl) rfl hdp (Nat.zero_le _) (Nat.zero_le _) ((k2 c1) _ (fun z m' h => h))

theorem s9_riskAt_26 {G : am_G} {dp a b : Nat} {m : am_M} {Q : am_Q} {i1 i2 i90 : Int} {r0 p1 : Nat} {n_p1 : Nat} (hdp : 1 ≤ dp) (h1 : am_ob m r0 8) (h2 : m.2.1 r0 17 = some p1) (h3 : am_ar m p1 101 n_p1) (k1 : ¬ (i90 = 0) → Q (.inl (some (lV (m.1 p1 (wr ((wr (3 * i2)) + i1)).toNat)))) m) (k2 : (i90 = 0) → ∀ Q' : am_Q, (∀ (z : Int) (m' : am_M), X G dp a b M9_riskAt 34 [some (rV (some r0)), some (iV (i1)), some (iV (i2))] [iV (z)] m' Q → Q' (.inl (some (iV (z)))) m') → T G (dp - 1) 0 0 M9_fail [rV (some r0), iV (1)] m Q') (h4 : ¬ (i90 = 0) → 0 ≤ wr ((wr (3 * i2)) + i1) := by intros; first | omega | (dsimp only at *; omega)) (h5 : ¬ (i90 = 0) → wr ((wr (3 * i2)) + i1) < (n_p1 : Int) := by intros; first | omega | (dsimp only at *; omega)) : X G dp a b M9_riskAt 26 [some (rV (some r0)), some (iV (i1)), some (iV (i2))] [iV (i90)] m Q := by
  refine X_if_ne (tgt := 36) dX9_riskAt_26 (by decide) (fun c1 => ?_) (fun c1 => ?_)
  · refine X_aload_n dX9_riskAt_36 rfl rfl ?_
    refine X_getP dX9_riskAt_37 fl_9_50 rfl h1 ?_
    refine am_ptr h2 ?_
    refine Y_iconst dX9_riskAt_40 (by unfold i32; omega) ?_
    refine X_iload_n dX9_riskAt_41 rfl rfl ?_
    refine X_imul dX9_riskAt_42  ?_
    refine X_iload_n dX9_riskAt_43 rfl rfl ?_
    refine X_iadd dX9_riskAt_44  ?_
    refine X_lald dX9_riskAt_45 h3 (h4 c1) (h5 c1) ?_
    exact X_lret dX9_riskAt_46 rfl (k1 c1)
  · refine X_aload_n dX9_riskAt_29 rfl rfl ?_
    refine Y_iconst dX9_riskAt_30 (by unfold i32; omega) ?_
    exact X_callV (As := [iV (1)]) (rest := []) (a' := 0) (b' := 0) dX9_riskAt_31 t9_fail ml_9_210 h1 rfl rfl (Nat.le_of_ble_eq_true rfl) rfl hdp (Nat.zero_le _) (Nat.zero_le _) ((k2 c1) _ (fun z m' h => h))

theorem s9_riskAt_34 {G : am_G} {dp a b : Nat} {m : am_M} {Q : am_Q} {i1 i2 i90 : Int} {r0 : Nat}  (k1 : Q (.inl (some (lV (i90)))) m)  : X G dp a b M9_riskAt 34 [some (rV (some r0)), some (iV (i1)), some (iV (i2))] [iV (i90)] m Q := by
  refine X_i2l dX9_riskAt_34 ?_
  exact X_lret dX9_riskAt_35 rfl k1

theorem s9_riskWith_0 {G : am_G} {dp a b : Nat} {m : am_M} {Q : am_Q} {i1 i2 : Int} {r0 p1 : Nat} {o3 o4 o5 : Option am_V} {n_p1 : Nat} (hdp : 1 ≤ dp) (h1 : am_ob m r0 8) (h2 : m.2.1 r0 15 = some p1) (h3 : am_ar m p1 100 n_p1) (k1 : ((m.1 p1 (i1).toNat) = (-1)) → X G dp a b M9_riskWith 18 [some (rV (some r0)), some (iV (i1)), some (iV (i2)), some (iV (0)), o4, o5] [] m Q) (k2 : ¬ ((m.1 p1 (i1).toNat) = (-1)) → ∀ Q' : am_Q, (∀ (z : Int) (m' : am_M), X G dp a b M9_riskWith 15 [some (rV (some r0)), some (iV (i1)), some (iV (i2)), o3, o4, o5] [lV (z)] m' Q → Q' (.inl (some (lV (z)))) m') → T G (dp - 1) 0 0 M9_riskNow [rV (some r0), iV (i1)] m Q') (h4 : 0 ≤ i1 := by intros; first | omega | (dsimp only at *; omega)) (h5 : i1 < (n_p1 : Int) := by intros; first | omega | (dsimp only at *; omega)) : X G dp a b M9_riskWith 0 [some (rV (some r0)), some (iV (i1)), some (iV (i2)), o3, o4, o5] [] m Q := by
  refine X_aload_n dX9_riskWith_0 rfl rfl ?_
  refine X_getP dX9_riskWith_1 fl_9_47 rfl h1 ?_
  refine am_ptr h2 ?_
  refine X_iload_n dX9_riskWith_4 rfl rfl ?_
  refine X_iald dX9_riskWith_5 h3 h4 h5 ?_
  refine Y_iconst dX9_riskWith_6 (by unfold i32; omega) ?_
  refine X_icmp_eq (tgt := 16) dX9_riskWith_7 (by decide) (fun c1 => ?_) (fun c1 => ?_)
  · refine Y_iconst dX9_riskWith_16 (by unfold i32; omega) ?_
    refine X_istore_n dX9_riskWith_17 rfl (Nat.le_of_ble_eq_true rfl) ?_
    exact (k1 c1)
  · refine X_aload_n dX9_riskWith_10 rfl rfl ?_
    refine X_iload_n dX9_riskWith_11 rfl rfl ?_
    exact X_callV (As := [iV (i1)]) (rest := []) (a' := 0) (b' := 0) dX9_riskWith_12 t9_riskNow ml_9_169 h1 rfl rfl (Nat.le_of_ble_eq_true rfl) rfl hdp (Nat.zero_le _) (Nat.zero_le _) ((k2 c1) _ (fun z m' h => h))

theorem s9_riskWith_15 {G : am_G} {dp a b : Nat} {m : am_M} {Q : am_Q} {i1 i2 l90 : Int} {r0 : Nat} {o3 o4 o5 : Option am_V}  (k1 : Q (.inl (some (lV (l90)))) m)  : X G dp a b M9_riskWith 15 [some (rV (some r0)), some (iV (i1)), some (iV (i2)), o3, o4, o5] [lV (l90)] m Q := by
  exact X_lret dX9_riskWith_15 rfl k1

theorem s9_riskWith_18 {G : am_G} {dp a b : Nat} {m : am_M} {Q : am_Q} {i1 i2 i3 : Int} {r0 p1 p2 : Nat} {o4 o5 : Option am_V} {n_p2 n_p1 : Nat} (hdp : 1 ≤ dp) (h1 : am_ob m r0 8) (h2 : m.2.1 r0 20 = some p1) (h3 : m.2.1 r0 14 = some p2) (h4 : am_ar m p2 101 n_p2) (h7 : am_arw m p1 101 n_p1) (k1 : (4 ≤ i3) → ∀ Q' : am_Q, (∀ (z : Int) (m' : am_M), X G dp a b M9_riskWith 53 [some (rV (some r0)), some (iV (i1)), some (iV (i2)), some (iV (i3)), o4, o5] [iV (z), iV (i1), rV (some r0)] m' Q → Q' (.inl (some (iV (z)))) m') → T G (dp - 1) 0 0 M9_mistakeAt [rV (some r0), iV (i2), iV (i1)] m Q') (k2 : ¬ (4 ≤ i3) → X G dp a b M9_riskWith 18 [some (rV (some r0)), some (iV (i1)), some (iV (i2)), some (iV (wr (i3 + 1))), o4, o5] [] ((u2 m.1 p1 (i3).toNat (m.1 p2 (wr ((wr (4 * i1)) + i3)).toNat)), m.2.1, m.2.2) Q) (h5 : ¬ (4 ≤ i3) → 0 ≤ wr ((wr (4 * i1)) + i3) := by intros; first | omega | (dsimp only at *; omega)) (h6 : ¬ (4 ≤ i3) → wr ((wr (4 * i1)) + i3) < (n_p2 : Int) := by intros; first | omega | (dsimp only at *; omega)) (h8 : ¬ (4 ≤ i3) → 0 ≤ i3 := by intros; first | omega | (dsimp only at *; omega)) (h9 : ¬ (4 ≤ i3) → i3 < (n_p1 : Int) := by intros; first | omega | (dsimp only at *; omega)) : X G dp a b M9_riskWith 18 [some (rV (some r0)), some (iV (i1)), some (iV (i2)), some (iV (i3)), o4, o5] [] m Q := by
  refine X_iload_n dX9_riskWith_18 rfl rfl ?_
  refine Y_iconst dX9_riskWith_19 (by unfold i32; omega) ?_
  refine X_icmp_ge (tgt := 45) dX9_riskWith_20 (by decide) (fun c1 => ?_) (fun c1 => ?_)
  · refine X_aload_n dX9_riskWith_45 rfl rfl ?_
    refine X_iload_n dX9_riskWith_46 rfl rfl ?_
    refine X_aload_n dX9_riskWith_47 rfl rfl ?_
    refine X_iload_n dX9_riskWith_48 rfl rfl ?_
    refine X_iload_n dX9_riskWith_49 rfl rfl ?_
    exact X_callV (As := [iV (i2), iV (i1)]) (rest := [iV (i1), rV (some r0)]) (a' := 0) (b' := 0) dX9_riskWith_50 t9_mistakeAt ml_9_172 h1 rfl rfl (Nat.le_of_ble_eq_true rfl) rfl hdp (Nat.zero_le _) (Nat.zero_le _) ((k1 c1) _ (fun z m' h => h))
  · refine X_aload_n dX9_riskWith_23 rfl rfl ?_
    refine X_getP dX9_riskWith_24 fl_9_56 rfl h1 ?_
    refine am_ptr h2 ?_
    refine X_iload_n dX9_riskWith_27 rfl rfl ?_
    refine X_aload_n dX9_riskWith_28 rfl rfl ?_
    refine X_getP dX9_riskWith_29 fl_9_43 rfl h1 ?_
    refine am_ptr h3 ?_
    refine Y_iconst dX9_riskWith_32 (by unfold i32; omega) ?_
    refine X_iload_n dX9_riskWith_33 rfl rfl ?_
    refine X_imul dX9_riskWith_34  ?_
    refine X_iload_n dX9_riskWith_35 rfl rfl ?_
    refine X_iadd dX9_riskWith_36  ?_
    refine X_lald dX9_riskWith_37 h4 (h5 c1) (h6 c1) ?_
    refine X_last dX9_riskWith_38 h7 (h8 c1) (h9 c1) ?_
    refine X_iinc dX9_riskWith_39 rfl ?_
    refine X_goto (tgt := 18) dX9_riskWith_42 (by decide) ?_
    exact (k2 c1)

theorem s9_riskWith_53 {G : am_G} {dp a b : Nat} {m : am_M} {Q : am_Q} {i1 i2 i3 i90 i91 : Int} {r0 r92 : Nat} {o4 o5 : Option am_V} (hdp : 1 ≤ dp) (h1 : am_ob m r0 8) (k1 : ∀ Q' : am_Q, (∀ (z : Int) (m' : am_M), X G dp a b M9_riskWith 59 [some (rV (some r0)), some (iV (i1)), some (iV (i2)), some (iV (i3)), o4, o5] [iV (z), iV (i90), iV (i91), rV (some r92)] m' Q → Q' (.inl (some (iV (z)))) m') → T G (dp - 1) 0 0 M9_shown [rV (some r0), iV (i2), iV (i1)] m Q')  : X G dp a b M9_riskWith 53 [some (rV (some r0)), some (iV (i1)), some (iV (i2)), some (iV (i3)), o4, o5] [iV (i90), iV (i91), rV (some r92)] m Q := by
  refine X_aload_n dX9_riskWith_53 rfl rfl ?_
  refine X_iload_n dX9_riskWith_54 rfl rfl ?_
  refine X_iload_n dX9_riskWith_55 rfl rfl ?_
  exact X_callV (As := [iV (i2), iV (i1)]) (rest := [iV (i90), iV (i91), rV (some r92)]) (a' := 0) (b' := 0) dX9_riskWith_56 t9_shown ml_9_103 h1 rfl rfl (Nat.le_of_ble_eq_true rfl) rfl hdp (Nat.zero_le _) (Nat.zero_le _) (k1 _ (fun z m' h => h))

theorem s9_riskWith_59 {G : am_G} {dp a b : Nat} {m : am_M} {Q : am_Q} {i1 i2 i3 i90 i91 i92 : Int} {r0 r93 p1 : Nat} {o4 o5 : Option am_V} {n_p1 : Nat} (hdp : 1 ≤ dp) (h1 : am_ob m r0 8) (h2 : m.2.1 r0 0 = some p1) (h3 : am_ar m p1 100 n_p1) (h5 : am_ob m r93 8) (k1 : ∀ Q' : am_Q, (∀ (m' : am_M), X G dp a b M9_riskWith 68 [some (rV (some r0)), some (iV (i1)), some (iV (i2)), some (iV (i3)), o4, o5] [] m' Q → Q' (.inl none) m') → T G (dp - 1) 0 0 M9_draws [rV (some r93), iV (i92), iV (i91), iV (i90), iV (m.1 p1 ((3 : Int)).toNat)] m Q') (h4 : 3 < (n_p1 : Int) := by intros; first | omega | (dsimp only at *; omega)) : X G dp a b M9_riskWith 59 [some (rV (some r0)), some (iV (i1)), some (iV (i2)), some (iV (i3)), o4, o5] [iV (i90), iV (i91), iV (i92), rV (some r93)] m Q := by
  refine X_aload_n dX9_riskWith_59 rfl rfl ?_
  refine X_getP dX9_riskWith_60 fl_9_9 rfl h1 ?_
  refine am_ptr h2 ?_
  refine Y_iconst dX9_riskWith_63 (by unfold i32; omega) ?_
  refine X_iald dX9_riskWith_64 h3 (by decide) h4 ?_
  exact X_callV (As := [iV (i92), iV (i91), iV (i90), iV (m.1 p1 ((3 : Int)).toNat)]) (rest := []) (a' := 0) (b' := 0) dX9_riskWith_65 t9_draws ml_9_175 h5 rfl rfl (Nat.le_of_ble_eq_true rfl) rfl hdp (Nat.zero_le _) (Nat.zero_le _) (k1 _ (fun m' h => h))

theorem s9_riskWith_68 {G : am_G} {dp a b : Nat} {m : am_M} {Q : am_Q} {i1 i2 i3 : Int} {r0 : Nat} {o4 o5 : Option am_V} (hdp : 1 ≤ dp) (h1 : am_ob m r0 8) (k1 : ∀ Q' : am_Q, (∀ (z : Int) (m' : am_M), X G dp a b M9_riskWith 73 [some (rV (some r0)), some (iV (i1)), some (iV (i2)), some (iV (i3)), o4, o5] [lV (z)] m' Q → Q' (.inl (some (lV (z)))) m') → T G (dp - 1) 0 0 M9_riskNow [rV (some r0), iV (i1)] m Q')  : X G dp a b M9_riskWith 68 [some (rV (some r0)), some (iV (i1)), some (iV (i2)), some (iV (i3)), o4, o5] [] m Q := by
  refine X_aload_n dX9_riskWith_68 rfl rfl ?_
  refine X_iload_n dX9_riskWith_69 rfl rfl ?_
  exact X_callV (As := [iV (i1)]) (rest := []) (a' := 0) (b' := 0) dX9_riskWith_70 t9_riskNow ml_9_169 h1 rfl rfl (Nat.le_of_ble_eq_true rfl) rfl hdp (Nat.zero_le _) (Nat.zero_le _) (k1 _ (fun z m' h => h))

theorem s9_riskWith_73 {G : am_G} {dp a b : Nat} {m : am_M} {Q : am_Q} {i1 i2 i3 l90 : Int} {r0 : Nat} {o4 o5 : Option am_V}  (k1 : X G dp a b M9_riskWith 77 [some (rV (some r0)), some (iV (i1)), some (iV (i2)), some (lV (l90)), none, some (iV (0))] [] m Q)  : X G dp a b M9_riskWith 73 [some (rV (some r0)), some (iV (i1)), some (iV (i2)), some (iV (i3)), o4, o5] [lV (l90)] m Q := by
  refine X_lstore_n dX9_riskWith_73 rfl (Nat.le_of_ble_eq_true rfl) ?_
  refine Y_iconst dX9_riskWith_74 (by unfold i32; omega) ?_
  refine X_istore dX9_riskWith_75 (Nat.le_of_ble_eq_true rfl) ?_
  exact k1

theorem s9_riskWith_77 {G : am_G} {dp a b : Nat} {m : am_M} {Q : am_Q} {i1 i2 i5 l3 : Int} {r0 p1 p2 : Nat} {n_p2 n_p1 : Nat} (h1 : am_ob m r0 8) (h2 : m.2.1 r0 14 = some p1) (h3 : m.2.1 r0 20 = some p2) (h4 : am_ar m p2 101 n_p2) (h7 : am_arw m p1 101 n_p1) (k1 : (4 ≤ i5) → Q (.inl (some (lV (l3)))) m) (k2 : ¬ (4 ≤ i5) → X G dp a b M9_riskWith 77 [some (rV (some r0)), some (iV (i1)), some (iV (i2)), some (lV (l3)), none, some (iV (wr (i5 + 1)))] [] ((u2 m.1 p1 (wr ((wr (4 * i1)) + i5)).toNat (m.1 p2 (i5).toNat)), m.2.1, m.2.2) Q) (h5 : ¬ (4 ≤ i5) → 0 ≤ i5 := by intros; first | omega | (dsimp only at *; omega)) (h6 : ¬ (4 ≤ i5) → i5 < (n_p2 : Int) := by intros; first | omega | (dsimp only at *; omega)) (h8 : ¬ (4 ≤ i5) → 0 ≤ wr ((wr (4 * i1)) + i5) := by intros; first | omega | (dsimp only at *; omega)) (h9 : ¬ (4 ≤ i5) → wr ((wr (4 * i1)) + i5) < (n_p1 : Int) := by intros; first | omega | (dsimp only at *; omega)) : X G dp a b M9_riskWith 77 [some (rV (some r0)), some (iV (i1)), some (iV (i2)), some (lV (l3)), none, some (iV (i5))] [] m Q := by
  refine X_iload dX9_riskWith_77 rfl ?_
  refine Y_iconst dX9_riskWith_79 (by unfold i32; omega) ?_
  refine X_icmp_ge (tgt := 107) dX9_riskWith_80 (by decide) (fun c1 => ?_) (fun c1 => ?_)
  · refine X_lload_n dX9_riskWith_107 rfl rfl ?_
    exact X_lret dX9_riskWith_108 rfl (k1 c1)
  · refine X_aload_n dX9_riskWith_83 rfl rfl ?_
    refine X_getP dX9_riskWith_84 fl_9_43 rfl h1 ?_
    refine am_ptr h2 ?_
    refine Y_iconst dX9_riskWith_87 (by unfold i32; omega) ?_
    refine X_iload_n dX9_riskWith_88 rfl rfl ?_
    refine X_imul dX9_riskWith_89  ?_
    refine X_iload dX9_riskWith_90 rfl ?_
    refine X_iadd dX9_riskWith_92  ?_
    refine X_aload_n dX9_riskWith_93 rfl rfl ?_
    refine X_getP dX9_riskWith_94 fl_9_56 rfl h1 ?_
    refine am_ptr h3 ?_
    refine X_iload dX9_riskWith_97 rfl ?_
    refine X_lald dX9_riskWith_99 h4 (h5 c1) (h6 c1) ?_
    refine X_last dX9_riskWith_100 h7 (h8 c1) (h9 c1) ?_
    refine X_iinc dX9_riskWith_101 rfl ?_
    refine X_goto (tgt := 77) dX9_riskWith_104 (by decide) ?_
    exact (k2 c1)

theorem s9_next_0 {G : am_G} {dp a b : Nat} {m : am_M} {Q : am_Q} {i1 i2 : Int} {r0 : Nat} (hdp : 1 ≤ dp) (h1 : am_obw m r0 8) (k1 : ∀ Q' : am_Q, (∀ (z : Int) (m' : am_M), X G dp a b M9_next 10 [some (rV (some r0)), some (iV (i1)), some (iV (i2))] [iV (z)] m' Q → Q' (.inl (some (iV (z)))) m') → T G (dp - 1) 0 0 M9_isRace [rV (some r0), iV (i1)] ((u2 m.1 r0 7 (0)), m.2.1, m.2.2) Q')  : X G dp a b M9_next 0 [some (rV (some r0)), some (iV (i1)), some (iV (i2))] [] m Q := by
  refine X_aload_n dX9_next_0 rfl rfl ?_
  refine Y_iconst dX9_next_1 (by unfold i32; omega) ?_
  refine X_putI dX9_next_2 fw_9_73 rfl h1 ?_
  refine X_aload_n dX9_next_5 rfl rfl ?_
  refine X_iload_n dX9_next_6 rfl rfl ?_
  exact X_callV (As := [iV (i1)]) (rest := []) (a' := 0) (b' := 0) dX9_next_7 t9_isRace ml_9_240 (am_ow h1) rfl rfl (Nat.le_of_ble_eq_true rfl) rfl hdp (Nat.zero_le _) (Nat.zero_le _) (k1 _ (fun z m' h => h))

theorem s9_next_10 {G : am_G} {dp a b : Nat} {m : am_M} {Q : am_Q} {i1 i2 i90 : Int} {r0 : Nat} (hdp : 1 ≤ dp) (h1 : am_ob m r0 8) (k1 : (i90 = 0) → ∀ Q' : am_Q, (∀ (z : Int) (m' : am_M), X G dp a b M9_next 26 [some (rV (some r0)), some (iV (i1)), some (iV (i2))] [iV (z)] m' Q → Q' (.inl (some (iV (z)))) m') → T G (dp - 1) 0 0 M9_fail [rV (some r0), iV (1)] m Q') (k2 : ¬ (i90 = 0) → ∀ Q' : am_Q, (∀ (z : Int) (m' : am_M), X G dp a b M9_next 18 [some (rV (some r0)), some (iV (i1)), some (iV (i2))] [iV (z)] m' Q → Q' (.inl (some (iV (z)))) m') → T G (dp - 1) 0 0 M9_isBallot [rV (some r0), iV (i2)] m Q')  : X G dp a b M9_next 10 [some (rV (some r0)), some (iV (i1)), some (iV (i2))] [iV (i90)] m Q := by
  refine X_if_eq (tgt := 21) dX9_next_10 (by decide) (fun c1 => ?_) (fun c1 => ?_)
  · refine X_aload_n dX9_next_21 rfl rfl ?_
    refine Y_iconst dX9_next_22 (by unfold i32; omega) ?_
    exact X_callV (As := [iV (1)]) (rest := []) (a' := 0) (b' := 0) dX9_next_23 t9_fail ml_9_210 h1 rfl rfl (Nat.le_of_ble_eq_true rfl) rfl hdp (Nat.zero_le _) (Nat.zero_le _) ((k1 c1) _ (fun z m' h => h))
  · refine X_aload_n dX9_next_13 rfl rfl ?_
    refine X_iload_n dX9_next_14 rfl rfl ?_
    exact X_callV (As := [iV (i2)]) (rest := []) (a' := 0) (b' := 0) dX9_next_15 t9_isBallot ml_9_251 h1 rfl rfl (Nat.le_of_ble_eq_true rfl) rfl hdp (Nat.zero_le _) (Nat.zero_le _) ((k2 c1) _ (fun z m' h => h))

theorem s9_next_18 {G : am_G} {dp a b : Nat} {m : am_M} {Q : am_Q} {i1 i2 i90 : Int} {r0 : Nat} (hdp : 1 ≤ dp) (h1 : am_ob m r0 8) (k1 : ¬ (i90 = 0) → ∀ Q' : am_Q, (∀ (m' : am_M), X G dp a b M9_next 32 [some (rV (some r0)), some (iV (i1)), some (iV (i2))] [] m' Q → Q' (.inl none) m') → T G (dp - 1) 0 0 M9_goes [rV (some r0)] m Q') (k2 : (i90 = 0) → ∀ Q' : am_Q, (∀ (z : Int) (m' : am_M), X G dp a b M9_next 26 [some (rV (some r0)), some (iV (i1)), some (iV (i2))] [iV (z)] m' Q → Q' (.inl (some (iV (z)))) m') → T G (dp - 1) 0 0 M9_fail [rV (some r0), iV (1)] m Q')  : X G dp a b M9_next 18 [some (rV (some r0)), some (iV (i1)), some (iV (i2))] [iV (i90)] m Q := by
  refine X_if_ne (tgt := 28) dX9_next_18 (by decide) (fun c1 => ?_) (fun c1 => ?_)
  · refine X_aload_n dX9_next_28 rfl rfl ?_
    exact X_callV (As := []) (rest := []) (a' := 0) (b' := 0) dX9_next_29 t9_goes ml_9_213 h1 rfl rfl (Nat.le_of_ble_eq_true rfl) rfl hdp (Nat.zero_le _) (Nat.zero_le _) ((k1 c1) _ (fun m' h => h))
  · refine X_aload_n dX9_next_21 rfl rfl ?_
    refine Y_iconst dX9_next_22 (by unfold i32; omega) ?_
    exact X_callV (As := [iV (1)]) (rest := []) (a' := 0) (b' := 0) dX9_next_23 t9_fail ml_9_210 h1 rfl rfl (Nat.le_of_ble_eq_true rfl) rfl hdp (Nat.zero_le _) (Nat.zero_le _) ((k2 c1) _ (fun z m' h => h))

theorem s9_next_26 {G : am_G} {dp a b : Nat} {m : am_M} {Q : am_Q} {i1 i2 i90 : Int} {r0 : Nat}  (k1 : Q (.inl (some (lV (i90)))) m)  : X G dp a b M9_next 26 [some (rV (some r0)), some (iV (i1)), some (iV (i2))] [iV (i90)] m Q := by
  refine X_i2l dX9_next_26 ?_
  exact X_lret dX9_next_27 rfl k1

theorem s9_next_32 {G : am_G} {dp a b : Nat} {m : am_M} {Q : am_Q} {i1 i2 : Int} {r0 : Nat} (hdp : 1 ≤ dp) (h1 : am_ob m r0 8) (k1 : ∀ Q' : am_Q, (∀ (z : Int) (m' : am_M), X G dp a b M9_next 38 [some (rV (some r0)), some (iV (i1)), some (iV (i2))] [lV (z)] m' Q → Q' (.inl (some (lV (z)))) m') → T G (dp - 1) 0 0 M9_riskWith [rV (some r0), iV (i1), iV (i2)] m Q')  : X G dp a b M9_next 32 [some (rV (some r0)), some (iV (i1)), some (iV (i2))] [] m Q := by
  refine X_aload_n dX9_next_32 rfl rfl ?_
  refine X_iload_n dX9_next_33 rfl rfl ?_
  refine X_iload_n dX9_next_34 rfl rfl ?_
  exact X_callV (As := [iV (i1), iV (i2)]) (rest := []) (a' := 0) (b' := 0) dX9_next_35 t9_riskWith ml_9_254 h1 rfl rfl (Nat.le_of_ble_eq_true rfl) rfl hdp (Nat.zero_le _) (Nat.zero_le _) (k1 _ (fun z m' h => h))

theorem s9_next_38 {G : am_G} {dp a b : Nat} {m : am_M} {Q : am_Q} {i1 i2 l90 : Int} {r0 : Nat}  (k1 : Q (.inl (some (lV (l90)))) m)  : X G dp a b M9_next 38 [some (rV (some r0)), some (iV (i1)), some (iV (i2))] [lV (l90)] m Q := by
  exact X_lret dX9_next_38 rfl k1

theorem s9_worst_0 {G : am_G} {dp a b : Nat} {m : am_M} {Q : am_Q} {i1 : Int} {r0 : Nat} (hdp : 1 ≤ dp) (h1 : am_obw m r0 8) (k1 : ∀ Q' : am_Q, (∀ (z : Int) (m' : am_M), X G dp a b M9_worst 10 [some (rV (some r0)), some (iV (i1))] [iV (z)] m' Q → Q' (.inl (some (iV (z)))) m') → T G (dp - 1) 0 0 M9_isRace [rV (some r0), iV (i1)] ((u2 m.1 r0 7 (0)), m.2.1, m.2.2) Q')  : X G dp a b M9_worst 0 [some (rV (some r0)), some (iV (i1))] [] m Q := by
  refine X_aload_n dX9_worst_0 rfl rfl ?_
  refine Y_iconst dX9_worst_1 (by unfold i32; omega) ?_
  refine X_putI dX9_worst_2 fw_9_73 rfl h1 ?_
  refine X_aload_n dX9_worst_5 rfl rfl ?_
  refine X_iload_n dX9_worst_6 rfl rfl ?_
  exact X_callV (As := [iV (i1)]) (rest := []) (a' := 0) (b' := 0) dX9_worst_7 t9_isRace ml_9_240 (am_ow h1) rfl rfl (Nat.le_of_ble_eq_true rfl) rfl hdp (Nat.zero_le _) (Nat.zero_le _) (k1 _ (fun z m' h => h))

theorem s9_worst_10 {G : am_G} {dp a b : Nat} {m : am_M} {Q : am_Q} {i1 i90 : Int} {r0 : Nat} (hdp : 1 ≤ dp) (h1 : am_ob m r0 8) (k1 : ¬ (i90 = 0) → ∀ Q' : am_Q, (∀ (m' : am_M), X G dp a b M9_worst 23 [some (rV (some r0)), some (iV (i1))] [] m' Q → Q' (.inl none) m') → T G (dp - 1) 0 0 M9_goes [rV (some r0)] m Q') (k2 : (i90 = 0) → ∀ Q' : am_Q, (∀ (z : Int) (m' : am_M), X G dp a b M9_worst 18 [some (rV (some r0)), some (iV (i1))] [iV (z)] m' Q → Q' (.inl (some (iV (z)))) m') → T G (dp - 1) 0 0 M9_fail [rV (some r0), iV (1)] m Q')  : X G dp a b M9_worst 10 [some (rV (some r0)), some (iV (i1))] [iV (i90)] m Q := by
  refine X_if_ne (tgt := 19) dX9_worst_10 (by decide) (fun c1 => ?_) (fun c1 => ?_)
  · refine X_aload_n dX9_worst_19 rfl rfl ?_
    exact X_callV (As := []) (rest := []) (a' := 0) (b' := 0) dX9_worst_20 t9_goes ml_9_213 h1 rfl rfl (Nat.le_of_ble_eq_true rfl) rfl hdp (Nat.zero_le _) (Nat.zero_le _) ((k1 c1) _ (fun m' h => h))
  · refine X_aload_n dX9_worst_13 rfl rfl ?_
    refine Y_iconst dX9_worst_14 (by unfold i32; omega) ?_
    exact X_callV (As := [iV (1)]) (rest := []) (a' := 0) (b' := 0) dX9_worst_15 t9_fail ml_9_210 h1 rfl rfl (Nat.le_of_ble_eq_true rfl) rfl hdp (Nat.zero_le _) (Nat.zero_le _) ((k2 c1) _ (fun z m' h => h))

theorem s9_worst_18 {G : am_G} {dp a b : Nat} {m : am_M} {Q : am_Q} {i1 i90 : Int} {r0 : Nat}  (k1 : Q (.inl (some (iV (i90)))) m)  : X G dp a b M9_worst 18 [some (rV (some r0)), some (iV (i1))] [iV (i90)] m Q := by
  exact X_iret dX9_worst_18 rfl k1

theorem s9_worst_23 {G : am_G} {dp a b : Nat} {m : am_M} {Q : am_Q} {i1 : Int} {r0 : Nat} (hdp : 1 ≤ dp) (h1 : am_ob m r0 8) (k1 : ∀ Q' : am_Q, (∀ (z : Int) (m' : am_M), X G dp a b M9_worst 28 [some (rV (some r0)), some (iV (i1))] [iV (z)] m' Q → Q' (.inl (some (iV (z)))) m') → T G (dp - 1) 0 0 M9_worstOf [rV (some r0), iV (i1)] m Q')  : X G dp a b M9_worst 23 [some (rV (some r0)), some (iV (i1))] [] m Q := by
  refine X_aload_n dX9_worst_23 rfl rfl ?_
  refine X_iload_n dX9_worst_24 rfl rfl ?_
  exact X_callV (As := [iV (i1)]) (rest := []) (a' := 0) (b' := 0) dX9_worst_25 t9_worstOf ml_9_258 h1 rfl rfl (Nat.le_of_ble_eq_true rfl) rfl hdp (Nat.zero_le _) (Nat.zero_le _) (k1 _ (fun z m' h => h))

theorem s9_worst_28 {G : am_G} {dp a b : Nat} {m : am_M} {Q : am_Q} {i1 i90 : Int} {r0 : Nat}  (k1 : Q (.inl (some (iV (i90)))) m)  : X G dp a b M9_worst 28 [some (rV (some r0)), some (iV (i1))] [iV (i90)] m Q := by
  exact X_iret dX9_worst_28 rfl k1

theorem s9_worstOf_0 {G : am_G} {dp a b : Nat} {m : am_M} {Q : am_Q} {i1 : Int} {r0 : Nat} {o2 o3 o4 o5 o6 o7 : Option am_V}  (k1 : X G dp a b M9_worstOf 7 [some (rV (some r0)), some (iV (i1)), some (iV ((-1))), some (lV (0)), none, some (iV (0)), o6, o7] [] m Q)  : X G dp a b M9_worstOf 0 [some (rV (some r0)), some (iV (i1)), o2, o3, o4, o5, o6, o7] [] m Q := by
  refine Y_iconst dX9_worstOf_0 (by unfold i32; omega) ?_
  refine X_istore_n dX9_worstOf_1 rfl (Nat.le_of_ble_eq_true rfl) ?_
  refine Y_lconst0 dX9_worstOf_2 ?_
  refine X_lstore_n dX9_worstOf_3 rfl (Nat.le_of_ble_eq_true rfl) ?_
  refine Y_iconst dX9_worstOf_4 (by unfold i32; omega) ?_
  refine X_istore dX9_worstOf_5 (Nat.le_of_ble_eq_true rfl) ?_
  exact k1

theorem s9_worstOf_7 {G : am_G} {dp a b : Nat} {m : am_M} {Q : am_Q} {i1 i2 i5 l3 : Int} {r0 : Nat} {o6 o7 : Option am_V} (hdp : 1 ≤ dp) (h1 : am_ob m r0 8) (k1 : ∀ Q' : am_Q, (∀ (z : Int) (m' : am_M), X G dp a b M9_worstOf 13 [some (rV (some r0)), some (iV (i1)), some (iV (i2)), some (lV (l3)), none, some (iV (i5)), o6, o7] [iV (z), iV (i5)] m' Q → Q' (.inl (some (iV (z)))) m') → T G (dp - 1) 0 0 M9_ballots [rV (some r0)] m Q')  : X G dp a b M9_worstOf 7 [some (rV (some r0)), some (iV (i1)), some (iV (i2)), some (lV (l3)), none, some (iV (i5)), o6, o7] [] m Q := by
  refine X_iload dX9_worstOf_7 rfl ?_
  refine X_aload_n dX9_worstOf_9 rfl rfl ?_
  exact X_callV (As := []) (rest := [iV (i5)]) (a' := 0) (b' := 0) dX9_worstOf_10 t9_ballots ml_9_84 h1 rfl rfl (Nat.le_of_ble_eq_true rfl) rfl hdp (Nat.zero_le _) (Nat.zero_le _) (k1 _ (fun z m' h => h))

theorem s9_worstOf_13 {G : am_G} {dp a b : Nat} {m : am_M} {Q : am_Q} {i1 i2 i5 i90 i91 l3 : Int} {r0 : Nat} {o6 o7 : Option am_V} (hdp : 1 ≤ dp) (h1 : am_ob m r0 8) (k1 : (i90 ≤ i91) → Q (.inl (some (iV (i2)))) m) (k2 : ¬ (i90 ≤ i91) → ∀ Q' : am_Q, (∀ (z : Int) (m' : am_M), X G dp a b M9_worstOf 23 [some (rV (some r0)), some (iV (i1)), some (iV (i2)), some (lV (l3)), none, some (iV (i5)), o6, o7] [lV (z)] m' Q → Q' (.inl (some (lV (z)))) m') → T G (dp - 1) 0 0 M9_riskWith [rV (some r0), iV (i1), iV (i5)] m Q')  : X G dp a b M9_worstOf 13 [some (rV (some r0)), some (iV (i1)), some (iV (i2)), some (lV (l3)), none, some (iV (i5)), o6, o7] [iV (i90), iV (i91)] m Q := by
  refine X_icmp_ge (tgt := 52) dX9_worstOf_13 (by decide) (fun c1 => ?_) (fun c1 => ?_)
  · refine X_iload_n dX9_worstOf_52 rfl rfl ?_
    exact X_iret dX9_worstOf_53 rfl (k1 c1)
  · refine X_aload_n dX9_worstOf_16 rfl rfl ?_
    refine X_iload_n dX9_worstOf_17 rfl rfl ?_
    refine X_iload dX9_worstOf_18 rfl ?_
    exact X_callV (As := [iV (i1), iV (i5)]) (rest := []) (a' := 0) (b' := 0) dX9_worstOf_20 t9_riskWith ml_9_254 h1 rfl rfl (Nat.le_of_ble_eq_true rfl) rfl hdp (Nat.zero_le _) (Nat.zero_le _) ((k2 c1) _ (fun z m' h => h))

theorem s9_worstOf_23 {G : am_G} {dp a b : Nat} {m : am_M} {Q : am_Q} {i1 i2 i5 l3 l90 : Int} {r0 : Nat} {o6 o7 : Option am_V}  (k1 : (i2 = (-1)) → X G dp a b M9_worstOf 7 [some (rV (some r0)), some (iV (i1)), some (iV (i5)), some (lV (l90)), none, some (iV (wr (i5 + 1))), some (lV (l90)), none] [] m Q) (k2 : ¬ (i2 = (-1)) → (0 < (lc l90 l3)) → X G dp a b M9_worstOf 7 [some (rV (some r0)), some (iV (i1)), some (iV (i5)), some (lV (l90)), none, some (iV (wr (i5 + 1))), some (lV (l90)), none] [] m Q) (k3 : ¬ (i2 = (-1)) → ¬ (0 < (lc l90 l3)) → X G dp a b M9_worstOf 7 [some (rV (some r0)), some (iV (i1)), some (iV (i2)), some (lV (l3)), none, some (iV (wr (i5 + 1))), some (lV (l90)), none] [] m Q)  : X G dp a b M9_worstOf 23 [some (rV (some r0)), some (iV (i1)), some (iV (i2)), some (lV (l3)), none, some (iV (i5)), o6, o7] [lV (l90)] m Q := by
  refine X_lstore dX9_worstOf_23 (Nat.le_of_ble_eq_true rfl) ?_
  refine X_iload_n dX9_worstOf_25 rfl rfl ?_
  refine Y_iconst dX9_worstOf_26 (by unfold i32; omega) ?_
  refine X_icmp_eq (tgt := 40) dX9_worstOf_27 (by decide) (fun c1 => ?_) (fun c1 => ?_)
  · refine X_iload dX9_worstOf_40 rfl ?_
    refine X_istore_n dX9_worstOf_42 rfl (Nat.le_of_ble_eq_true rfl) ?_
    refine X_lload dX9_worstOf_43 rfl ?_
    refine X_lstore_n dX9_worstOf_45 rfl (Nat.le_of_ble_eq_true rfl) ?_
    refine X_iinc dX9_worstOf_46 rfl ?_
    refine X_goto (tgt := 7) dX9_worstOf_49 (by decide) ?_
    exact (k1 c1)
  · refine X_lload dX9_worstOf_30 rfl ?_
    refine X_lload_n dX9_worstOf_32 rfl rfl ?_
    refine X_lcmp dX9_worstOf_33 ?_
    refine X_if_gt (tgt := 40) dX9_worstOf_34 (by decide) (fun c2 => ?_) (fun c2 => ?_)
    · refine X_iload dX9_worstOf_40 rfl ?_
      refine X_istore_n dX9_worstOf_42 rfl (Nat.le_of_ble_eq_true rfl) ?_
      refine X_lload dX9_worstOf_43 rfl ?_
      refine X_lstore_n dX9_worstOf_45 rfl (Nat.le_of_ble_eq_true rfl) ?_
      refine X_iinc dX9_worstOf_46 rfl ?_
      refine X_goto (tgt := 7) dX9_worstOf_49 (by decide) ?_
      exact (k2 c1 c2)
    · refine X_goto (tgt := 46) dX9_worstOf_37 (by decide) ?_
      refine X_iinc dX9_worstOf_46 rfl ?_
      refine X_goto (tgt := 7) dX9_worstOf_49 (by decide) ?_
      exact (k3 c1 c2)

theorem s9_clean_0 {G : am_G} {dp a b : Nat} {m : am_M} {Q : am_Q} {i1 : Int} {r0 : Nat} {o2 o3 : Option am_V}  (k1 : X G dp a b M9_clean 4 [some (rV (some r0)), some (iV (i1)), some (iV (0)), some (iV (0))] [] m Q)  : X G dp a b M9_clean 0 [some (rV (some r0)), some (iV (i1)), o2, o3] [] m Q := by
  refine Y_iconst dX9_clean_0 (by unfold i32; omega) ?_
  refine X_istore_n dX9_clean_1 rfl (Nat.le_of_ble_eq_true rfl) ?_
  refine Y_iconst dX9_clean_2 (by unfold i32; omega) ?_
  refine X_istore_n dX9_clean_3 rfl (Nat.le_of_ble_eq_true rfl) ?_
  exact k1

theorem s9_clean_4 {G : am_G} {dp a b : Nat} {m : am_M} {Q : am_Q} {i1 i2 i3 : Int} {r0 : Nat} (hdp : 1 ≤ dp) (h1 : am_ob m r0 8) (k1 : ∀ Q' : am_Q, (∀ (z : Int) (m' : am_M), X G dp a b M9_clean 9 [some (rV (some r0)), some (iV (i1)), some (iV (i2)), some (iV (i3))] [iV (z), iV (i3)] m' Q → Q' (.inl (some (iV (z)))) m') → T G (dp - 1) 0 0 M9_ballots [rV (some r0)] m Q')  : X G dp a b M9_clean 4 [some (rV (some r0)), some (iV (i1)), some (iV (i2)), some (iV (i3))] [] m Q := by
  refine X_iload_n dX9_clean_4 rfl rfl ?_
  refine X_aload_n dX9_clean_5 rfl rfl ?_
  exact X_callV (As := []) (rest := [iV (i3)]) (a' := 0) (b' := 0) dX9_clean_6 t9_ballots ml_9_84 h1 rfl rfl (Nat.le_of_ble_eq_true rfl) rfl hdp (Nat.zero_le _) (Nat.zero_le _) (k1 _ (fun z m' h => h))

theorem s9_clean_9 {G : am_G} {dp a b : Nat} {m : am_M} {Q : am_Q} {i1 i2 i3 i90 i91 : Int} {r0 : Nat} (hdp : 1 ≤ dp) (h1 : am_ob m r0 8) (k1 : (i90 ≤ i91) → Q (.inl (some (iV (i2)))) m) (k2 : ¬ (i90 ≤ i91) → ∀ Q' : am_Q, (∀ (z : Int) (m' : am_M), X G dp a b M9_clean 18 [some (rV (some r0)), some (iV (i1)), some (iV (i2)), some (iV (i3))] [iV (z)] m' Q → Q' (.inl (some (iV (z)))) m') → T G (dp - 1) 0 0 M9_mistakeAt [rV (some r0), iV (i3), iV (i1)] m Q')  : X G dp a b M9_clean 9 [some (rV (some r0)), some (iV (i1)), some (iV (i2)), some (iV (i3))] [iV (i90), iV (i91)] m Q := by
  refine X_icmp_ge (tgt := 30) dX9_clean_9 (by decide) (fun c1 => ?_) (fun c1 => ?_)
  · refine X_iload_n dX9_clean_30 rfl rfl ?_
    exact X_iret dX9_clean_31 rfl (k1 c1)
  · refine X_aload_n dX9_clean_12 rfl rfl ?_
    refine X_iload_n dX9_clean_13 rfl rfl ?_
    refine X_iload_n dX9_clean_14 rfl rfl ?_
    exact X_callV (As := [iV (i3), iV (i1)]) (rest := []) (a' := 0) (b' := 0) dX9_clean_15 t9_mistakeAt ml_9_172 h1 rfl rfl (Nat.le_of_ble_eq_true rfl) rfl hdp (Nat.zero_le _) (Nat.zero_le _) ((k2 c1) _ (fun z m' h => h))

theorem s9_clean_18 {G : am_G} {dp a b : Nat} {m : am_M} {Q : am_Q} {i1 i2 i3 i90 : Int} {r0 : Nat}  (k1 : (0 < i90) → X G dp a b M9_clean 4 [some (rV (some r0)), some (iV (i1)), some (iV (i2)), some (iV (wr (i3 + 1)))] [] m Q) (k2 : ¬ (0 < i90) → X G dp a b M9_clean 4 [some (rV (some r0)), some (iV (i1)), some (iV (wr (i2 + 1))), some (iV (wr (i3 + 1)))] [] m Q)  : X G dp a b M9_clean 18 [some (rV (some r0)), some (iV (i1)), some (iV (i2)), some (iV (i3))] [iV (i90)] m Q := by
  refine X_if_gt (tgt := 24) dX9_clean_18 (by decide) (fun c1 => ?_) (fun c1 => ?_)
  · refine X_iinc dX9_clean_24 rfl ?_
    refine X_goto (tgt := 4) dX9_clean_27 (by decide) ?_
    exact (k1 c1)
  · refine X_iinc dX9_clean_21 rfl ?_
    refine X_iinc dX9_clean_24 rfl ?_
    refine X_goto (tgt := 4) dX9_clean_27 (by decide) ?_
    exact (k2 c1)

theorem s9_chanceBehind_0 {G : am_G} {dp a b : Nat} {m : am_M} {Q : am_Q} {i3 l1 : Int} {r0 : Nat} (hdp : 1 ≤ dp) (h1 : am_ob m r0 8) (k1 : ∀ Q' : am_Q, (∀ (z : Int) (m' : am_M), X G dp a b M9_chanceBehind 4 [some (rV (some r0)), some (lV (l1)), none, some (iV (i3))] [iV (z)] m' Q → Q' (.inl (some (iV (z)))) m') → T G (dp - 1) 0 0 M9_ballots [rV (some r0)] m Q')  : X G dp a b M9_chanceBehind 0 [some (rV (some r0)), some (lV (l1)), none, some (iV (i3))] [] m Q := by
  refine X_aload_n dX9_chanceBehind_0 rfl rfl ?_
  exact X_callV (As := []) (rest := []) (a' := 0) (b' := 0) dX9_chanceBehind_1 t9_ballots ml_9_84 h1 rfl rfl (Nat.le_of_ble_eq_true rfl) rfl hdp (Nat.zero_le _) (Nat.zero_le _) (k1 _ (fun z m' h => h))

theorem s9_chanceBehind_4 {G : am_G} {dp a b : Nat} {m : am_M} {Q : am_Q} {i3 i90 l1 : Int} {r0 : Nat} (hdp : 1 ≤ dp) (h1 : am_ob m r0 8) (k1 : ¬ (i90 = 0) → ∀ Q' : am_Q, (∀ (z : Int) (m' : am_M), X G dp a b M9_chanceBehind 17 [some (rV (some r0)), some (lV (l1)), none, some (iV (i3))] [iV (z), lV (wrl (l1 * i3))] m' Q → Q' (.inl (some (iV (z)))) m') → T G (dp - 1) 0 0 M9_ballots [rV (some r0)] m Q') (k2 : (i90 = 0) → Q (.inl (some (lV (l1)))) m)  : X G dp a b M9_chanceBehind 4 [some (rV (some r0)), some (lV (l1)), none, some (iV (i3))] [iV (i90)] m Q := by
  refine X_if_ne (tgt := 9) dX9_chanceBehind_4 (by decide) (fun c1 => ?_) (fun c1 => ?_)
  · refine X_lload_n dX9_chanceBehind_9 rfl rfl ?_
    refine X_iload_n dX9_chanceBehind_10 rfl rfl ?_
    refine X_i2l dX9_chanceBehind_11 ?_
    refine X_lmul dX9_chanceBehind_12  ?_
    refine X_aload_n dX9_chanceBehind_13 rfl rfl ?_
    exact X_callV (As := []) (rest := [lV (wrl (l1 * i3))]) (a' := 0) (b' := 0) dX9_chanceBehind_14 t9_ballots ml_9_84 h1 rfl rfl (Nat.le_of_ble_eq_true rfl) rfl hdp (Nat.zero_le _) (Nat.zero_le _) ((k1 c1) _ (fun z m' h => h))
  · refine X_lload_n dX9_chanceBehind_7 rfl rfl ?_
    exact X_lret dX9_chanceBehind_8 rfl (k2 c1)

theorem s9_chanceBehind_17 {G : am_G} {dp a b : Nat} {m : am_M} {Q : am_Q} {i3 i90 l1 l91 : Int} {r0 : Nat} (hdp : 1 ≤ dp) (h1 : am_ob m r0 8) (k1 : ∀ Q' : am_Q, (∀ (z : Int) (m' : am_M), X G dp a b M9_chanceBehind 25 [some (rV (some r0)), some (lV (l1)), none, some (iV (i3))] [iV (z), lV (wrl ((wrl (l91 + i90)) - 1))] m' Q → Q' (.inl (some (iV (z)))) m') → T G (dp - 1) 0 0 M9_ballots [rV (some r0)] m Q')  : X G dp a b M9_chanceBehind 17 [some (rV (some r0)), some (lV (l1)), none, some (iV (i3))] [iV (i90), lV (l91)] m Q := by
  refine X_i2l dX9_chanceBehind_17 ?_
  refine X_ladd dX9_chanceBehind_18  ?_
  refine Y_lconst1 dX9_chanceBehind_19 ?_
  refine X_lsub dX9_chanceBehind_20  ?_
  refine X_aload_n dX9_chanceBehind_21 rfl rfl ?_
  exact X_callV (As := []) (rest := [lV (wrl ((wrl (l91 + i90)) - 1))]) (a' := 0) (b' := 0) dX9_chanceBehind_22 t9_ballots ml_9_84 h1 rfl rfl (Nat.le_of_ble_eq_true rfl) rfl hdp (Nat.zero_le _) (Nat.zero_le _) (k1 _ (fun z m' h => h))

theorem s9_chanceBehind_25 {G : am_G} {dp a b : Nat} {m : am_M} {Q : am_Q} {i3 i90 l1 l91 : Int} {r0 : Nat}  (k1 : Q (.inl (some (lV (wrl (Int.tdiv l91 i90))))) m) (h1 : i90 ≠ 0 := by intros; first | omega | (dsimp only at *; omega)) : X G dp a b M9_chanceBehind 25 [some (rV (some r0)), some (lV (l1)), none, some (iV (i3))] [iV (i90), lV (l91)] m Q := by
  refine X_i2l dX9_chanceBehind_25 ?_
  refine X_ldiv dX9_chanceBehind_26 h1 ?_
  exact X_lret dX9_chanceBehind_27 rfl k1

theorem s9_chance_0 {G : am_G} {dp a b : Nat} {m : am_M} {Q : am_Q} {i1 i2 : Int} {r0 : Nat} {o3 o4 o5 o6 : Option am_V} (hdp : 1 ≤ dp) (h1 : am_ob m r0 8) (k1 : ∀ Q' : am_Q, (∀ (z : Int) (m' : am_M), X G dp a b M9_chance 6 [some (rV (some r0)), some (iV (i1)), some (iV (i2)), o3, o4, o5, o6] [iV (z), rV (some r0)] m' Q → Q' (.inl (some (iV (z)))) m') → T G (dp - 1) 0 0 M9_isRace [rV (some r0), iV (i1)] m Q')  : X G dp a b M9_chance 0 [some (rV (some r0)), some (iV (i1)), some (iV (i2)), o3, o4, o5, o6] [] m Q := by
  refine X_aload_n dX9_chance_0 rfl rfl ?_
  refine X_aload_n dX9_chance_1 rfl rfl ?_
  refine X_iload_n dX9_chance_2 rfl rfl ?_
  exact X_callV (As := [iV (i1)]) (rest := [rV (some r0)]) (a' := 0) (b' := 0) dX9_chance_3 t9_isRace ml_9_240 h1 rfl rfl (Nat.le_of_ble_eq_true rfl) rfl hdp (Nat.zero_le _) (Nat.zero_le _) (k1 _ (fun z m' h => h))

theorem s9_chance_6 {G : am_G} {dp a b : Nat} {m : am_M} {Q : am_Q} {i1 i2 i90 : Int} {r0 r91 : Nat} {o3 o4 o5 o6 : Option am_V} (hdp : 1 ≤ dp) (h1 : am_obw m r91 8) (h2 : am_ob m r0 8) (k1 : ¬ (i90 = 0) → ∀ Q' : am_Q, (∀ (z : Int) (m' : am_M), X G dp a b M9_chance 21 [some (rV (some r0)), some (iV (i1)), some (iV (i2)), o3, o4, o5, o6] [iV (z), rV (some r91)] m' Q → Q' (.inl (some (iV (z)))) m') → T G (dp - 1) 0 0 M9_isIn [iV (i2), iV (0), iV (300)] m Q') (k2 : (i90 = 0) → (((u2 m.1 r91 7 (1)) r0 7) ≤ 0) → ∀ Q' : am_Q, (∀ (m' : am_M), X G dp a b M9_chance 45 [some (rV (some r0)), some (iV (i1)), some (iV (i2)), o3, o4, o5, o6] [] m' Q → Q' (.inl none) m') → T G (dp - 1) 0 0 M9_layRaces [rV (some r0)] ((u2 m.1 r91 7 (1)), m.2.1, m.2.2) Q') (k3 : (i90 = 0) → ¬ (((u2 m.1 r91 7 (1)) r0 7) ≤ 0) → Q (.inl (some (lV (0)))) ((u2 m.1 r91 7 (1)), m.2.1, m.2.2))  : X G dp a b M9_chance 6 [some (rV (some r0)), some (iV (i1)), some (iV (i2)), o3, o4, o5, o6] [iV (i90), rV (some r91)] m Q := by
  refine X_if_ne (tgt := 13) dX9_chance_6 (by decide) (fun c1 => ?_) (fun c1 => ?_)
  · refine X_iload_n dX9_chance_13 rfl rfl ?_
    refine Y_iconst dX9_chance_14 (by unfold i32; omega) ?_
    refine Y_sipush dX9_chance_15 (by omega) ?_
    exact X_callS (As := [iV (i2), iV (0), iV (300)]) (rest := [rV (some r91)]) (a' := 0) (b' := 0) dX9_chance_18 t9_isIn ml_9_80 rfl rfl (Nat.le_of_ble_eq_true rfl) rfl hdp (Nat.zero_le _) (Nat.zero_le _) ((k1 c1) _ (fun z m' h => h))
  · refine Y_iconst dX9_chance_9 (by unfold i32; omega) ?_
    refine X_goto (tgt := 29) dX9_chance_10 (by decide) ?_
    refine X_putI dX9_chance_29 fw_9_73 rfl h1 ?_
    refine X_aload_n dX9_chance_32 rfl rfl ?_
    refine X_getI dX9_chance_33 fl_9_73 (by decide) h2 ?_
    refine X_if_le (tgt := 41) dX9_chance_36 (by decide) (fun c2 => ?_) (fun c2 => ?_)
    · refine X_aload_n dX9_chance_41 rfl rfl ?_
      exact X_callV (As := []) (rest := []) (a' := 0) (b' := 0) dX9_chance_42 t9_layRaces ml_9_186 h2 rfl rfl (Nat.le_of_ble_eq_true rfl) rfl hdp (Nat.zero_le _) (Nat.zero_le _) ((k2 c1 c2) _ (fun m' h => h))
    · refine Y_lconst0 dX9_chance_39 ?_
      exact X_lret dX9_chance_40 rfl (k3 c1 c2)

theorem s9_chance_21 {G : am_G} {dp a b : Nat} {m : am_M} {Q : am_Q} {i1 i2 i90 : Int} {r0 r91 : Nat} {o3 o4 o5 o6 : Option am_V} (hdp : 1 ≤ dp) (h1 : am_obw m r91 8) (h2 : am_ob m r0 8) (k1 : ¬ (i90 = 0) → (((u2 m.1 r91 7 (0)) r0 7) ≤ 0) → ∀ Q' : am_Q, (∀ (m' : am_M), X G dp a b M9_chance 45 [some (rV (some r0)), some (iV (i1)), some (iV (i2)), o3, o4, o5, o6] [] m' Q → Q' (.inl none) m') → T G (dp - 1) 0 0 M9_layRaces [rV (some r0)] ((u2 m.1 r91 7 (0)), m.2.1, m.2.2) Q') (k2 : ¬ (i90 = 0) → ¬ (((u2 m.1 r91 7 (0)) r0 7) ≤ 0) → Q (.inl (some (lV (0)))) ((u2 m.1 r91 7 (0)), m.2.1, m.2.2)) (k3 : (i90 = 0) → (((u2 m.1 r91 7 (2)) r0 7) ≤ 0) → ∀ Q' : am_Q, (∀ (m' : am_M), X G dp a b M9_chance 45 [some (rV (some r0)), some (iV (i1)), some (iV (i2)), o3, o4, o5, o6] [] m' Q → Q' (.inl none) m') → T G (dp - 1) 0 0 M9_layRaces [rV (some r0)] ((u2 m.1 r91 7 (2)), m.2.1, m.2.2) Q') (k4 : (i90 = 0) → ¬ (((u2 m.1 r91 7 (2)) r0 7) ≤ 0) → Q (.inl (some (lV (0)))) ((u2 m.1 r91 7 (2)), m.2.1, m.2.2))  : X G dp a b M9_chance 21 [some (rV (some r0)), some (iV (i1)), some (iV (i2)), o3, o4, o5, o6] [iV (i90), rV (some r91)] m Q := by
  refine X_if_ne (tgt := 28) dX9_chance_21 (by decide) (fun c1 => ?_) (fun c1 => ?_)
  · refine Y_iconst dX9_chance_28 (by unfold i32; omega) ?_
    refine X_putI dX9_chance_29 fw_9_73 rfl h1 ?_
    refine X_aload_n dX9_chance_32 rfl rfl ?_
    refine X_getI dX9_chance_33 fl_9_73 (by decide) h2 ?_
    refine X_if_le (tgt := 41) dX9_chance_36 (by decide) (fun c2 => ?_) (fun c2 => ?_)
    · refine X_aload_n dX9_chance_41 rfl rfl ?_
      exact X_callV (As := []) (rest := []) (a' := 0) (b' := 0) dX9_chance_42 t9_layRaces ml_9_186 h2 rfl rfl (Nat.le_of_ble_eq_true rfl) rfl hdp (Nat.zero_le _) (Nat.zero_le _) ((k1 c1 c2) _ (fun m' h => h))
    · refine Y_lconst0 dX9_chance_39 ?_
      exact X_lret dX9_chance_40 rfl (k2 c1 c2)
  · refine Y_iconst dX9_chance_24 (by unfold i32; omega) ?_
    refine X_goto (tgt := 29) dX9_chance_25 (by decide) ?_
    refine X_putI dX9_chance_29 fw_9_73 rfl h1 ?_
    refine X_aload_n dX9_chance_32 rfl rfl ?_
    refine X_getI dX9_chance_33 fl_9_73 (by decide) h2 ?_
    refine X_if_le (tgt := 41) dX9_chance_36 (by decide) (fun c3 => ?_) (fun c3 => ?_)
    · refine X_aload_n dX9_chance_41 rfl rfl ?_
      exact X_callV (As := []) (rest := []) (a' := 0) (b' := 0) dX9_chance_42 t9_layRaces ml_9_186 h2 rfl rfl (Nat.le_of_ble_eq_true rfl) rfl hdp (Nat.zero_le _) (Nat.zero_le _) ((k3 c1 c3) _ (fun m' h => h))
    · refine Y_lconst0 dX9_chance_39 ?_
      exact X_lret dX9_chance_40 rfl (k4 c1 c3)

theorem s9_chance_45 {G : am_G} {dp a b : Nat} {m : am_M} {Q : am_Q} {i1 i2 : Int} {r0 : Nat} {o3 o4 o5 o6 : Option am_V} (hdp : 1 ≤ dp) (h1 : am_ob m r0 8) (k1 : ∀ Q' : am_Q, (∀ (z : Int) (m' : am_M), X G dp a b M9_chance 50 [some (rV (some r0)), some (iV (i1)), some (iV (i2)), o3, o4, o5, o6] [iV (z)] m' Q → Q' (.inl (some (iV (z)))) m') → T G (dp - 1) 0 0 M9_clean [rV (some r0), iV (i1)] m Q')  : X G dp a b M9_chance 45 [some (rV (some r0)), some (iV (i1)), some (iV (i2)), o3, o4, o5, o6] [] m Q := by
  refine X_aload_n dX9_chance_45 rfl rfl ?_
  refine X_iload_n dX9_chance_46 rfl rfl ?_
  exact X_callV (As := [iV (i1)]) (rest := []) (a' := 0) (b' := 0) dX9_chance_47 t9_clean ml_9_261 h1 rfl rfl (Nat.le_of_ble_eq_true rfl) rfl hdp (Nat.zero_le _) (Nat.zero_le _) (k1 _ (fun z m' h => h))

theorem s9_chance_50 {G : am_G} {dp a b : Nat} {m : am_M} {Q : am_Q} {i1 i2 i90 : Int} {r0 : Nat} {o3 o4 o5 o6 : Option am_V}  (k1 : X G dp a b M9_chance 59 [some (rV (some r0)), some (iV (i1)), some (iV (i2)), some (iV (i90)), some (lV (1000000000)), none, some (iV (0))] [] m Q)  : X G dp a b M9_chance 50 [some (rV (some r0)), some (iV (i1)), some (iV (i2)), o3, o4, o5, o6] [iV (i90)] m Q := by
  refine X_istore_n dX9_chance_50 rfl (Nat.le_of_ble_eq_true rfl) ?_
  refine X_ldc2 dX9_chance_51 kc_9_153 (by unfold i64; omega) ?_
  refine X_lstore dX9_chance_54 (Nat.le_of_ble_eq_true rfl) ?_
  refine Y_iconst dX9_chance_56 (by unfold i32; omega) ?_
  refine X_istore dX9_chance_57 (Nat.le_of_ble_eq_true rfl) ?_
  exact k1

theorem s9_chance_59 {G : am_G} {dp a b : Nat} {m : am_M} {Q : am_Q} {i1 i2 i3 i6 l4 : Int} {r0 : Nat} (hdp : 1 ≤ dp) (h1 : am_ob m r0 8) (k1 : (i2 ≤ i6) → Q (.inl (some (lV (l4)))) m) (k2 : ¬ (i2 ≤ i6) → ∀ Q' : am_Q, (∀ (z : Int) (m' : am_M), X G dp a b M9_chance 72 [some (rV (some r0)), some (iV (i1)), some (iV (i2)), some (iV (i3)), some (lV (l4)), none, some (iV (i6))] [lV (z)] m' Q → Q' (.inl (some (lV (z)))) m') → T G (dp - 1) 0 0 M9_chanceBehind [rV (some r0), lV (l4), iV (i3)] m Q')  : X G dp a b M9_chance 59 [some (rV (some r0)), some (iV (i1)), some (iV (i2)), some (iV (i3)), some (lV (l4)), none, some (iV (i6))] [] m Q := by
  refine X_iload dX9_chance_59 rfl ?_
  refine X_iload_n dX9_chance_61 rfl rfl ?_
  refine X_icmp_ge (tgt := 80) dX9_chance_62 (by decide) (fun c1 => ?_) (fun c1 => ?_)
  · refine X_lload dX9_chance_80 rfl ?_
    exact X_lret dX9_chance_82 rfl (k1 c1)
  · refine X_aload_n dX9_chance_65 rfl rfl ?_
    refine X_lload dX9_chance_66 rfl ?_
    refine X_iload_n dX9_chance_68 rfl rfl ?_
    exact X_callV (As := [lV (l4), iV (i3)]) (rest := []) (a' := 0) (b' := 0) dX9_chance_69 t9_chanceBehind ml_9_264 h1 rfl rfl (Nat.le_of_ble_eq_true rfl) rfl hdp (Nat.zero_le _) (Nat.zero_le _) ((k2 c1) _ (fun z m' h => h))

theorem s9_chance_72 {G : am_G} {dp a b : Nat} {m : am_M} {Q : am_Q} {i1 i2 i3 i6 l4 l90 : Int} {r0 : Nat}  (k1 : X G dp a b M9_chance 59 [some (rV (some r0)), some (iV (i1)), some (iV (i2)), some (iV (i3)), some (lV (l90)), none, some (iV (wr (i6 + 1)))] [] m Q)  : X G dp a b M9_chance 72 [some (rV (some r0)), some (iV (i1)), some (iV (i2)), some (iV (i3)), some (lV (l4)), none, some (iV (i6))] [lV (l90)] m Q := by
  refine X_lstore dX9_chance_72 (Nat.le_of_ble_eq_true rfl) ?_
  refine X_iinc dX9_chance_74 rfl ?_
  refine X_goto (tgt := 59) dX9_chance_77 (by decide) ?_
  exact k1

theorem s9_enough_0 {G : am_G} {dp a b : Nat} {m : am_M} {Q : am_Q} {i1 : Int} {r0 : Nat} {o2 o3 o4 o5 : Option am_V} (hdp : 1 ≤ dp) (h1 : am_obw m r0 8) (k1 : ∀ Q' : am_Q, (∀ (z : Int) (m' : am_M), X G dp a b M9_enough 10 [some (rV (some r0)), some (iV (i1)), o2, o3, o4, o5] [iV (z)] m' Q → Q' (.inl (some (iV (z)))) m') → T G (dp - 1) 0 0 M9_isRace [rV (some r0), iV (i1)] ((u2 m.1 r0 7 (0)), m.2.1, m.2.2) Q')  : X G dp a b M9_enough 0 [some (rV (some r0)), some (iV (i1)), o2, o3, o4, o5] [] m Q := by
  refine X_aload_n dX9_enough_0 rfl rfl ?_
  refine Y_iconst dX9_enough_1 (by unfold i32; omega) ?_
  refine X_putI dX9_enough_2 fw_9_73 rfl h1 ?_
  refine X_aload_n dX9_enough_5 rfl rfl ?_
  refine X_iload_n dX9_enough_6 rfl rfl ?_
  exact X_callV (As := [iV (i1)]) (rest := []) (a' := 0) (b' := 0) dX9_enough_7 t9_isRace ml_9_240 (am_ow h1) rfl rfl (Nat.le_of_ble_eq_true rfl) rfl hdp (Nat.zero_le _) (Nat.zero_le _) (k1 _ (fun z m' h => h))

theorem s9_enough_10 {G : am_G} {dp a b : Nat} {m : am_M} {Q : am_Q} {i1 i90 : Int} {r0 : Nat} {o2 o3 o4 o5 : Option am_V} (hdp : 1 ≤ dp) (h1 : am_ob m r0 8) (k1 : ¬ (i90 = 0) → ∀ Q' : am_Q, (∀ (m' : am_M), X G dp a b M9_enough 23 [some (rV (some r0)), some (iV (i1)), o2, o3, o4, o5] [] m' Q → Q' (.inl none) m') → T G (dp - 1) 0 0 M9_layRaces [rV (some r0)] m Q') (k2 : (i90 = 0) → ∀ Q' : am_Q, (∀ (z : Int) (m' : am_M), X G dp a b M9_enough 18 [some (rV (some r0)), some (iV (i1)), o2, o3, o4, o5] [iV (z)] m' Q → Q' (.inl (some (iV (z)))) m') → T G (dp - 1) 0 0 M9_fail [rV (some r0), iV (1)] m Q')  : X G dp a b M9_enough 10 [some (rV (some r0)), some (iV (i1)), o2, o3, o4, o5] [iV (i90)] m Q := by
  refine X_if_ne (tgt := 19) dX9_enough_10 (by decide) (fun c1 => ?_) (fun c1 => ?_)
  · refine X_aload_n dX9_enough_19 rfl rfl ?_
    exact X_callV (As := []) (rest := []) (a' := 0) (b' := 0) dX9_enough_20 t9_layRaces ml_9_186 h1 rfl rfl (Nat.le_of_ble_eq_true rfl) rfl hdp (Nat.zero_le _) (Nat.zero_le _) ((k1 c1) _ (fun m' h => h))
  · refine X_aload_n dX9_enough_13 rfl rfl ?_
    refine Y_iconst dX9_enough_14 (by unfold i32; omega) ?_
    exact X_callV (As := [iV (1)]) (rest := []) (a' := 0) (b' := 0) dX9_enough_15 t9_fail ml_9_210 h1 rfl rfl (Nat.le_of_ble_eq_true rfl) rfl hdp (Nat.zero_le _) (Nat.zero_le _) ((k2 c1) _ (fun z m' h => h))

theorem s9_enough_18 {G : am_G} {dp a b : Nat} {m : am_M} {Q : am_Q} {i1 i90 : Int} {r0 : Nat} {o2 o3 o4 o5 : Option am_V}  (k1 : Q (.inl (some (iV (i90)))) m)  : X G dp a b M9_enough 18 [some (rV (some r0)), some (iV (i1)), o2, o3, o4, o5] [iV (i90)] m Q := by
  exact X_iret dX9_enough_18 rfl k1

theorem s9_enough_23 {G : am_G} {dp a b : Nat} {m : am_M} {Q : am_Q} {i1 : Int} {r0 : Nat} {o2 o3 o4 o5 : Option am_V} (hdp : 1 ≤ dp) (h1 : am_ob m r0 8) (k1 : ∀ Q' : am_Q, (∀ (z : Int) (m' : am_M), X G dp a b M9_enough 28 [some (rV (some r0)), some (iV (i1)), o2, o3, o4, o5] [iV (z)] m' Q → Q' (.inl (some (iV (z)))) m') → T G (dp - 1) 0 0 M9_clean [rV (some r0), iV (i1)] m Q')  : X G dp a b M9_enough 23 [some (rV (some r0)), some (iV (i1)), o2, o3, o4, o5] [] m Q := by
  refine X_aload_n dX9_enough_23 rfl rfl ?_
  refine X_iload_n dX9_enough_24 rfl rfl ?_
  exact X_callV (As := [iV (i1)]) (rest := []) (a' := 0) (b' := 0) dX9_enough_25 t9_clean ml_9_261 h1 rfl rfl (Nat.le_of_ble_eq_true rfl) rfl hdp (Nat.zero_le _) (Nat.zero_le _) (k1 _ (fun z m' h => h))

theorem s9_enough_28 {G : am_G} {dp a b : Nat} {m : am_M} {Q : am_Q} {i1 i90 : Int} {r0 : Nat} {o2 o3 o4 o5 : Option am_V}  (k1 : X G dp a b M9_enough 36 [some (rV (some r0)), some (iV (i1)), some (iV (i90)), some (lV (1000000000)), none, some (iV (0))] [] m Q)  : X G dp a b M9_enough 28 [some (rV (some r0)), some (iV (i1)), o2, o3, o4, o5] [iV (i90)] m Q := by
  refine X_istore_n dX9_enough_28 rfl (Nat.le_of_ble_eq_true rfl) ?_
  refine X_ldc2 dX9_enough_29 kc_9_153 (by unfold i64; omega) ?_
  refine X_lstore_n dX9_enough_32 rfl (Nat.le_of_ble_eq_true rfl) ?_
  refine Y_iconst dX9_enough_33 (by unfold i32; omega) ?_
  refine X_istore dX9_enough_34 (Nat.le_of_ble_eq_true rfl) ?_
  exact k1

theorem s9_enough_36 {G : am_G} {dp a b : Nat} {m : am_M} {Q : am_Q} {i1 i2 i5 l3 : Int} {r0 : Nat} (hdp : 1 ≤ dp) (h1 : am_ob m r0 8) (k1 : (5000 < i5) → Q (.inl (some (iV ((-1))))) m) (k2 : ¬ (5000 < i5) → ∀ Q' : am_Q, (∀ (z : Int) (m' : am_M), X G dp a b M9_enough 49 [some (rV (some r0)), some (iV (i1)), some (iV (i2)), some (lV (l3)), none, some (iV (i5))] [iV (z)] m' Q → Q' (.inl (some (iV (z)))) m') → T G (dp - 1) 0 0 M9_isLittle [rV (some r0), lV (l3)] m Q')  : X G dp a b M9_enough 36 [some (rV (some r0)), some (iV (i1)), some (iV (i2)), some (lV (l3)), none, some (iV (i5))] [] m Q := by
  refine X_iload dX9_enough_36 rfl ?_
  refine Y_sipush dX9_enough_38 (by omega) ?_
  refine X_icmp_gt (tgt := 68) dX9_enough_41 (by decide) (fun c1 => ?_) (fun c1 => ?_)
  · refine Y_iconst dX9_enough_68 (by unfold i32; omega) ?_
    exact X_iret dX9_enough_69 rfl (k1 c1)
  · refine X_aload_n dX9_enough_44 rfl rfl ?_
    refine X_lload_n dX9_enough_45 rfl rfl ?_
    exact X_callV (As := [lV (l3)]) (rest := []) (a' := 0) (b' := 0) dX9_enough_46 t9_isLittle ml_9_179 h1 rfl rfl (Nat.le_of_ble_eq_true rfl) rfl hdp (Nat.zero_le _) (Nat.zero_le _) ((k2 c1) _ (fun z m' h => h))

theorem s9_enough_49 {G : am_G} {dp a b : Nat} {m : am_M} {Q : am_Q} {i1 i2 i5 i90 l3 : Int} {r0 : Nat} (hdp : 1 ≤ dp) (h1 : am_ob m r0 8) (k1 : (i90 = 0) → ∀ Q' : am_Q, (∀ (z : Int) (m' : am_M), X G dp a b M9_enough 61 [some (rV (some r0)), some (iV (i1)), some (iV (i2)), some (lV (l3)), none, some (iV (i5))] [lV (z)] m' Q → Q' (.inl (some (lV (z)))) m') → T G (dp - 1) 0 0 M9_chanceBehind [rV (some r0), lV (l3), iV (i2)] m Q') (k2 : ¬ (i90 = 0) → Q (.inl (some (iV (i5)))) m)  : X G dp a b M9_enough 49 [some (rV (some r0)), some (iV (i1)), some (iV (i2)), some (lV (l3)), none, some (iV (i5))] [iV (i90)] m Q := by
  refine X_if_eq (tgt := 55) dX9_enough_49 (by decide) (fun c1 => ?_) (fun c1 => ?_)
  · refine X_aload_n dX9_enough_55 rfl rfl ?_
    refine X_lload_n dX9_enough_56 rfl rfl ?_
    refine X_iload_n dX9_enough_57 rfl rfl ?_
    exact X_callV (As := [lV (l3), iV (i2)]) (rest := []) (a' := 0) (b' := 0) dX9_enough_58 t9_chanceBehind ml_9_264 h1 rfl rfl (Nat.le_of_ble_eq_true rfl) rfl hdp (Nat.zero_le _) (Nat.zero_le _) ((k1 c1) _ (fun z m' h => h))
  · refine X_iload dX9_enough_52 rfl ?_
    exact X_iret dX9_enough_54 rfl (k2 c1)

theorem s9_enough_61 {G : am_G} {dp a b : Nat} {m : am_M} {Q : am_Q} {i1 i2 i5 l3 l90 : Int} {r0 : Nat}  (k1 : X G dp a b M9_enough 36 [some (rV (some r0)), some (iV (i1)), some (iV (i2)), some (lV (l90)), none, some (iV (wr (i5 + 1)))] [] m Q)  : X G dp a b M9_enough 61 [some (rV (some r0)), some (iV (i1)), some (iV (i2)), some (lV (l3)), none, some (iV (i5))] [lV (l90)] m Q := by
  refine X_lstore_n dX9_enough_61 rfl (Nat.le_of_ble_eq_true rfl) ?_
  refine X_iinc dX9_enough_62 rfl ?_
  refine X_goto (tgt := 36) dX9_enough_65 (by decide) ?_
  exact k1

theorem s9_flipsFor_0 {G : am_G} {dp a b : Nat} {m : am_M} {Q : am_Q} {i0 i1 i2 i3 : Int} {o4 o5 : Option am_V}  (k1 : (i1 ≤ i0) → X G dp a b M9_flipsFor 15 [some (iV (i0)), some (iV (i1)), some (iV (i2)), some (iV (i3)), some (iV (0)), some (iV (1))] [] m Q) (k2 : ¬ (i1 ≤ i0) → X G dp a b M9_flipsFor 15 [some (iV (i0)), some (iV (i1)), some (iV (i2)), some (iV (i3)), some (iV (0)), some (iV (0))] [] m Q)  : X G dp a b M9_flipsFor 0 [some (iV (i0)), some (iV (i1)), some (iV (i2)), some (iV (i3)), o4, o5] [] m Q := by
  refine Y_iconst dX9_flipsFor_0 (by unfold i32; omega) ?_
  refine X_istore dX9_flipsFor_1 (Nat.le_of_ble_eq_true rfl) ?_
  refine X_iload_n dX9_flipsFor_3 rfl rfl ?_
  refine X_iload_n dX9_flipsFor_4 rfl rfl ?_
  refine X_icmp_ge (tgt := 12) dX9_flipsFor_5 (by decide) (fun c1 => ?_) (fun c1 => ?_)
  · refine Y_iconst dX9_flipsFor_12 (by unfold i32; omega) ?_
    refine X_istore dX9_flipsFor_13 (Nat.le_of_ble_eq_true rfl) ?_
    exact (k1 c1)
  · refine Y_iconst dX9_flipsFor_8 (by unfold i32; omega) ?_
    refine X_goto (tgt := 13) dX9_flipsFor_9 (by decide) ?_
    refine X_istore dX9_flipsFor_13 (Nat.le_of_ble_eq_true rfl) ?_
    exact (k2 c1)

theorem s9_flipsFor_15 {G : am_G} {dp a b : Nat} {m : am_M} {Q : am_Q} {i0 i1 i2 i3 i4 i5 : Int}  (k1 : (i5 ≤ (wr ((wr (i2 + i4)) - (wr (i3 - i4))))) → Q (.inl (some (iV (i4)))) m) (k2 : ¬ (i5 ≤ (wr ((wr (i2 + i4)) - (wr (i3 - i4))))) → X G dp a b M9_flipsFor 15 [some (iV (i0)), some (iV (i1)), some (iV (i2)), some (iV (i3)), some (iV (wr (i4 + 1))), some (iV (i5))] [] m Q)  : X G dp a b M9_flipsFor 15 [some (iV (i0)), some (iV (i1)), some (iV (i2)), some (iV (i3)), some (iV (i4)), some (iV (i5))] [] m Q := by
  refine X_iload_n dX9_flipsFor_15 rfl rfl ?_
  refine X_iload dX9_flipsFor_16 rfl ?_
  refine X_iadd dX9_flipsFor_18  ?_
  refine X_iload_n dX9_flipsFor_19 rfl rfl ?_
  refine X_iload dX9_flipsFor_20 rfl ?_
  refine X_isub dX9_flipsFor_22  ?_
  refine X_isub dX9_flipsFor_23  ?_
  refine X_iload dX9_flipsFor_24 rfl ?_
  refine X_icmp_ge (tgt := 35) dX9_flipsFor_26 (by decide) (fun c1 => ?_) (fun c1 => ?_)
  · refine X_iload dX9_flipsFor_35 rfl ?_
    exact X_iret dX9_flipsFor_37 rfl (k1 c1)
  · refine X_iinc dX9_flipsFor_29 rfl ?_
    refine X_goto (tgt := 15) dX9_flipsFor_32 (by decide) ?_
    exact (k2 c1)

theorem s9_flips_0 {G : am_G} {dp a b : Nat} {m : am_M} {Q : am_Q} {i1 i2 : Int} {r0 : Nat} {o3 o4 o5 o6 : Option am_V} (hdp : 1 ≤ dp) (h1 : am_obw m r0 8) (k1 : ∀ Q' : am_Q, (∀ (z : Int) (m' : am_M), X G dp a b M9_flips 10 [some (rV (some r0)), some (iV (i1)), some (iV (i2)), o3, o4, o5, o6] [iV (z)] m' Q → Q' (.inl (some (iV (z)))) m') → T G (dp - 1) 0 0 M9_isRace [rV (some r0), iV (i1)] ((u2 m.1 r0 7 (0)), m.2.1, m.2.2) Q')  : X G dp a b M9_flips 0 [some (rV (some r0)), some (iV (i1)), some (iV (i2)), o3, o4, o5, o6] [] m Q := by
  refine X_aload_n dX9_flips_0 rfl rfl ?_
  refine Y_iconst dX9_flips_1 (by unfold i32; omega) ?_
  refine X_putI dX9_flips_2 fw_9_73 rfl h1 ?_
  refine X_aload_n dX9_flips_5 rfl rfl ?_
  refine X_iload_n dX9_flips_6 rfl rfl ?_
  exact X_callV (As := [iV (i1)]) (rest := []) (a' := 0) (b' := 0) dX9_flips_7 t9_isRace ml_9_240 (am_ow h1) rfl rfl (Nat.le_of_ble_eq_true rfl) rfl hdp (Nat.zero_le _) (Nat.zero_le _) (k1 _ (fun z m' h => h))

theorem s9_flips_10 {G : am_G} {dp a b : Nat} {m : am_M} {Q : am_Q} {i1 i2 i90 : Int} {r0 : Nat} {o3 o4 o5 o6 : Option am_V} (hdp : 1 ≤ dp) (h1 : am_ob m r0 8) (k1 : (i90 = 0) → ∀ Q' : am_Q, (∀ (z : Int) (m' : am_M), X G dp a b M9_flips 27 [some (rV (some r0)), some (iV (i1)), some (iV (i2)), o3, o4, o5, o6] [iV (z)] m' Q → Q' (.inl (some (iV (z)))) m') → T G (dp - 1) 0 0 M9_fail [rV (some r0), iV (1)] m Q') (k2 : ¬ (i90 = 0) → ∀ Q' : am_Q, (∀ (z : Int) (m' : am_M), X G dp a b M9_flips 19 [some (rV (some r0)), some (iV (i1)), some (iV (i2)), o3, o4, o5, o6] [iV (z)] m' Q → Q' (.inl (some (iV (z)))) m') → T G (dp - 1) 0 0 M9_isIn [iV (i2), iV (0), iV (1)] m Q')  : X G dp a b M9_flips 10 [some (rV (some r0)), some (iV (i1)), some (iV (i2)), o3, o4, o5, o6] [iV (i90)] m Q := by
  refine X_if_eq (tgt := 22) dX9_flips_10 (by decide) (fun c1 => ?_) (fun c1 => ?_)
  · refine X_aload_n dX9_flips_22 rfl rfl ?_
    refine Y_iconst dX9_flips_23 (by unfold i32; omega) ?_
    exact X_callV (As := [iV (1)]) (rest := []) (a' := 0) (b' := 0) dX9_flips_24 t9_fail ml_9_210 h1 rfl rfl (Nat.le_of_ble_eq_true rfl) rfl hdp (Nat.zero_le _) (Nat.zero_le _) ((k1 c1) _ (fun z m' h => h))
  · refine X_iload_n dX9_flips_13 rfl rfl ?_
    refine Y_iconst dX9_flips_14 (by unfold i32; omega) ?_
    refine Y_iconst dX9_flips_15 (by unfold i32; omega) ?_
    exact X_callS (As := [iV (i2), iV (0), iV (1)]) (rest := []) (a' := 0) (b' := 0) dX9_flips_16 t9_isIn ml_9_80 rfl rfl (Nat.le_of_ble_eq_true rfl) rfl hdp (Nat.zero_le _) (Nat.zero_le _) ((k2 c1) _ (fun z m' h => h))

theorem s9_flips_19 {G : am_G} {dp a b : Nat} {m : am_M} {Q : am_Q} {i1 i2 i90 : Int} {r0 : Nat} {o3 o4 o5 o6 : Option am_V} (hdp : 1 ≤ dp) (h1 : am_ob m r0 8) (k1 : ¬ (i90 = 0) → ∀ Q' : am_Q, (∀ (m' : am_M), X G dp a b M9_flips 32 [some (rV (some r0)), some (iV (i1)), some (iV (i2)), o3, o4, o5, o6] [] m' Q → Q' (.inl none) m') → T G (dp - 1) 0 0 M9_layRaces [rV (some r0)] m Q') (k2 : (i90 = 0) → ∀ Q' : am_Q, (∀ (z : Int) (m' : am_M), X G dp a b M9_flips 27 [some (rV (some r0)), some (iV (i1)), some (iV (i2)), o3, o4, o5, o6] [iV (z)] m' Q → Q' (.inl (some (iV (z)))) m') → T G (dp - 1) 0 0 M9_fail [rV (some r0), iV (1)] m Q')  : X G dp a b M9_flips 19 [some (rV (some r0)), some (iV (i1)), some (iV (i2)), o3, o4, o5, o6] [iV (i90)] m Q := by
  refine X_if_ne (tgt := 28) dX9_flips_19 (by decide) (fun c1 => ?_) (fun c1 => ?_)
  · refine X_aload_n dX9_flips_28 rfl rfl ?_
    exact X_callV (As := []) (rest := []) (a' := 0) (b' := 0) dX9_flips_29 t9_layRaces ml_9_186 h1 rfl rfl (Nat.le_of_ble_eq_true rfl) rfl hdp (Nat.zero_le _) (Nat.zero_le _) ((k1 c1) _ (fun m' h => h))
  · refine X_aload_n dX9_flips_22 rfl rfl ?_
    refine Y_iconst dX9_flips_23 (by unfold i32; omega) ?_
    exact X_callV (As := [iV (1)]) (rest := []) (a' := 0) (b' := 0) dX9_flips_24 t9_fail ml_9_210 h1 rfl rfl (Nat.le_of_ble_eq_true rfl) rfl hdp (Nat.zero_le _) (Nat.zero_le _) ((k2 c1) _ (fun z m' h => h))

theorem s9_flips_27 {G : am_G} {dp a b : Nat} {m : am_M} {Q : am_Q} {i1 i2 i90 : Int} {r0 : Nat} {o3 o4 o5 o6 : Option am_V}  (k1 : Q (.inl (some (iV (i90)))) m)  : X G dp a b M9_flips 27 [some (rV (some r0)), some (iV (i1)), some (iV (i2)), o3, o4, o5, o6] [iV (i90)] m Q := by
  exact X_iret dX9_flips_27 rfl k1

theorem s9_flips_32 {G : am_G} {dp a b : Nat} {m : am_M} {Q : am_Q} {i1 i2 : Int} {r0 : Nat} {o3 o4 o5 o6 : Option am_V}  (k1 : X G dp a b M9_flips 40 [some (rV (some r0)), some (iV (i1)), some (iV (i2)), some (iV ((-1))), some (iV (0)), some (iV (0)), o6] [] m Q)  : X G dp a b M9_flips 32 [some (rV (some r0)), some (iV (i1)), some (iV (i2)), o3, o4, o5, o6] [] m Q := by
  refine Y_iconst dX9_flips_32 (by unfold i32; omega) ?_
  refine X_istore_n dX9_flips_33 rfl (Nat.le_of_ble_eq_true rfl) ?_
  refine Y_iconst dX9_flips_34 (by unfold i32; omega) ?_
  refine X_istore dX9_flips_35 (Nat.le_of_ble_eq_true rfl) ?_
  refine Y_iconst dX9_flips_37 (by unfold i32; omega) ?_
  refine X_istore dX9_flips_38 (Nat.le_of_ble_eq_true rfl) ?_
  exact k1

theorem s9_flips_40 {G : am_G} {dp a b : Nat} {m : am_M} {Q : am_Q} {i1 i2 i3 i4 i5 : Int} {r0 : Nat} {o6 : Option am_V} (hdp : 1 ≤ dp) (h1 : am_ob m r0 8) (k1 : ∀ Q' : am_Q, (∀ (z : Int) (m' : am_M), X G dp a b M9_flips 47 [some (rV (some r0)), some (iV (i1)), some (iV (i2)), some (iV (i3)), some (iV (i4)), some (iV (i5)), o6] [iV (z), iV (i5)] m' Q → Q' (.inl (some (iV (z)))) m') → T G (dp - 1) 0 0 M9_candidates [rV (some r0), iV (i1)] m Q')  : X G dp a b M9_flips 40 [some (rV (some r0)), some (iV (i1)), some (iV (i2)), some (iV (i3)), some (iV (i4)), some (iV (i5)), o6] [] m Q := by
  refine X_iload dX9_flips_40 rfl ?_
  refine X_aload_n dX9_flips_42 rfl rfl ?_
  refine X_iload_n dX9_flips_43 rfl rfl ?_
  exact X_callV (As := [iV (i1)]) (rest := [iV (i5)]) (a' := 0) (b' := 0) dX9_flips_44 t9_candidates ml_9_87 h1 rfl rfl (Nat.le_of_ble_eq_true rfl) rfl hdp (Nat.zero_le _) (Nat.zero_le _) (k1 _ (fun z m' h => h))

theorem s9_flips_47 {G : am_G} {dp a b : Nat} {m : am_M} {Q : am_Q} {i1 i2 i3 i4 i5 i90 i91 : Int} {r0 p1 p2 : Nat} {o6 : Option am_V} {n_p1 n_p2 : Nat} (hdp : 1 ≤ dp) (h1 : am_ob m r0 8) (h2 : m.2.1 r0 11 = some p1) (h3 : am_ar m p1 100 n_p1) (h6 : m.2.1 r0 9 = some p2) (h7 : am_ar m p2 100 n_p2) (k1 : (i90 ≤ i91) → ¬ (i2 = 0) → Q (.inl (some (iV (i3)))) m) (k2 : (i90 ≤ i91) → (i2 = 0) → Q (.inl (some (iV (i4)))) m) (k3 : ¬ (i90 ≤ i91) → ¬ (i5 = (m.1 p1 (i1).toNat)) → ∀ Q' : am_Q, (∀ (z : Int) (m' : am_M), X G dp a b M9_flips 101 [some (rV (some r0)), some (iV (i1)), some (iV (i2)), some (iV (i3)), some (iV (i4)), some (iV (i5)), o6] [iV (z)] m' Q → Q' (.inl (some (iV (z)))) m') → T G (dp - 1) 0 0 M9_flipsFor [iV (i5), iV (m.1 p1 (i1).toNat), iV (m.1 p2 (wr ((wr (4 * i1)) + i5)).toNat), iV (m.1 p2 (wr ((wr (4 * i1)) + (m.1 p1 (i1).toNat))).toNat)] m Q') (k4 : ¬ (i90 ≤ i91) → (i5 = (m.1 p1 (i1).toNat)) → X G dp a b M9_flips 40 [some (rV (some r0)), some (iV (i1)), some (iV (i2)), some (iV (i3)), some (iV (i4)), some (iV (wr (i5 + 1))), o6] [] m Q) (h4 : ¬ (i90 ≤ i91) → 0 ≤ i1 := by intros; first | omega | (dsimp only at *; omega)) (h5 : ¬ (i90 ≤ i91) → i1 < (n_p1 : Int) := by intros; first | omega | (dsimp only at *; omega)) (h8 : ¬ (i90 ≤ i91) → ¬ (i5 = (m.1 p1 (i1).toNat)) → 0 ≤ wr ((wr (4 * i1)) + i5) := by intros; first | omega | (dsimp only at *; omega)) (h9 : ¬ (i90 ≤ i91) → ¬ (i5 = (m.1 p1 (i1).toNat)) → wr ((wr (4 * i1)) + i5) < (n_p2 : Int) := by intros; first | omega | (dsimp only at *; omega)) (h10 : ¬ (i90 ≤ i91) → ¬ (i5 = (m.1 p1 (i1).toNat)) → 0 ≤ wr ((wr (4 * i1)) + (m.1 p1 (i1).toNat)) := by intros; first | omega | (dsimp only at *; omega)) (h11 : ¬ (i90 ≤ i91) → ¬ (i5 = (m.1 p1 (i1).toNat)) → wr ((wr (4 * i1)) + (m.1 p1 (i1).toNat)) < (n_p2 : Int) := by intros; first | omega | (dsimp only at *; omega)) : X G dp a b M9_flips 47 [some (rV (some r0)), some (iV (i1)), some (iV (i2)), some (iV (i3)), some (iV (i4)), some (iV (i5)), o6] [iV (i90), iV (i91)] m Q := by
  refine X_icmp_ge (tgt := 131) dX9_flips_47 (by decide) (fun c1 => ?_) (fun c1 => ?_)
  · refine X_iload_n dX9_flips_131 rfl rfl ?_
    refine X_if_ne (tgt := 140) dX9_flips_132 (by decide) (fun c2 => ?_) (fun c2 => ?_)
    · refine X_iload_n dX9_flips_140 rfl rfl ?_
      exact X_iret dX9_flips_141 rfl (k1 c1 c2)
    · refine X_iload dX9_flips_135 rfl ?_
      refine X_goto (tgt := 141) dX9_flips_137 (by decide) ?_
      exact X_iret dX9_flips_141 rfl (k2 c1 c2)
  · refine X_iload dX9_flips_50 rfl ?_
    refine X_aload_n dX9_flips_52 rfl rfl ?_
    refine X_getP dX9_flips_53 fl_9_34 rfl h1 ?_
    refine am_ptr h2 ?_
    refine X_iload_n dX9_flips_56 rfl rfl ?_
    refine X_iald dX9_flips_57 h3 (h4 c1) (h5 c1) ?_
    refine X_icmp_ne (tgt := 64) dX9_flips_58 (by decide) (fun c3 => ?_) (fun c3 => ?_)
    · refine X_iload dX9_flips_64 rfl ?_
      refine X_aload_n dX9_flips_66 rfl rfl ?_
      refine X_getP dX9_flips_67 fl_9_34 rfl h1 ?_
      refine am_ptr h2 ?_
      refine X_iload_n dX9_flips_70 rfl rfl ?_
      refine X_iald dX9_flips_71 h3 (h4 c1) (h5 c1) ?_
      refine X_aload_n dX9_flips_72 rfl rfl ?_
      refine X_getP dX9_flips_73 fl_9_28 rfl h1 ?_
      refine am_ptr h6 ?_
      refine Y_iconst dX9_flips_76 (by unfold i32; omega) ?_
      refine X_iload_n dX9_flips_77 rfl rfl ?_
      refine X_imul dX9_flips_78  ?_
      refine X_iload dX9_flips_79 rfl ?_
      refine X_iadd dX9_flips_81  ?_
      refine X_iald dX9_flips_82 h7 (h8 c1 c3) (h9 c1 c3) ?_
      refine X_aload_n dX9_flips_83 rfl rfl ?_
      refine X_getP dX9_flips_84 fl_9_28 rfl h1 ?_
      refine am_ptr h6 ?_
      refine Y_iconst dX9_flips_87 (by unfold i32; omega) ?_
      refine X_iload_n dX9_flips_88 rfl rfl ?_
      refine X_imul dX9_flips_89  ?_
      refine X_aload_n dX9_flips_90 rfl rfl ?_
      refine X_getP dX9_flips_91 fl_9_34 rfl h1 ?_
      refine am_ptr h2 ?_
      refine X_iload_n dX9_flips_94 rfl rfl ?_
      refine X_iald dX9_flips_95 h3 (h4 c1) (h5 c1) ?_
      refine X_iadd dX9_flips_96  ?_
      refine X_iald dX9_flips_97 h7 (h10 c1 c3) (h11 c1 c3) ?_
      exact X_callS (As := [iV (i5), iV (m.1 p1 (i1).toNat), iV (m.1 p2 (wr ((wr (4 * i1)) + i5)).toNat), iV (m.1 p2 (wr ((wr (4 * i1)) + (m.1 p1 (i1).toNat))).toNat)]) (rest := []) (a' := 0) (b' := 0) dX9_flips_98 t9_flipsFor ml_9_268 rfl rfl (Nat.le_of_ble_eq_true rfl) rfl hdp (Nat.zero_le _) (Nat.zero_le _) ((k3 c1 c3) _ (fun z m' h => h))
    · refine X_goto (tgt := 125) dX9_flips_61 (by decide) ?_
      refine X_iinc dX9_flips_125 rfl ?_
      refine X_goto (tgt := 40) dX9_flips_128 (by decide) ?_
      exact (k4 c1 c3)

theorem s9_flips_101 {G : am_G} {dp a b : Nat} {m : am_M} {Q : am_Q} {i1 i2 i3 i4 i5 i90 : Int} {r0 : Nat} {o6 : Option am_V}  (k1 : (i3 = (-1)) → X G dp a b M9_flips 40 [some (rV (some r0)), some (iV (i1)), some (iV (i2)), some (iV (i5)), some (iV (i90)), some (iV (wr (i5 + 1))), some (iV (i90))] [] m Q) (k2 : ¬ (i3 = (-1)) → (i90 < i4) → X G dp a b M9_flips 40 [some (rV (some r0)), some (iV (i1)), some (iV (i2)), some (iV (i5)), some (iV (i90)), some (iV (wr (i5 + 1))), some (iV (i90))] [] m Q) (k3 : ¬ (i3 = (-1)) → ¬ (i90 < i4) → X G dp a b M9_flips 40 [some (rV (some r0)), some (iV (i1)), some (iV (i2)), some (iV (i3)), some (iV (i4)), some (iV (wr (i5 + 1))), some (iV (i90))] [] m Q)  : X G dp a b M9_flips 101 [some (rV (some r0)), some (iV (i1)), some (iV (i2)), some (iV (i3)), some (iV (i4)), some (iV (i5)), o6] [iV (i90)] m Q := by
  refine X_istore dX9_flips_101 (Nat.le_of_ble_eq_true rfl) ?_
  refine X_iload_n dX9_flips_103 rfl rfl ?_
  refine Y_iconst dX9_flips_104 (by unfold i32; omega) ?_
  refine X_icmp_eq (tgt := 118) dX9_flips_105 (by decide) (fun c1 => ?_) (fun c1 => ?_)
  · refine X_iload dX9_flips_118 rfl ?_
    refine X_istore_n dX9_flips_120 rfl (Nat.le_of_ble_eq_true rfl) ?_
    refine X_iload dX9_flips_121 rfl ?_
    refine X_istore dX9_flips_123 (Nat.le_of_ble_eq_true rfl) ?_
    refine X_iinc dX9_flips_125 rfl ?_
    refine X_goto (tgt := 40) dX9_flips_128 (by decide) ?_
    exact (k1 c1)
  · refine X_iload dX9_flips_108 rfl ?_
    refine X_iload dX9_flips_110 rfl ?_
    refine X_icmp_lt (tgt := 118) dX9_flips_112 (by decide) (fun c2 => ?_) (fun c2 => ?_)
    · refine X_iload dX9_flips_118 rfl ?_
      refine X_istore_n dX9_flips_120 rfl (Nat.le_of_ble_eq_true rfl) ?_
      refine X_iload dX9_flips_121 rfl ?_
      refine X_istore dX9_flips_123 (Nat.le_of_ble_eq_true rfl) ?_
      refine X_iinc dX9_flips_125 rfl ?_
      refine X_goto (tgt := 40) dX9_flips_128 (by decide) ?_
      exact (k2 c1 c2)
    · refine X_goto (tgt := 125) dX9_flips_115 (by decide) ?_
      refine X_iinc dX9_flips_125 rfl ?_
      refine X_goto (tgt := 40) dX9_flips_128 (by decide) ?_
      exact (k3 c1 c2)

theorem s9_votes_0 {G : am_G} {dp a b : Nat} {m : am_M} {Q : am_Q} {i1 i2 i3 : Int} {r0 : Nat} (hdp : 1 ≤ dp) (h1 : am_obw m r0 8) (k1 : ∀ Q' : am_Q, (∀ (z : Int) (m' : am_M), X G dp a b M9_votes 10 [some (rV (some r0)), some (iV (i1)), some (iV (i2)), some (iV (i3))] [iV (z)] m' Q → Q' (.inl (some (iV (z)))) m') → T G (dp - 1) 0 0 M9_isRace [rV (some r0), iV (i1)] ((u2 m.1 r0 7 (0)), m.2.1, m.2.2) Q')  : X G dp a b M9_votes 0 [some (rV (some r0)), some (iV (i1)), some (iV (i2)), some (iV (i3))] [] m Q := by
  refine X_aload_n dX9_votes_0 rfl rfl ?_
  refine Y_iconst dX9_votes_1 (by unfold i32; omega) ?_
  refine X_putI dX9_votes_2 fw_9_73 rfl h1 ?_
  refine X_aload_n dX9_votes_5 rfl rfl ?_
  refine X_iload_n dX9_votes_6 rfl rfl ?_
  exact X_callV (As := [iV (i1)]) (rest := []) (a' := 0) (b' := 0) dX9_votes_7 t9_isRace ml_9_240 (am_ow h1) rfl rfl (Nat.le_of_ble_eq_true rfl) rfl hdp (Nat.zero_le _) (Nat.zero_le _) (k1 _ (fun z m' h => h))

theorem s9_votes_10 {G : am_G} {dp a b : Nat} {m : am_M} {Q : am_Q} {i1 i2 i3 i90 : Int} {r0 : Nat} (hdp : 1 ≤ dp) (h1 : am_ob m r0 8) (k1 : (i90 = 0) → ∀ Q' : am_Q, (∀ (z : Int) (m' : am_M), X G dp a b M9_votes 27 [some (rV (some r0)), some (iV (i1)), some (iV (i2)), some (iV (i3))] [iV (z)] m' Q → Q' (.inl (some (iV (z)))) m') → T G (dp - 1) 0 0 M9_fail [rV (some r0), iV (1)] m Q') (k2 : ¬ (i90 = 0) → ∀ Q' : am_Q, (∀ (z : Int) (m' : am_M), X G dp a b M9_votes 19 [some (rV (some r0)), some (iV (i1)), some (iV (i2)), some (iV (i3))] [iV (z)] m' Q → Q' (.inl (some (iV (z)))) m') → T G (dp - 1) 0 0 M9_isCandidate [rV (some r0), iV (i1), iV (i2)] m Q')  : X G dp a b M9_votes 10 [some (rV (some r0)), some (iV (i1)), some (iV (i2)), some (iV (i3))] [iV (i90)] m Q := by
  refine X_if_eq (tgt := 22) dX9_votes_10 (by decide) (fun c1 => ?_) (fun c1 => ?_)
  · refine X_aload_n dX9_votes_22 rfl rfl ?_
    refine Y_iconst dX9_votes_23 (by unfold i32; omega) ?_
    exact X_callV (As := [iV (1)]) (rest := []) (a' := 0) (b' := 0) dX9_votes_24 t9_fail ml_9_210 h1 rfl rfl (Nat.le_of_ble_eq_true rfl) rfl hdp (Nat.zero_le _) (Nat.zero_le _) ((k1 c1) _ (fun z m' h => h))
  · refine X_aload_n dX9_votes_13 rfl rfl ?_
    refine X_iload_n dX9_votes_14 rfl rfl ?_
    refine X_iload_n dX9_votes_15 rfl rfl ?_
    exact X_callV (As := [iV (i1), iV (i2)]) (rest := []) (a' := 0) (b' := 0) dX9_votes_16 t9_isCandidate ml_9_247 h1 rfl rfl (Nat.le_of_ble_eq_true rfl) rfl hdp (Nat.zero_le _) (Nat.zero_le _) ((k2 c1) _ (fun z m' h => h))

theorem s9_votes_19 {G : am_G} {dp a b : Nat} {m : am_M} {Q : am_Q} {i1 i2 i3 i90 : Int} {r0 : Nat} (hdp : 1 ≤ dp) (h1 : am_ob m r0 8) (k1 : ¬ (i90 = 0) → ∀ Q' : am_Q, (∀ (m' : am_M), X G dp a b M9_votes 32 [some (rV (some r0)), some (iV (i1)), some (iV (i2)), some (iV (i3))] [] m' Q → Q' (.inl none) m') → T G (dp - 1) 0 0 M9_layVotes [rV (some r0)] m Q') (k2 : (i90 = 0) → ∀ Q' : am_Q, (∀ (z : Int) (m' : am_M), X G dp a b M9_votes 27 [some (rV (some r0)), some (iV (i1)), some (iV (i2)), some (iV (i3))] [iV (z)] m' Q → Q' (.inl (some (iV (z)))) m') → T G (dp - 1) 0 0 M9_fail [rV (some r0), iV (1)] m Q')  : X G dp a b M9_votes 19 [some (rV (some r0)), some (iV (i1)), some (iV (i2)), some (iV (i3))] [iV (i90)] m Q := by
  refine X_if_ne (tgt := 28) dX9_votes_19 (by decide) (fun c1 => ?_) (fun c1 => ?_)
  · refine X_aload_n dX9_votes_28 rfl rfl ?_
    exact X_callV (As := []) (rest := []) (a' := 0) (b' := 0) dX9_votes_29 t9_layVotes ml_9_114 h1 rfl rfl (Nat.le_of_ble_eq_true rfl) rfl hdp (Nat.zero_le _) (Nat.zero_le _) ((k1 c1) _ (fun m' h => h))
  · refine X_aload_n dX9_votes_22 rfl rfl ?_
    refine Y_iconst dX9_votes_23 (by unfold i32; omega) ?_
    exact X_callV (As := [iV (1)]) (rest := []) (a' := 0) (b' := 0) dX9_votes_24 t9_fail ml_9_210 h1 rfl rfl (Nat.le_of_ble_eq_true rfl) rfl hdp (Nat.zero_le _) (Nat.zero_le _) ((k2 c1) _ (fun z m' h => h))

theorem s9_votes_27 {G : am_G} {dp a b : Nat} {m : am_M} {Q : am_Q} {i1 i2 i3 i90 : Int} {r0 : Nat}  (k1 : Q (.inl (some (iV (i90)))) m)  : X G dp a b M9_votes 27 [some (rV (some r0)), some (iV (i1)), some (iV (i2)), some (iV (i3))] [iV (i90)] m Q := by
  exact X_iret dX9_votes_27 rfl k1

theorem s9_votes_32 {G : am_G} {dp a b : Nat} {m : am_M} {Q : am_Q} {i1 i2 i3 : Int} {r0 p1 p2 : Nat} {n_p1 n_p2 : Nat} (h1 : am_ob m r0 8) (h2 : m.2.1 r0 8 = some p1) (h3 : am_ar m p1 100 n_p1) (h6 : m.2.1 r0 9 = some p2) (h7 : am_ar m p2 100 n_p2) (k1 : (i3 = 0) → Q (.inl (some (iV (m.1 p1 (wr ((wr (4 * i1)) + i2)).toNat)))) m) (k2 : ¬ (i3 = 0) → Q (.inl (some (iV (m.1 p2 (wr ((wr (4 * i1)) + i2)).toNat)))) m) (h4 : i3 = 0 → 0 ≤ wr ((wr (4 * i1)) + i2) := by intros; first | omega | (dsimp only at *; omega)) (h5 : i3 = 0 → wr ((wr (4 * i1)) + i2) < (n_p1 : Int) := by intros; first | omega | (dsimp only at *; omega)) (h8 : ¬ (i3 = 0) → 0 ≤ wr ((wr (4 * i1)) + i2) := by intros; first | omega | (dsimp only at *; omega)) (h9 : ¬ (i3 = 0) → wr ((wr (4 * i1)) + i2) < (n_p2 : Int) := by intros; first | omega | (dsimp only at *; omega)) : X G dp a b M9_votes 32 [some (rV (some r0)), some (iV (i1)), some (iV (i2)), some (iV (i3))] [] m Q := by
  refine X_iload_n dX9_votes_32 rfl rfl ?_
  refine X_if_eq (tgt := 49) dX9_votes_33 (by decide) (fun c1 => ?_) (fun c1 => ?_)
  · refine X_aload_n dX9_votes_49 rfl rfl ?_
    refine X_getP dX9_votes_50 fl_9_25 rfl h1 ?_
    refine am_ptr h2 ?_
    refine Y_iconst dX9_votes_53 (by unfold i32; omega) ?_
    refine X_iload_n dX9_votes_54 rfl rfl ?_
    refine X_imul dX9_votes_55  ?_
    refine X_iload_n dX9_votes_56 rfl rfl ?_
    refine X_iadd dX9_votes_57  ?_
    refine X_iald dX9_votes_58 h3 (h4 c1) (h5 c1) ?_
    exact X_iret dX9_votes_59 rfl (k1 c1)
  · refine X_aload_n dX9_votes_36 rfl rfl ?_
    refine X_getP dX9_votes_37 fl_9_28 rfl h1 ?_
    refine am_ptr h6 ?_
    refine Y_iconst dX9_votes_40 (by unfold i32; omega) ?_
    refine X_iload_n dX9_votes_41 rfl rfl ?_
    refine X_imul dX9_votes_42  ?_
    refine X_iload_n dX9_votes_43 rfl rfl ?_
    refine X_iadd dX9_votes_44  ?_
    refine X_iald dX9_votes_45 h7 (h8 c1) (h9 c1) ?_
    refine X_goto (tgt := 59) dX9_votes_46 (by decide) ?_
    exact X_iret dX9_votes_59 rfl (k2 c1)

theorem s9_ballot_0 {G : am_G} {dp a b : Nat} {m : am_M} {Q : am_Q} {i1 i2 i3 : Int} {r0 : Nat} (hdp : 1 ≤ dp) (h1 : am_obw m r0 8) (k1 : ∀ Q' : am_Q, (∀ (z : Int) (m' : am_M), X G dp a b M9_ballot 10 [some (rV (some r0)), some (iV (i1)), some (iV (i2)), some (iV (i3))] [iV (z)] m' Q → Q' (.inl (some (iV (z)))) m') → T G (dp - 1) 0 0 M9_isBallot [rV (some r0), iV (i1)] ((u2 m.1 r0 7 (0)), m.2.1, m.2.2) Q')  : X G dp a b M9_ballot 0 [some (rV (some r0)), some (iV (i1)), some (iV (i2)), some (iV (i3))] [] m Q := by
  refine X_aload_n dX9_ballot_0 rfl rfl ?_
  refine Y_iconst dX9_ballot_1 (by unfold i32; omega) ?_
  refine X_putI dX9_ballot_2 fw_9_73 rfl h1 ?_
  refine X_aload_n dX9_ballot_5 rfl rfl ?_
  refine X_iload_n dX9_ballot_6 rfl rfl ?_
  exact X_callV (As := [iV (i1)]) (rest := []) (a' := 0) (b' := 0) dX9_ballot_7 t9_isBallot ml_9_251 (am_ow h1) rfl rfl (Nat.le_of_ble_eq_true rfl) rfl hdp (Nat.zero_le _) (Nat.zero_le _) (k1 _ (fun z m' h => h))

theorem s9_ballot_10 {G : am_G} {dp a b : Nat} {m : am_M} {Q : am_Q} {i1 i2 i3 i90 : Int} {r0 : Nat} (hdp : 1 ≤ dp) (h1 : am_ob m r0 8) (k1 : (i90 = 0) → ∀ Q' : am_Q, (∀ (z : Int) (m' : am_M), X G dp a b M9_ballot 35 [some (rV (some r0)), some (iV (i1)), some (iV (i2)), some (iV (i3))] [iV (z)] m' Q → Q' (.inl (some (iV (z)))) m') → T G (dp - 1) 0 0 M9_fail [rV (some r0), iV (1)] m Q') (k2 : ¬ (i90 = 0) → ∀ Q' : am_Q, (∀ (z : Int) (m' : am_M), X G dp a b M9_ballot 18 [some (rV (some r0)), some (iV (i1)), some (iV (i2)), some (iV (i3))] [iV (z)] m' Q → Q' (.inl (some (iV (z)))) m') → T G (dp - 1) 0 0 M9_isRace [rV (some r0), iV (i2)] m Q')  : X G dp a b M9_ballot 10 [some (rV (some r0)), some (iV (i1)), some (iV (i2)), some (iV (i3))] [iV (i90)] m Q := by
  refine X_if_eq (tgt := 30) dX9_ballot_10 (by decide) (fun c1 => ?_) (fun c1 => ?_)
  · refine X_aload_n dX9_ballot_30 rfl rfl ?_
    refine Y_iconst dX9_ballot_31 (by unfold i32; omega) ?_
    exact X_callV (As := [iV (1)]) (rest := []) (a' := 0) (b' := 0) dX9_ballot_32 t9_fail ml_9_210 h1 rfl rfl (Nat.le_of_ble_eq_true rfl) rfl hdp (Nat.zero_le _) (Nat.zero_le _) ((k1 c1) _ (fun z m' h => h))
  · refine X_aload_n dX9_ballot_13 rfl rfl ?_
    refine X_iload_n dX9_ballot_14 rfl rfl ?_
    exact X_callV (As := [iV (i2)]) (rest := []) (a' := 0) (b' := 0) dX9_ballot_15 t9_isRace ml_9_240 h1 rfl rfl (Nat.le_of_ble_eq_true rfl) rfl hdp (Nat.zero_le _) (Nat.zero_le _) ((k2 c1) _ (fun z m' h => h))

theorem s9_ballot_18 {G : am_G} {dp a b : Nat} {m : am_M} {Q : am_Q} {i1 i2 i3 i90 : Int} {r0 : Nat} (hdp : 1 ≤ dp) (h1 : am_ob m r0 8) (k1 : (i90 = 0) → ∀ Q' : am_Q, (∀ (z : Int) (m' : am_M), X G dp a b M9_ballot 35 [some (rV (some r0)), some (iV (i1)), some (iV (i2)), some (iV (i3))] [iV (z)] m' Q → Q' (.inl (some (iV (z)))) m') → T G (dp - 1) 0 0 M9_fail [rV (some r0), iV (1)] m Q') (k2 : ¬ (i90 = 0) → ∀ Q' : am_Q, (∀ (z : Int) (m' : am_M), X G dp a b M9_ballot 27 [some (rV (some r0)), some (iV (i1)), some (iV (i2)), some (iV (i3))] [iV (z)] m' Q → Q' (.inl (some (iV (z)))) m') → T G (dp - 1) 0 0 M9_isIn [iV (i3), iV (0), iV (2)] m Q')  : X G dp a b M9_ballot 18 [some (rV (some r0)), some (iV (i1)), some (iV (i2)), some (iV (i3))] [iV (i90)] m Q := by
  refine X_if_eq (tgt := 30) dX9_ballot_18 (by decide) (fun c1 => ?_) (fun c1 => ?_)
  · refine X_aload_n dX9_ballot_30 rfl rfl ?_
    refine Y_iconst dX9_ballot_31 (by unfold i32; omega) ?_
    exact X_callV (As := [iV (1)]) (rest := []) (a' := 0) (b' := 0) dX9_ballot_32 t9_fail ml_9_210 h1 rfl rfl (Nat.le_of_ble_eq_true rfl) rfl hdp (Nat.zero_le _) (Nat.zero_le _) ((k1 c1) _ (fun z m' h => h))
  · refine X_iload_n dX9_ballot_21 rfl rfl ?_
    refine Y_iconst dX9_ballot_22 (by unfold i32; omega) ?_
    refine Y_iconst dX9_ballot_23 (by unfold i32; omega) ?_
    exact X_callS (As := [iV (i3), iV (0), iV (2)]) (rest := []) (a' := 0) (b' := 0) dX9_ballot_24 t9_isIn ml_9_80 rfl rfl (Nat.le_of_ble_eq_true rfl) rfl hdp (Nat.zero_le _) (Nat.zero_le _) ((k2 c1) _ (fun z m' h => h))

theorem s9_ballot_27 {G : am_G} {dp a b : Nat} {m : am_M} {Q : am_Q} {i1 i2 i3 i90 : Int} {r0 : Nat} (hdp : 1 ≤ dp) (h1 : am_ob m r0 8) (k1 : ¬ (i90 = 0) → (2 ≤ i3) → ∀ Q' : am_Q, (∀ (m' : am_M), X G dp a b M9_ballot 65 [some (rV (some r0)), some (iV (i1)), some (iV (i2)), some (iV (i3))] [] m' Q → Q' (.inl none) m') → T G (dp - 1) 0 0 M9_layRaces [rV (some r0)] m Q') (k2 : ¬ (i90 = 0) → ¬ (2 ≤ i3) → ¬ (i3 = 0) → ∀ Q' : am_Q, (∀ (z : Int) (m' : am_M), X G dp a b M9_ballot 60 [some (rV (some r0)), some (iV (i1)), some (iV (i2)), some (iV (i3))] [iV (z)] m' Q → Q' (.inl (some (iV (z)))) m') → T G (dp - 1) 0 0 M9_shown [rV (some r0), iV (i1), iV (i2)] m Q') (k3 : ¬ (i90 = 0) → ¬ (2 ≤ i3) → (i3 = 0) → ∀ Q' : am_Q, (∀ (z : Int) (m' : am_M), X G dp a b M9_ballot 51 [some (rV (some r0)), some (iV (i1)), some (iV (i2)), some (iV (i3))] [iV (z)] m' Q → Q' (.inl (some (iV (z)))) m') → T G (dp - 1) 0 0 M9_recorded [rV (some r0), iV (i1), iV (i2)] m Q') (k4 : (i90 = 0) → ∀ Q' : am_Q, (∀ (z : Int) (m' : am_M), X G dp a b M9_ballot 35 [some (rV (some r0)), some (iV (i1)), some (iV (i2)), some (iV (i3))] [iV (z)] m' Q → Q' (.inl (some (iV (z)))) m') → T G (dp - 1) 0 0 M9_fail [rV (some r0), iV (1)] m Q')  : X G dp a b M9_ballot 27 [some (rV (some r0)), some (iV (i1)), some (iV (i2)), some (iV (i3))] [iV (i90)] m Q := by
  refine X_if_ne (tgt := 36) dX9_ballot_27 (by decide) (fun c1 => ?_) (fun c1 => ?_)
  · refine X_iload_n dX9_ballot_36 rfl rfl ?_
    refine Y_iconst dX9_ballot_37 (by unfold i32; omega) ?_
    refine X_icmp_ge (tgt := 61) dX9_ballot_38 (by decide) (fun c2 => ?_) (fun c2 => ?_)
    · refine X_aload_n dX9_ballot_61 rfl rfl ?_
      exact X_callV (As := []) (rest := []) (a' := 0) (b' := 0) dX9_ballot_62 t9_layRaces ml_9_186 h1 rfl rfl (Nat.le_of_ble_eq_true rfl) rfl hdp (Nat.zero_le _) (Nat.zero_le _) ((k1 c1 c2) _ (fun m' h => h))
    · refine X_iload_n dX9_ballot_41 rfl rfl ?_
      refine X_if_ne (tgt := 54) dX9_ballot_42 (by decide) (fun c3 => ?_) (fun c3 => ?_)
      · refine X_aload_n dX9_ballot_54 rfl rfl ?_
        refine X_iload_n dX9_ballot_55 rfl rfl ?_
        refine X_iload_n dX9_ballot_56 rfl rfl ?_
        exact X_callV (As := [iV (i1), iV (i2)]) (rest := []) (a' := 0) (b' := 0) dX9_ballot_57 t9_shown ml_9_103 h1 rfl rfl (Nat.le_of_ble_eq_true rfl) rfl hdp (Nat.zero_le _) (Nat.zero_le _) ((k2 c1 c2 c3) _ (fun z m' h => h))
      · refine X_aload_n dX9_ballot_45 rfl rfl ?_
        refine X_iload_n dX9_ballot_46 rfl rfl ?_
        refine X_iload_n dX9_ballot_47 rfl rfl ?_
        exact X_callV (As := [iV (i1), iV (i2)]) (rest := []) (a' := 0) (b' := 0) dX9_ballot_48 t9_recorded ml_9_95 h1 rfl rfl (Nat.le_of_ble_eq_true rfl) rfl hdp (Nat.zero_le _) (Nat.zero_le _) ((k3 c1 c2 c3) _ (fun z m' h => h))
  · refine X_aload_n dX9_ballot_30 rfl rfl ?_
    refine Y_iconst dX9_ballot_31 (by unfold i32; omega) ?_
    exact X_callV (As := [iV (1)]) (rest := []) (a' := 0) (b' := 0) dX9_ballot_32 t9_fail ml_9_210 h1 rfl rfl (Nat.le_of_ble_eq_true rfl) rfl hdp (Nat.zero_le _) (Nat.zero_le _) ((k4 c1) _ (fun z m' h => h))

theorem s9_ballot_35 {G : am_G} {dp a b : Nat} {m : am_M} {Q : am_Q} {i1 i2 i3 i90 : Int} {r0 : Nat}  (k1 : Q (.inl (some (iV (i90)))) m)  : X G dp a b M9_ballot 35 [some (rV (some r0)), some (iV (i1)), some (iV (i2)), some (iV (i3))] [iV (i90)] m Q := by
  exact X_iret dX9_ballot_35 rfl k1

theorem s9_ballot_51 {G : am_G} {dp a b : Nat} {m : am_M} {Q : am_Q} {i1 i2 i3 i90 : Int} {r0 : Nat}  (k1 : X G dp a b M9_ballot 60 [some (rV (some r0)), some (iV (i1)), some (iV (i2)), some (iV (i3))] [iV (i90)] m Q)  : X G dp a b M9_ballot 51 [some (rV (some r0)), some (iV (i1)), some (iV (i2)), some (iV (i3))] [iV (i90)] m Q := by
  refine X_goto (tgt := 60) dX9_ballot_51 (by decide) ?_
  exact k1

theorem s9_ballot_60 {G : am_G} {dp a b : Nat} {m : am_M} {Q : am_Q} {i1 i2 i3 i90 : Int} {r0 : Nat}  (k1 : Q (.inl (some (iV (i90)))) m)  : X G dp a b M9_ballot 60 [some (rV (some r0)), some (iV (i1)), some (iV (i2)), some (iV (i3))] [iV (i90)] m Q := by
  exact X_iret dX9_ballot_60 rfl k1

theorem s9_ballot_65 {G : am_G} {dp a b : Nat} {m : am_M} {Q : am_Q} {i1 i2 i3 : Int} {r0 : Nat} (hdp : 1 ≤ dp) (h1 : am_ob m r0 8) (k1 : ∀ Q' : am_Q, (∀ (z : Int) (m' : am_M), X G dp a b M9_ballot 71 [some (rV (some r0)), some (iV (i1)), some (iV (i2)), some (iV (i3))] [iV (z)] m' Q → Q' (.inl (some (iV (z)))) m') → T G (dp - 1) 0 0 M9_mistakeAt [rV (some r0), iV (i1), iV (i2)] m Q')  : X G dp a b M9_ballot 65 [some (rV (some r0)), some (iV (i1)), some (iV (i2)), some (iV (i3))] [] m Q := by
  refine X_aload_n dX9_ballot_65 rfl rfl ?_
  refine X_iload_n dX9_ballot_66 rfl rfl ?_
  refine X_iload_n dX9_ballot_67 rfl rfl ?_
  exact X_callV (As := [iV (i1), iV (i2)]) (rest := []) (a' := 0) (b' := 0) dX9_ballot_68 t9_mistakeAt ml_9_172 h1 rfl rfl (Nat.le_of_ble_eq_true rfl) rfl hdp (Nat.zero_le _) (Nat.zero_le _) (k1 _ (fun z m' h => h))

theorem s9_ballot_71 {G : am_G} {dp a b : Nat} {m : am_M} {Q : am_Q} {i1 i2 i3 i90 : Int} {r0 : Nat}  (k1 : Q (.inl (some (iV (i90)))) m)  : X G dp a b M9_ballot 71 [some (rV (some r0)), some (iV (i1)), some (iV (i2)), some (iV (i3))] [iV (i90)] m Q := by
  exact X_iret dX9_ballot_71 rfl k1

theorem s9_drawn_0 {G : am_G} {dp a b : Nat} {m : am_M} {Q : am_Q} {i1 : Int} {r0 : Nat} (hdp : 1 ≤ dp) (h1 : am_obw m r0 8) (k1 : ∀ Q' : am_Q, (∀ (m' : am_M), X G dp a b M9_drawn 9 [some (rV (some r0)), some (iV (i1))] [] m' Q → Q' (.inl none) m') → T G (dp - 1) 0 0 M9_goes [rV (some r0)] ((u2 m.1 r0 7 (0)), m.2.1, m.2.2) Q')  : X G dp a b M9_drawn 0 [some (rV (some r0)), some (iV (i1))] [] m Q := by
  refine X_aload_n dX9_drawn_0 rfl rfl ?_
  refine Y_iconst dX9_drawn_1 (by unfold i32; omega) ?_
  refine X_putI dX9_drawn_2 fw_9_73 rfl h1 ?_
  refine X_aload_n dX9_drawn_5 rfl rfl ?_
  exact X_callV (As := []) (rest := []) (a' := 0) (b' := 0) dX9_drawn_6 t9_goes ml_9_213 (am_ow h1) rfl rfl (Nat.le_of_ble_eq_true rfl) rfl hdp (Nat.zero_le _) (Nat.zero_le _) (k1 _ (fun m' h => h))

theorem s9_drawn_9 {G : am_G} {dp a b : Nat} {m : am_M} {Q : am_Q} {i1 : Int} {r0 : Nat} (hdp : 1 ≤ dp) (h1 : am_ob m r0 8) (k1 : ∀ Q' : am_Q, (∀ (z : Int) (m' : am_M), X G dp a b M9_drawn 20 [some (rV (some r0)), some (iV (i1))] [iV (z)] m' Q → Q' (.inl (some (iV (z)))) m') → T G (dp - 1) 0 0 M9_isIn [iV (i1), iV (0), iV (wr ((m.1 r0 16) - 1))] m Q')  : X G dp a b M9_drawn 9 [some (rV (some r0)), some (iV (i1))] [] m Q := by
  refine X_iload_n dX9_drawn_9 rfl rfl ?_
  refine Y_iconst dX9_drawn_10 (by unfold i32; omega) ?_
  refine X_aload_n dX9_drawn_11 rfl rfl ?_
  refine X_getI dX9_drawn_12 fl_9_166 (by decide) h1 ?_
  refine Y_iconst dX9_drawn_15 (by unfold i32; omega) ?_
  refine X_isub dX9_drawn_16  ?_
  exact X_callS (As := [iV (i1), iV (0), iV (wr ((m.1 r0 16) - 1))]) (rest := []) (a' := 0) (b' := 0) dX9_drawn_17 t9_isIn ml_9_80 rfl rfl (Nat.le_of_ble_eq_true rfl) rfl hdp (Nat.zero_le _) (Nat.zero_le _) (k1 _ (fun z m' h => h))

theorem s9_drawn_20 {G : am_G} {dp a b : Nat} {m : am_M} {Q : am_Q} {i1 i90 : Int} {r0 p1 : Nat} {n_p1 : Nat} (hdp : 1 ≤ dp) (h1 : am_ob m r0 8) (h2 : m.2.1 r0 0 = some p1) (h3 : am_ar m p1 100 n_p1) (k1 : (i90 = 0) → ∀ Q' : am_Q, (∀ (z : Int) (m' : am_M), X G dp a b M9_drawn 41 [some (rV (some r0)), some (iV (i1))] [iV (z)] m' Q → Q' (.inl (some (iV (z)))) m') → T G (dp - 1) 0 0 M9_fail [rV (some r0), iV (1)] m Q') (k2 : ¬ (i90 = 0) → X G dp a b M9_drawn 41 [some (rV (some r0)), some (iV (i1))] [iV (m.1 p1 (wr (1214 + i1)).toNat)] m Q) (h4 : ¬ (i90 = 0) → 0 ≤ wr (1214 + i1) := by intros; first | omega | (dsimp only at *; omega)) (h5 : ¬ (i90 = 0) → wr (1214 + i1) < (n_p1 : Int) := by intros; first | omega | (dsimp only at *; omega)) : X G dp a b M9_drawn 20 [some (rV (some r0)), some (iV (i1))] [iV (i90)] m Q := by
  refine X_if_eq (tgt := 36) dX9_drawn_20 (by decide) (fun c1 => ?_) (fun c1 => ?_)
  · refine X_aload_n dX9_drawn_36 rfl rfl ?_
    refine Y_iconst dX9_drawn_37 (by unfold i32; omega) ?_
    exact X_callV (As := [iV (1)]) (rest := []) (a' := 0) (b' := 0) dX9_drawn_38 t9_fail ml_9_210 h1 rfl rfl (Nat.le_of_ble_eq_true rfl) rfl hdp (Nat.zero_le _) (Nat.zero_le _) ((k1 c1) _ (fun z m' h => h))
  · refine X_aload_n dX9_drawn_23 rfl rfl ?_
    refine X_getP dX9_drawn_24 fl_9_9 rfl h1 ?_
    refine am_ptr h2 ?_
    refine Y_sipush dX9_drawn_27 (by omega) ?_
    refine X_iload_n dX9_drawn_30 rfl rfl ?_
    refine X_iadd dX9_drawn_31  ?_
    refine X_iald dX9_drawn_32 h3 (h4 c1) (h5 c1) ?_
    refine X_goto (tgt := 41) dX9_drawn_33 (by decide) ?_
    exact (k2 c1)

theorem s9_drawn_41 {G : am_G} {dp a b : Nat} {m : am_M} {Q : am_Q} {i1 i90 : Int} {r0 : Nat}  (k1 : Q (.inl (some (iV (i90)))) m)  : X G dp a b M9_drawn 41 [some (rV (some r0)), some (iV (i1))] [iV (i90)] m Q := by
  exact X_iret dX9_drawn_41 rfl k1

theorem s9_times__0 {G : am_G} {dp a b : Nat} {m : am_M} {Q : am_Q} {i1 : Int} {r0 : Nat} (hdp : 1 ≤ dp) (h1 : am_obw m r0 8) (k1 : ∀ Q' : am_Q, (∀ (z : Int) (m' : am_M), X G dp a b M9_times_ 10 [some (rV (some r0)), some (iV (i1))] [iV (z)] m' Q → Q' (.inl (some (iV (z)))) m') → T G (dp - 1) 0 0 M9_isBallot [rV (some r0), iV (i1)] ((u2 m.1 r0 7 (0)), m.2.1, m.2.2) Q')  : X G dp a b M9_times_ 0 [some (rV (some r0)), some (iV (i1))] [] m Q := by
  refine X_aload_n dX9_times__0 rfl rfl ?_
  refine Y_iconst dX9_times__1 (by unfold i32; omega) ?_
  refine X_putI dX9_times__2 fw_9_73 rfl h1 ?_
  refine X_aload_n dX9_times__5 rfl rfl ?_
  refine X_iload_n dX9_times__6 rfl rfl ?_
  exact X_callV (As := [iV (i1)]) (rest := []) (a' := 0) (b' := 0) dX9_times__7 t9_isBallot ml_9_251 (am_ow h1) rfl rfl (Nat.le_of_ble_eq_true rfl) rfl hdp (Nat.zero_le _) (Nat.zero_le _) (k1 _ (fun z m' h => h))

theorem s9_times__10 {G : am_G} {dp a b : Nat} {m : am_M} {Q : am_Q} {i1 i90 : Int} {r0 : Nat} (hdp : 1 ≤ dp) (h1 : am_ob m r0 8) (k1 : ¬ (i90 = 0) → ∀ Q' : am_Q, (∀ (m' : am_M), X G dp a b M9_times_ 23 [some (rV (some r0)), some (iV (i1))] [] m' Q → Q' (.inl none) m') → T G (dp - 1) 0 0 M9_goes [rV (some r0)] m Q') (k2 : (i90 = 0) → ∀ Q' : am_Q, (∀ (z : Int) (m' : am_M), X G dp a b M9_times_ 18 [some (rV (some r0)), some (iV (i1))] [iV (z)] m' Q → Q' (.inl (some (iV (z)))) m') → T G (dp - 1) 0 0 M9_fail [rV (some r0), iV (1)] m Q')  : X G dp a b M9_times_ 10 [some (rV (some r0)), some (iV (i1))] [iV (i90)] m Q := by
  refine X_if_ne (tgt := 19) dX9_times__10 (by decide) (fun c1 => ?_) (fun c1 => ?_)
  · refine X_aload_n dX9_times__19 rfl rfl ?_
    exact X_callV (As := []) (rest := []) (a' := 0) (b' := 0) dX9_times__20 t9_goes ml_9_213 h1 rfl rfl (Nat.le_of_ble_eq_true rfl) rfl hdp (Nat.zero_le _) (Nat.zero_le _) ((k1 c1) _ (fun m' h => h))
  · refine X_aload_n dX9_times__13 rfl rfl ?_
    refine Y_iconst dX9_times__14 (by unfold i32; omega) ?_
    exact X_callV (As := [iV (1)]) (rest := []) (a' := 0) (b' := 0) dX9_times__15 t9_fail ml_9_210 h1 rfl rfl (Nat.le_of_ble_eq_true rfl) rfl hdp (Nat.zero_le _) (Nat.zero_le _) ((k2 c1) _ (fun z m' h => h))

theorem s9_times__18 {G : am_G} {dp a b : Nat} {m : am_M} {Q : am_Q} {i1 i90 : Int} {r0 : Nat}  (k1 : Q (.inl (some (iV (i90)))) m)  : X G dp a b M9_times_ 18 [some (rV (some r0)), some (iV (i1))] [iV (i90)] m Q := by
  exact X_iret dX9_times__18 rfl k1

theorem s9_times__23 {G : am_G} {dp a b : Nat} {m : am_M} {Q : am_Q} {i1 : Int} {r0 : Nat} (hdp : 1 ≤ dp) (h1 : am_ob m r0 8) (k1 : ∀ Q' : am_Q, (∀ (m' : am_M), X G dp a b M9_times_ 27 [some (rV (some r0)), some (iV (i1))] [] m' Q → Q' (.inl none) m') → T G (dp - 1) 0 0 M9_layTimes [rV (some r0)] m Q')  : X G dp a b M9_times_ 23 [some (rV (some r0)), some (iV (i1))] [] m Q := by
  refine X_aload_n dX9_times__23 rfl rfl ?_
  exact X_callV (As := []) (rest := []) (a' := 0) (b' := 0) dX9_times__24 t9_layTimes ml_9_225 h1 rfl rfl (Nat.le_of_ble_eq_true rfl) rfl hdp (Nat.zero_le _) (Nat.zero_le _) (k1 _ (fun m' h => h))

theorem s9_times__27 {G : am_G} {dp a b : Nat} {m : am_M} {Q : am_Q} {i1 : Int} {r0 p1 : Nat} {n_p1 : Nat} (h1 : am_ob m r0 8) (h2 : m.2.1 r0 19 = some p1) (h3 : am_ar m p1 100 n_p1) (k1 : Q (.inl (some (iV (m.1 p1 (i1).toNat)))) m) (h4 : 0 ≤ i1 := by intros; first | omega | (dsimp only at *; omega)) (h5 : i1 < (n_p1 : Int) := by intros; first | omega | (dsimp only at *; omega)) : X G dp a b M9_times_ 27 [some (rV (some r0)), some (iV (i1))] [] m Q := by
  refine X_aload_n dX9_times__27 rfl rfl ?_
  refine X_getP dX9_times__28 fl_9_53 rfl h1 ?_
  refine am_ptr h2 ?_
  refine X_iload_n dX9_times__31 rfl rfl ?_
  refine X_iald dX9_times__32 h3 h4 h5 ?_
  exact X_iret dX9_times__33 rfl k1

theorem s9_mistakes_0 {G : am_G} {dp a b : Nat} {m : am_M} {Q : am_Q} {i1 i2 : Int} {r0 : Nat} {o3 o4 : Option am_V} (hdp : 1 ≤ dp) (h1 : am_obw m r0 8) (k1 : ∀ Q' : am_Q, (∀ (z : Int) (m' : am_M), X G dp a b M9_mistakes 10 [some (rV (some r0)), some (iV (i1)), some (iV (i2)), o3, o4] [iV (z)] m' Q → Q' (.inl (some (iV (z)))) m') → T G (dp - 1) 0 0 M9_isRace [rV (some r0), iV (i1)] ((u2 m.1 r0 7 (0)), m.2.1, m.2.2) Q')  : X G dp a b M9_mistakes 0 [some (rV (some r0)), some (iV (i1)), some (iV (i2)), o3, o4] [] m Q := by
  refine X_aload_n dX9_mistakes_0 rfl rfl ?_
  refine Y_iconst dX9_mistakes_1 (by unfold i32; omega) ?_
  refine X_putI dX9_mistakes_2 fw_9_73 rfl h1 ?_
  refine X_aload_n dX9_mistakes_5 rfl rfl ?_
  refine X_iload_n dX9_mistakes_6 rfl rfl ?_
  exact X_callV (As := [iV (i1)]) (rest := []) (a' := 0) (b' := 0) dX9_mistakes_7 t9_isRace ml_9_240 (am_ow h1) rfl rfl (Nat.le_of_ble_eq_true rfl) rfl hdp (Nat.zero_le _) (Nat.zero_le _) (k1 _ (fun z m' h => h))

theorem s9_mistakes_10 {G : am_G} {dp a b : Nat} {m : am_M} {Q : am_Q} {i1 i2 i90 : Int} {r0 : Nat} {o3 o4 : Option am_V} (hdp : 1 ≤ dp) (h1 : am_ob m r0 8) (k1 : (i90 = 0) → ∀ Q' : am_Q, (∀ (z : Int) (m' : am_M), X G dp a b M9_mistakes 28 [some (rV (some r0)), some (iV (i1)), some (iV (i2)), o3, o4] [iV (z)] m' Q → Q' (.inl (some (iV (z)))) m') → T G (dp - 1) 0 0 M9_fail [rV (some r0), iV (1)] m Q') (k2 : ¬ (i90 = 0) → ∀ Q' : am_Q, (∀ (z : Int) (m' : am_M), X G dp a b M9_mistakes 20 [some (rV (some r0)), some (iV (i1)), some (iV (i2)), o3, o4] [iV (z)] m' Q → Q' (.inl (some (iV (z)))) m') → T G (dp - 1) 0 0 M9_isIn [iV (i2), iV ((-2)), iV (2)] m Q')  : X G dp a b M9_mistakes 10 [some (rV (some r0)), some (iV (i1)), some (iV (i2)), o3, o4] [iV (i90)] m Q := by
  refine X_if_eq (tgt := 23) dX9_mistakes_10 (by decide) (fun c1 => ?_) (fun c1 => ?_)
  · refine X_aload_n dX9_mistakes_23 rfl rfl ?_
    refine Y_iconst dX9_mistakes_24 (by unfold i32; omega) ?_
    exact X_callV (As := [iV (1)]) (rest := []) (a' := 0) (b' := 0) dX9_mistakes_25 t9_fail ml_9_210 h1 rfl rfl (Nat.le_of_ble_eq_true rfl) rfl hdp (Nat.zero_le _) (Nat.zero_le _) ((k1 c1) _ (fun z m' h => h))
  · refine X_iload_n dX9_mistakes_13 rfl rfl ?_
    refine Y_bipush dX9_mistakes_14 (by omega) ?_
    refine Y_iconst dX9_mistakes_16 (by unfold i32; omega) ?_
    exact X_callS (As := [iV (i2), iV ((-2)), iV (2)]) (rest := []) (a' := 0) (b' := 0) dX9_mistakes_17 t9_isIn ml_9_80 rfl rfl (Nat.le_of_ble_eq_true rfl) rfl hdp (Nat.zero_le _) (Nat.zero_le _) ((k2 c1) _ (fun z m' h => h))

theorem s9_mistakes_20 {G : am_G} {dp a b : Nat} {m : am_M} {Q : am_Q} {i1 i2 i90 : Int} {r0 : Nat} {o3 o4 : Option am_V} (hdp : 1 ≤ dp) (h1 : am_ob m r0 8) (k1 : ¬ (i90 = 0) → ∀ Q' : am_Q, (∀ (m' : am_M), X G dp a b M9_mistakes 33 [some (rV (some r0)), some (iV (i1)), some (iV (i2)), o3, o4] [] m' Q → Q' (.inl none) m') → T G (dp - 1) 0 0 M9_goes [rV (some r0)] m Q') (k2 : (i90 = 0) → ∀ Q' : am_Q, (∀ (z : Int) (m' : am_M), X G dp a b M9_mistakes 28 [some (rV (some r0)), some (iV (i1)), some (iV (i2)), o3, o4] [iV (z)] m' Q → Q' (.inl (some (iV (z)))) m') → T G (dp - 1) 0 0 M9_fail [rV (some r0), iV (1)] m Q')  : X G dp a b M9_mistakes 20 [some (rV (some r0)), some (iV (i1)), some (iV (i2)), o3, o4] [iV (i90)] m Q := by
  refine X_if_ne (tgt := 29) dX9_mistakes_20 (by decide) (fun c1 => ?_) (fun c1 => ?_)
  · refine X_aload_n dX9_mistakes_29 rfl rfl ?_
    exact X_callV (As := []) (rest := []) (a' := 0) (b' := 0) dX9_mistakes_30 t9_goes ml_9_213 h1 rfl rfl (Nat.le_of_ble_eq_true rfl) rfl hdp (Nat.zero_le _) (Nat.zero_le _) ((k1 c1) _ (fun m' h => h))
  · refine X_aload_n dX9_mistakes_23 rfl rfl ?_
    refine Y_iconst dX9_mistakes_24 (by unfold i32; omega) ?_
    exact X_callV (As := [iV (1)]) (rest := []) (a' := 0) (b' := 0) dX9_mistakes_25 t9_fail ml_9_210 h1 rfl rfl (Nat.le_of_ble_eq_true rfl) rfl hdp (Nat.zero_le _) (Nat.zero_le _) ((k2 c1) _ (fun z m' h => h))

theorem s9_mistakes_28 {G : am_G} {dp a b : Nat} {m : am_M} {Q : am_Q} {i1 i2 i90 : Int} {r0 : Nat} {o3 o4 : Option am_V}  (k1 : Q (.inl (some (iV (i90)))) m)  : X G dp a b M9_mistakes 28 [some (rV (some r0)), some (iV (i1)), some (iV (i2)), o3, o4] [iV (i90)] m Q := by
  exact X_iret dX9_mistakes_28 rfl k1

theorem s9_mistakes_33 {G : am_G} {dp a b : Nat} {m : am_M} {Q : am_Q} {i1 i2 : Int} {r0 : Nat} {o3 o4 : Option am_V}  (k1 : X G dp a b M9_mistakes 38 [some (rV (some r0)), some (iV (i1)), some (iV (i2)), some (iV (0)), some (iV (0))] [] m Q)  : X G dp a b M9_mistakes 33 [some (rV (some r0)), some (iV (i1)), some (iV (i2)), o3, o4] [] m Q := by
  refine Y_iconst dX9_mistakes_33 (by unfold i32; omega) ?_
  refine X_istore_n dX9_mistakes_34 rfl (Nat.le_of_ble_eq_true rfl) ?_
  refine Y_iconst dX9_mistakes_35 (by unfold i32; omega) ?_
  refine X_istore dX9_mistakes_36 (Nat.le_of_ble_eq_true rfl) ?_
  exact k1

theorem s9_mistakes_38 {G : am_G} {dp a b : Nat} {m : am_M} {Q : am_Q} {i1 i2 i3 i4 : Int} {r0 p1 : Nat} {n_p1 : Nat} (hdp : 1 ≤ dp) (h1 : am_ob m r0 8) (h2 : m.2.1 r0 0 = some p1) (h3 : am_ar m p1 100 n_p1) (k1 : ((m.1 r0 16) ≤ i4) → Q (.inl (some (iV (i3)))) m) (k2 : ¬ ((m.1 r0 16) ≤ i4) → ∀ Q' : am_Q, (∀ (z : Int) (m' : am_M), X G dp a b M9_mistakes 63 [some (rV (some r0)), some (iV (i1)), some (iV (i2)), some (iV (i3)), some (iV (i4))] [iV (z)] m' Q → Q' (.inl (some (iV (z)))) m') → T G (dp - 1) 0 0 M9_mistakeAt [rV (some r0), iV (m.1 p1 (wr (1214 + i4)).toNat), iV (i1)] m Q') (h4 : ¬ ((m.1 r0 16) ≤ i4) → 0 ≤ wr (1214 + i4) := by intros; first | omega | (dsimp only at *; omega)) (h5 : ¬ ((m.1 r0 16) ≤ i4) → wr (1214 + i4) < (n_p1 : Int) := by intros; first | omega | (dsimp only at *; omega)) : X G dp a b M9_mistakes 38 [some (rV (some r0)), some (iV (i1)), some (iV (i2)), some (iV (i3)), some (iV (i4))] [] m Q := by
  refine X_iload dX9_mistakes_38 rfl ?_
  refine X_aload_n dX9_mistakes_40 rfl rfl ?_
  refine X_getI dX9_mistakes_41 fl_9_166 (by decide) h1 ?_
  refine X_icmp_ge (tgt := 76) dX9_mistakes_44 (by decide) (fun c1 => ?_) (fun c1 => ?_)
  · refine X_iload_n dX9_mistakes_76 rfl rfl ?_
    exact X_iret dX9_mistakes_77 rfl (k1 c1)
  · refine X_aload_n dX9_mistakes_47 rfl rfl ?_
    refine X_aload_n dX9_mistakes_48 rfl rfl ?_
    refine X_getP dX9_mistakes_49 fl_9_9 rfl h1 ?_
    refine am_ptr h2 ?_
    refine Y_sipush dX9_mistakes_52 (by omega) ?_
    refine X_iload dX9_mistakes_55 rfl ?_
    refine X_iadd dX9_mistakes_57  ?_
    refine X_iald dX9_mistakes_58 h3 (h4 c1) (h5 c1) ?_
    refine X_iload_n dX9_mistakes_59 rfl rfl ?_
    exact X_callV (As := [iV (m.1 p1 (wr (1214 + i4)).toNat), iV (i1)]) (rest := []) (a' := 0) (b' := 0) dX9_mistakes_60 t9_mistakeAt ml_9_172 h1 rfl rfl (Nat.le_of_ble_eq_true rfl) rfl hdp (Nat.zero_le _) (Nat.zero_le _) ((k2 c1) _ (fun z m' h => h))

theorem s9_mistakes_63 {G : am_G} {dp a b : Nat} {m : am_M} {Q : am_Q} {i1 i2 i3 i4 i90 : Int} {r0 : Nat}  (k1 : ¬ (i90 = i2) → X G dp a b M9_mistakes 38 [some (rV (some r0)), some (iV (i1)), some (iV (i2)), some (iV (i3)), some (iV (wr (i4 + 1)))] [] m Q) (k2 : (i90 = i2) → X G dp a b M9_mistakes 38 [some (rV (some r0)), some (iV (i1)), some (iV (i2)), some (iV (wr (i3 + 1))), some (iV (wr (i4 + 1)))] [] m Q)  : X G dp a b M9_mistakes 63 [some (rV (some r0)), some (iV (i1)), some (iV (i2)), some (iV (i3)), some (iV (i4))] [iV (i90)] m Q := by
  refine X_iload_n dX9_mistakes_63 rfl rfl ?_
  refine X_icmp_ne (tgt := 70) dX9_mistakes_64 (by decide) (fun c1 => ?_) (fun c1 => ?_)
  · refine X_iinc dX9_mistakes_70 rfl ?_
    refine X_goto (tgt := 38) dX9_mistakes_73 (by decide) ?_
    exact (k1 c1)
  · refine X_iinc dX9_mistakes_67 rfl ?_
    refine X_iinc dX9_mistakes_70 rfl ?_
    refine X_goto (tgt := 38) dX9_mistakes_73 (by decide) ?_
    exact (k2 c1)

theorem s9_keep_0 {G : am_G} {dp a b : Nat} {m : am_M} {Q : am_Q} {r0 : Nat} {o1 : Option am_V} (h1 : am_ob m r0 8) (k1 : ¬ ((m.1 r0 6) = 12) → X G dp a b M9_keep 54 [some (rV (some r0)), some (iV (0))] [] m Q) (k2 : ((m.1 r0 6) = 12) → X G dp a b M9_keep 13 [some (rV (some r0)), some (iV (1514))] [] m Q)  : X G dp a b M9_keep 0 [some (rV (some r0)), o1] [] m Q := by
  refine X_aload_n dX9_keep_0 rfl rfl ?_
  refine X_getI dX9_keep_1 fl_9_234 (by decide) h1 ?_
  refine Y_bipush dX9_keep_4 (by omega) ?_
  refine X_icmp_ne (tgt := 52) dX9_keep_6 (by decide) (fun c1 => ?_) (fun c1 => ?_)
  · refine Y_iconst dX9_keep_52 (by unfold i32; omega) ?_
    refine X_istore_n dX9_keep_53 rfl (Nat.le_of_ble_eq_true rfl) ?_
    exact (k1 c1)
  · refine Y_sipush dX9_keep_9 (by omega) ?_
    refine X_istore_n dX9_keep_12 rfl (Nat.le_of_ble_eq_true rfl) ?_
    exact (k2 c1)

theorem s9_keep_13 {G : am_G} {dp a b : Nat} {m : am_M} {Q : am_Q} {i1 : Int} {r0 p1 : Nat} {n_p1 : Nat} (h2 : am_obw m r0 8) (h3 : m.2.1 r0 4 = some p1) (h7 : am_arw m p1 100 n_p1) (k1 : (18168 ≤ i1) → X G dp a b M9_keep 54 [some (rV (some r0)), some (iV (0))] [] ((u2 m.1 r0 6 (wr ((m.1 r0 6) - 1))), m.2.1, m.2.2) Q) (k2 : ¬ (18168 ≤ i1) → X G dp a b M9_keep 13 [some (rV (some r0)), some (iV (wr (i1 + 1)))] [] ((u2 m.1 p1 (wr (i1 - 1514)).toNat (m.1 p1 (i1).toNat)), m.2.1, m.2.2) Q) (h5 : ¬ (18168 ≤ i1) → 0 ≤ i1 := by intros; first | omega | (dsimp only at *; omega)) (h6 : ¬ (18168 ≤ i1) → i1 < (n_p1 : Int) := by intros; first | omega | (dsimp only at *; omega)) (h8 : ¬ (18168 ≤ i1) → 0 ≤ wr (i1 - 1514) := by intros; first | omega | (dsimp only at *; omega)) (h9 : ¬ (18168 ≤ i1) → wr (i1 - 1514) < (n_p1 : Int) := by intros; first | omega | (dsimp only at *; omega)) : X G dp a b M9_keep 13 [some (rV (some r0)), some (iV (i1))] [] m Q := by
  refine X_iload_n dX9_keep_13 rfl rfl ?_
  refine Y_sipush dX9_keep_14 (by omega) ?_
  refine X_icmp_ge (tgt := 42) dX9_keep_17 (by decide) (fun c1 => ?_) (fun c1 => ?_)
  · refine X_aload_n dX9_keep_42 rfl rfl ?_
    refine X_dup dX9_keep_43 rfl ?_
    refine X_getI dX9_keep_44 fl_9_234 (by decide) (am_ow h2) ?_
    refine Y_iconst dX9_keep_47 (by unfold i32; omega) ?_
    refine X_isub dX9_keep_48  ?_
    refine X_putI dX9_keep_49 fw_9_234 rfl h2 ?_
    refine Y_iconst dX9_keep_52 (by unfold i32; omega) ?_
    refine X_istore_n dX9_keep_53 rfl (Nat.le_of_ble_eq_true rfl) ?_
    exact (k1 c1)
  · refine X_aload_n dX9_keep_20 rfl rfl ?_
    refine X_getP dX9_keep_21 fl_9_22 rfl (am_ow h2) ?_
    refine am_ptr h3 ?_
    refine X_iload_n dX9_keep_24 rfl rfl ?_
    refine Y_sipush dX9_keep_25 (by omega) ?_
    refine X_isub dX9_keep_28  ?_
    refine X_aload_n dX9_keep_29 rfl rfl ?_
    refine X_getP dX9_keep_30 fl_9_22 rfl (am_ow h2) ?_
    refine am_ptr h3 ?_
    refine X_iload_n dX9_keep_33 rfl rfl ?_
    refine X_iald dX9_keep_34 (am_rw h7) (h5 c1) (h6 c1) ?_
    refine X_iast dX9_keep_35 h7 (h8 c1) (h9 c1) ?_
    refine X_iinc dX9_keep_36 rfl ?_
    refine X_goto (tgt := 13) dX9_keep_39 (by decide) ?_
    exact (k2 c1)

theorem s9_keep_54 {G : am_G} {dp a b : Nat} {m : am_M} {Q : am_Q} {i1 : Int} {r0 p1 p2 : Nat} {n_p2 n_p1 : Nat} (h2 : am_obw m r0 8) (h3 : m.2.1 r0 4 = some p1) (h4 : m.2.1 r0 0 = some p2) (h5 : am_ar m p2 100 n_p2) (h8 : am_arw m p1 100 n_p1) (k1 : (1514 ≤ i1) → Q (.inl none) ((u2 m.1 r0 6 (wr ((m.1 r0 6) + 1))), m.2.1, m.2.2)) (k2 : ¬ (1514 ≤ i1) → X G dp a b M9_keep 54 [some (rV (some r0)), some (iV (wr (i1 + 1)))] [] ((u2 m.1 p1 (wr ((wr (1514 * (m.1 r0 6))) + i1)).toNat (m.1 p2 (i1).toNat)), m.2.1, m.2.2) Q) (h6 : ¬ (1514 ≤ i1) → 0 ≤ i1 := by intros; first | omega | (dsimp only at *; omega)) (h7 : ¬ (1514 ≤ i1) → i1 < (n_p2 : Int) := by intros; first | omega | (dsimp only at *; omega)) (h9 : ¬ (1514 ≤ i1) → 0 ≤ wr ((wr (1514 * (m.1 r0 6))) + i1) := by intros; first | omega | (dsimp only at *; omega)) (h10 : ¬ (1514 ≤ i1) → wr ((wr (1514 * (m.1 r0 6))) + i1) < (n_p1 : Int) := by intros; first | omega | (dsimp only at *; omega)) : X G dp a b M9_keep 54 [some (rV (some r0)), some (iV (i1))] [] m Q := by
  refine X_iload_n dX9_keep_54 rfl rfl ?_
  refine Y_sipush dX9_keep_55 (by omega) ?_
  refine X_icmp_ge (tgt := 88) dX9_keep_58 (by decide) (fun c1 => ?_) (fun c1 => ?_)
  · refine X_aload_n dX9_keep_88 rfl rfl ?_
    refine X_dup dX9_keep_89 rfl ?_
    refine X_getI dX9_keep_90 fl_9_234 (by decide) (am_ow h2) ?_
    refine Y_iconst dX9_keep_93 (by unfold i32; omega) ?_
    refine X_iadd dX9_keep_94  ?_
    refine X_putI dX9_keep_95 fw_9_234 rfl h2 ?_
    exact X_vret dX9_keep_98 rfl (k1 c1)
  · refine X_aload_n dX9_keep_61 rfl rfl ?_
    refine X_getP dX9_keep_62 fl_9_22 rfl (am_ow h2) ?_
    refine am_ptr h3 ?_
    refine Y_sipush dX9_keep_65 (by omega) ?_
    refine X_aload_n dX9_keep_68 rfl rfl ?_
    refine X_getI dX9_keep_69 fl_9_234 (by decide) (am_ow h2) ?_
    refine X_imul dX9_keep_72  ?_
    refine X_iload_n dX9_keep_73 rfl rfl ?_
    refine X_iadd dX9_keep_74  ?_
    refine X_aload_n dX9_keep_75 rfl rfl ?_
    refine X_getP dX9_keep_76 fl_9_9 rfl (am_ow h2) ?_
    refine am_ptr h4 ?_
    refine X_iload_n dX9_keep_79 rfl rfl ?_
    refine X_iald dX9_keep_80 h5 (h6 c1) (h7 c1) ?_
    refine X_iast dX9_keep_81 h8 (h9 c1) (h10 c1) ?_
    refine X_iinc dX9_keep_82 rfl ?_
    refine X_goto (tgt := 54) dX9_keep_85 (by decide) ?_
    exact (k2 c1)

theorem s9_becomes_0 {G : am_G} {dp a b : Nat} {m : am_M} {Q : am_Q} {i1 i2 : Int} {r0 : Nat} {o3 : Option am_V} (hdp : 1 ≤ dp) (h1 : am_ob m r0 8) (k1 : ∀ Q' : am_Q, (∀ (m' : am_M), X G dp a b M9_becomes 4 [some (rV (some r0)), some (iV (i1)), some (iV (i2)), o3] [] m' Q → Q' (.inl none) m') → T G (dp - 1) 0 0 M9_keep [rV (some r0)] m Q')  : X G dp a b M9_becomes 0 [some (rV (some r0)), some (iV (i1)), some (iV (i2)), o3] [] m Q := by
  refine X_aload_n dX9_becomes_0 rfl rfl ?_
  exact X_callV (As := []) (rest := []) (a' := 0) (b' := 0) dX9_becomes_1 t9_keep ml_9_216 h1 rfl rfl (Nat.le_of_ble_eq_true rfl) rfl hdp (Nat.zero_le _) (Nat.zero_le _) (k1 _ (fun m' h => h))

theorem s9_becomes_4 {G : am_G} {dp a b : Nat} {m : am_M} {Q : am_Q} {i1 i2 : Int} {r0 p1 : Nat} {o3 : Option am_V} {n_p1 : Nat} (h1 : am_ob m r0 8) (h2 : m.2.1 r0 0 = some p1) (h6 : am_arw m p1 100 n_p1) (k1 : Q (.inl (some (iV (m.1 p1 (i1).toNat)))) ((u2 m.1 p1 (i1).toNat (i2)), m.2.1, m.2.2)) (h4 : 0 ≤ i1 := by intros; first | omega | (dsimp only at *; omega)) (h5 : i1 < (n_p1 : Int) := by intros; first | omega | (dsimp only at *; omega)) : X G dp a b M9_becomes 4 [some (rV (some r0)), some (iV (i1)), some (iV (i2)), o3] [] m Q := by
  refine X_aload_n dX9_becomes_4 rfl rfl ?_
  refine X_getP dX9_becomes_5 fl_9_9 rfl h1 ?_
  refine am_ptr h2 ?_
  refine X_iload_n dX9_becomes_8 rfl rfl ?_
  refine X_iald dX9_becomes_9 (am_rw h6) h4 h5 ?_
  refine X_istore_n dX9_becomes_10 rfl (Nat.le_of_ble_eq_true rfl) ?_
  refine X_aload_n dX9_becomes_11 rfl rfl ?_
  refine X_getP dX9_becomes_12 fl_9_9 rfl h1 ?_
  refine am_ptr h2 ?_
  refine X_iload_n dX9_becomes_15 rfl rfl ?_
  refine X_iload_n dX9_becomes_16 rfl rfl ?_
  refine X_iast dX9_becomes_17 h6 h4 h5 ?_
  refine X_iload_n dX9_becomes_18 rfl rfl ?_
  exact X_iret dX9_becomes_19 rfl k1

theorem s9_paper_0 {G : am_G} {dp a b : Nat} {m : am_M} {Q : am_Q} {i1 i2 i3 : Int} {r0 : Nat} (hdp : 1 ≤ dp) (h1 : am_ob m r0 8) (k1 : ∀ Q' : am_Q, (∀ (z : Int) (m' : am_M), X G dp a b M9_paper 6 [some (rV (some r0)), some (iV (i1)), some (iV (i2)), some (iV (i3))] [iV (z), rV (some r0)] m' Q → Q' (.inl (some (iV (z)))) m') → T G (dp - 1) 0 0 M9_isBallot [rV (some r0), iV (i1)] m Q')  : X G dp a b M9_paper 0 [some (rV (some r0)), some (iV (i1)), some (iV (i2)), some (iV (i3))] [] m Q := by
  refine X_aload_n dX9_paper_0 rfl rfl ?_
  refine X_aload_n dX9_paper_1 rfl rfl ?_
  refine X_iload_n dX9_paper_2 rfl rfl ?_
  exact X_callV (As := [iV (i1)]) (rest := [rV (some r0)]) (a' := 0) (b' := 0) dX9_paper_3 t9_isBallot ml_9_251 h1 rfl rfl (Nat.le_of_ble_eq_true rfl) rfl hdp (Nat.zero_le _) (Nat.zero_le _) (k1 _ (fun z m' h => h))

theorem s9_paper_6 {G : am_G} {dp a b : Nat} {m : am_M} {Q : am_Q} {i1 i2 i3 i90 : Int} {r0 r91 : Nat} (hdp : 1 ≤ dp) (h1 : am_obw m r91 8) (h2 : am_ob m r0 8) (k1 : (i90 = 0) → (((u2 m.1 r91 7 (1)) r0 7) ≤ 0) → ∀ Q' : am_Q, (∀ (z : Int) (m' : am_M), X G dp a b M9_paper 65 [some (rV (some r0)), some (iV (i1)), some (iV (i2)), some (iV (i3))] [iV (z), rV (some r0)] m' Q → Q' (.inl (some (iV (z)))) m') → T G (dp - 1) 0 0 M9_at [iV (614), iV (i1), iV (i2)] ((u2 m.1 r91 7 (1)), m.2.1, m.2.2) Q') (k2 : (i90 = 0) → ¬ (((u2 m.1 r91 7 (1)) r0 7) ≤ 0) → X G dp a b M9_paper 69 [some (rV (some r0)), some (iV (i1)), some (iV (i2)), some (iV (i3))] [iV (0)] ((u2 m.1 r91 7 (1)), m.2.1, m.2.2) Q) (k3 : ¬ (i90 = 0) → ∀ Q' : am_Q, (∀ (z : Int) (m' : am_M), X G dp a b M9_paper 14 [some (rV (some r0)), some (iV (i1)), some (iV (i2)), some (iV (i3))] [iV (z), rV (some r91)] m' Q → Q' (.inl (some (iV (z)))) m') → T G (dp - 1) 0 0 M9_isRace [rV (some r0), iV (i2)] m Q')  : X G dp a b M9_paper 6 [some (rV (some r0)), some (iV (i1)), some (iV (i2)), some (iV (i3))] [iV (i90), rV (some r91)] m Q := by
  refine X_if_eq (tgt := 17) dX9_paper_6 (by decide) (fun c1 => ?_) (fun c1 => ?_)
  · refine Y_iconst dX9_paper_17 (by unfold i32; omega) ?_
    refine X_goto (tgt := 42) dX9_paper_18 (by decide) ?_
    refine X_putI dX9_paper_42 fw_9_73 rfl h1 ?_
    refine X_aload_n dX9_paper_45 rfl rfl ?_
    refine X_getI dX9_paper_46 fl_9_73 (by decide) h2 ?_
    refine X_if_le (tgt := 56) dX9_paper_49 (by decide) (fun c2 => ?_) (fun c2 => ?_)
    · refine X_aload_n dX9_paper_56 rfl rfl ?_
      refine Y_sipush dX9_paper_57 (by omega) ?_
      refine X_iload_n dX9_paper_60 rfl rfl ?_
      refine X_iload_n dX9_paper_61 rfl rfl ?_
      exact X_callS (As := [iV (614), iV (i1), iV (i2)]) (rest := [rV (some r0)]) (a' := 0) (b' := 0) dX9_paper_62 t9_at ml_9_91 rfl rfl (Nat.le_of_ble_eq_true rfl) rfl hdp (Nat.zero_le _) (Nat.zero_le _) ((k1 c1 c2) _ (fun z m' h => h))
    · refine Y_iconst dX9_paper_52 (by unfold i32; omega) ?_
      refine X_goto (tgt := 69) dX9_paper_53 (by decide) ?_
      exact (k2 c1 c2)
  · refine X_aload_n dX9_paper_9 rfl rfl ?_
    refine X_iload_n dX9_paper_10 rfl rfl ?_
    exact X_callV (As := [iV (i2)]) (rest := [rV (some r91)]) (a' := 0) (b' := 0) dX9_paper_11 t9_isRace ml_9_240 h2 rfl rfl (Nat.le_of_ble_eq_true rfl) rfl hdp (Nat.zero_le _) (Nat.zero_le _) ((k3 c1) _ (fun z m' h => h))

theorem s9_paper_14 {G : am_G} {dp a b : Nat} {m : am_M} {Q : am_Q} {i1 i2 i3 i90 : Int} {r0 r91 : Nat} (hdp : 1 ≤ dp) (h1 : am_ob m r0 8) (h2 : am_obw m r91 8) (k1 : ¬ (i90 = 0) → ∀ Q' : am_Q, (∀ (z : Int) (m' : am_M), X G dp a b M9_paper 29 [some (rV (some r0)), some (iV (i1)), some (iV (i2)), some (iV (i3))] [iV (z), iV ((-2)), iV (i3), rV (some r91)] m' Q → Q' (.inl (some (iV (z)))) m') → T G (dp - 1) 0 0 M9_candidates [rV (some r0), iV (i2)] m Q') (k2 : (i90 = 0) → (((u2 m.1 r91 7 (1)) r0 7) ≤ 0) → ∀ Q' : am_Q, (∀ (z : Int) (m' : am_M), X G dp a b M9_paper 65 [some (rV (some r0)), some (iV (i1)), some (iV (i2)), some (iV (i3))] [iV (z), rV (some r0)] m' Q → Q' (.inl (some (iV (z)))) m') → T G (dp - 1) 0 0 M9_at [iV (614), iV (i1), iV (i2)] ((u2 m.1 r91 7 (1)), m.2.1, m.2.2) Q') (k3 : (i90 = 0) → ¬ (((u2 m.1 r91 7 (1)) r0 7) ≤ 0) → X G dp a b M9_paper 69 [some (rV (some r0)), some (iV (i1)), some (iV (i2)), some (iV (i3))] [iV (0)] ((u2 m.1 r91 7 (1)), m.2.1, m.2.2) Q)  : X G dp a b M9_paper 14 [some (rV (some r0)), some (iV (i1)), some (iV (i2)), some (iV (i3))] [iV (i90), rV (some r91)] m Q := by
  refine X_if_ne (tgt := 21) dX9_paper_14 (by decide) (fun c1 => ?_) (fun c1 => ?_)
  · refine X_iload_n dX9_paper_21 rfl rfl ?_
    refine Y_bipush dX9_paper_22 (by omega) ?_
    refine X_aload_n dX9_paper_24 rfl rfl ?_
    refine X_iload_n dX9_paper_25 rfl rfl ?_
    exact X_callV (As := [iV (i2)]) (rest := [iV ((-2)), iV (i3), rV (some r91)]) (a' := 0) (b' := 0) dX9_paper_26 t9_candidates ml_9_87 h1 rfl rfl (Nat.le_of_ble_eq_true rfl) rfl hdp (Nat.zero_le _) (Nat.zero_le _) ((k1 c1) _ (fun z m' h => h))
  · refine Y_iconst dX9_paper_17 (by unfold i32; omega) ?_
    refine X_goto (tgt := 42) dX9_paper_18 (by decide) ?_
    refine X_putI dX9_paper_42 fw_9_73 rfl h2 ?_
    refine X_aload_n dX9_paper_45 rfl rfl ?_
    refine X_getI dX9_paper_46 fl_9_73 (by decide) h1 ?_
    refine X_if_le (tgt := 56) dX9_paper_49 (by decide) (fun c2 => ?_) (fun c2 => ?_)
    · refine X_aload_n dX9_paper_56 rfl rfl ?_
      refine Y_sipush dX9_paper_57 (by omega) ?_
      refine X_iload_n dX9_paper_60 rfl rfl ?_
      refine X_iload_n dX9_paper_61 rfl rfl ?_
      exact X_callS (As := [iV (614), iV (i1), iV (i2)]) (rest := [rV (some r0)]) (a' := 0) (b' := 0) dX9_paper_62 t9_at ml_9_91 rfl rfl (Nat.le_of_ble_eq_true rfl) rfl hdp (Nat.zero_le _) (Nat.zero_le _) ((k2 c1 c2) _ (fun z m' h => h))
    · refine Y_iconst dX9_paper_52 (by unfold i32; omega) ?_
      refine X_goto (tgt := 69) dX9_paper_53 (by decide) ?_
      exact (k3 c1 c2)

theorem s9_paper_29 {G : am_G} {dp a b : Nat} {m : am_M} {Q : am_Q} {i1 i2 i3 i90 i91 i92 : Int} {r0 r93 : Nat} (hdp : 1 ≤ dp)  (k1 : ∀ Q' : am_Q, (∀ (z : Int) (m' : am_M), X G dp a b M9_paper 34 [some (rV (some r0)), some (iV (i1)), some (iV (i2)), some (iV (i3))] [iV (z), rV (some r93)] m' Q → Q' (.inl (some (iV (z)))) m') → T G (dp - 1) 0 0 M9_isIn [iV (i92), iV (i91), iV (wr (i90 - 1))] m Q')  : X G dp a b M9_paper 29 [some (rV (some r0)), some (iV (i1)), some (iV (i2)), some (iV (i3))] [iV (i90), iV (i91), iV (i92), rV (some r93)] m Q := by
  refine Y_iconst dX9_paper_29 (by unfold i32; omega) ?_
  refine X_isub dX9_paper_30  ?_
  exact X_callS (As := [iV (i92), iV (i91), iV (wr (i90 - 1))]) (rest := [rV (some r93)]) (a' := 0) (b' := 0) dX9_paper_31 t9_isIn ml_9_80 rfl rfl (Nat.le_of_ble_eq_true rfl) rfl hdp (Nat.zero_le _) (Nat.zero_le _) (k1 _ (fun z m' h => h))

theorem s9_paper_34 {G : am_G} {dp a b : Nat} {m : am_M} {Q : am_Q} {i1 i2 i3 i90 : Int} {r0 r91 : Nat} (hdp : 1 ≤ dp) (h1 : am_obw m r91 8) (h2 : am_ob m r0 8) (k1 : ¬ (i90 = 0) → (((u2 m.1 r91 7 (0)) r0 7) ≤ 0) → ∀ Q' : am_Q, (∀ (z : Int) (m' : am_M), X G dp a b M9_paper 65 [some (rV (some r0)), some (iV (i1)), some (iV (i2)), some (iV (i3))] [iV (z), rV (some r0)] m' Q → Q' (.inl (some (iV (z)))) m') → T G (dp - 1) 0 0 M9_at [iV (614), iV (i1), iV (i2)] ((u2 m.1 r91 7 (0)), m.2.1, m.2.2) Q') (k2 : ¬ (i90 = 0) → ¬ (((u2 m.1 r91 7 (0)) r0 7) ≤ 0) → X G dp a b M9_paper 69 [some (rV (some r0)), some (iV (i1)), some (iV (i2)), some (iV (i3))] [iV (0)] ((u2 m.1 r91 7 (0)), m.2.1, m.2.2) Q) (k3 : (i90 = 0) → (((u2 m.1 r91 7 (2)) r0 7) ≤ 0) → ∀ Q' : am_Q, (∀ (z : Int) (m' : am_M), X G dp a b M9_paper 65 [some (rV (some r0)), some (iV (i1)), some (iV (i2)), some (iV (i3))] [iV (z), rV (some r0)] m' Q → Q' (.inl (some (iV (z)))) m') → T G (dp - 1) 0 0 M9_at [iV (614), iV (i1), iV (i2)] ((u2 m.1 r91 7 (2)), m.2.1, m.2.2) Q') (k4 : (i90 = 0) → ¬ (((u2 m.1 r91 7 (2)) r0 7) ≤ 0) → X G dp a b M9_paper 69 [some (rV (some r0)), some (iV (i1)), some (iV (i2)), some (iV (i3))] [iV (0)] ((u2 m.1 r91 7 (2)), m.2.1, m.2.2) Q)  : X G dp a b M9_paper 34 [some (rV (some r0)), some (iV (i1)), some (iV (i2)), some (iV (i3))] [iV (i90), rV (some r91)] m Q := by
  refine X_if_ne (tgt := 41) dX9_paper_34 (by decide) (fun c1 => ?_) (fun c1 => ?_)
  · refine Y_iconst dX9_paper_41 (by unfold i32; omega) ?_
    refine X_putI dX9_paper_42 fw_9_73 rfl h1 ?_
    refine X_aload_n dX9_paper_45 rfl rfl ?_
    refine X_getI dX9_paper_46 fl_9_73 (by decide) h2 ?_
    refine X_if_le (tgt := 56) dX9_paper_49 (by decide) (fun c2 => ?_) (fun c2 => ?_)
    · refine X_aload_n dX9_paper_56 rfl rfl ?_
      refine Y_sipush dX9_paper_57 (by omega) ?_
      refine X_iload_n dX9_paper_60 rfl rfl ?_
      refine X_iload_n dX9_paper_61 rfl rfl ?_
      exact X_callS (As := [iV (614), iV (i1), iV (i2)]) (rest := [rV (some r0)]) (a' := 0) (b' := 0) dX9_paper_62 t9_at ml_9_91 rfl rfl (Nat.le_of_ble_eq_true rfl) rfl hdp (Nat.zero_le _) (Nat.zero_le _) ((k1 c1 c2) _ (fun z m' h => h))
    · refine Y_iconst dX9_paper_52 (by unfold i32; omega) ?_
      refine X_goto (tgt := 69) dX9_paper_53 (by decide) ?_
      exact (k2 c1 c2)
  · refine Y_iconst dX9_paper_37 (by unfold i32; omega) ?_
    refine X_goto (tgt := 42) dX9_paper_38 (by decide) ?_
    refine X_putI dX9_paper_42 fw_9_73 rfl h1 ?_
    refine X_aload_n dX9_paper_45 rfl rfl ?_
    refine X_getI dX9_paper_46 fl_9_73 (by decide) h2 ?_
    refine X_if_le (tgt := 56) dX9_paper_49 (by decide) (fun c3 => ?_) (fun c3 => ?_)
    · refine X_aload_n dX9_paper_56 rfl rfl ?_
      refine Y_sipush dX9_paper_57 (by omega) ?_
      refine X_iload_n dX9_paper_60 rfl rfl ?_
      refine X_iload_n dX9_paper_61 rfl rfl ?_
      exact X_callS (As := [iV (614), iV (i1), iV (i2)]) (rest := [rV (some r0)]) (a' := 0) (b' := 0) dX9_paper_62 t9_at ml_9_91 rfl rfl (Nat.le_of_ble_eq_true rfl) rfl hdp (Nat.zero_le _) (Nat.zero_le _) ((k3 c1 c3) _ (fun z m' h => h))
    · refine Y_iconst dX9_paper_52 (by unfold i32; omega) ?_
      refine X_goto (tgt := 69) dX9_paper_53 (by decide) ?_
      exact (k4 c1 c3)

theorem s9_paper_65 {G : am_G} {dp a b : Nat} {m : am_M} {Q : am_Q} {i1 i2 i3 i90 : Int} {r0 r91 : Nat} (hdp : 1 ≤ dp) (h1 : am_ob m r91 8) (k1 : ∀ Q' : am_Q, (∀ (z : Int) (m' : am_M), X G dp a b M9_paper 69 [some (rV (some r0)), some (iV (i1)), some (iV (i2)), some (iV (i3))] [iV (z)] m' Q → Q' (.inl (some (iV (z)))) m') → T G (dp - 1) 0 0 M9_becomes [rV (some r91), iV (i90), iV (i3)] m Q')  : X G dp a b M9_paper 65 [some (rV (some r0)), some (iV (i1)), some (iV (i2)), some (iV (i3))] [iV (i90), rV (some r91)] m Q := by
  refine X_iload_n dX9_paper_65 rfl rfl ?_
  exact X_callV (As := [iV (i90), iV (i3)]) (rest := []) (a' := 0) (b' := 0) dX9_paper_66 t9_becomes ml_9_272 h1 rfl rfl (Nat.le_of_ble_eq_true rfl) rfl hdp (Nat.zero_le _) (Nat.zero_le _) (k1 _ (fun z m' h => h))

theorem s9_paper_69 {G : am_G} {dp a b : Nat} {m : am_M} {Q : am_Q} {i1 i2 i3 i90 : Int} {r0 : Nat}  (k1 : Q (.inl (some (iV (i90)))) m)  : X G dp a b M9_paper 69 [some (rV (some r0)), some (iV (i1)), some (iV (i2)), some (iV (i3))] [iV (i90)] m Q := by
  exact X_iret dX9_paper_69 rfl k1

theorem s9_way_0 {G : am_G} {dp a b : Nat} {m : am_M} {Q : am_Q} {i1 i2 : Int} {r0 : Nat} (hdp : 1 ≤ dp) (h1 : am_ob m r0 8) (k1 : ∀ Q' : am_Q, (∀ (z : Int) (m' : am_M), X G dp a b M9_way 6 [some (rV (some r0)), some (iV (i1)), some (iV (i2))] [iV (z), rV (some r0)] m' Q → Q' (.inl (some (iV (z)))) m') → T G (dp - 1) 0 0 M9_isRace [rV (some r0), iV (i1)] m Q')  : X G dp a b M9_way 0 [some (rV (some r0)), some (iV (i1)), some (iV (i2))] [] m Q := by
  refine X_aload_n dX9_way_0 rfl rfl ?_
  refine X_aload_n dX9_way_1 rfl rfl ?_
  refine X_iload_n dX9_way_2 rfl rfl ?_
  exact X_callV (As := [iV (i1)]) (rest := [rV (some r0)]) (a' := 0) (b' := 0) dX9_way_3 t9_isRace ml_9_240 h1 rfl rfl (Nat.le_of_ble_eq_true rfl) rfl hdp (Nat.zero_le _) (Nat.zero_le _) (k1 _ (fun z m' h => h))

theorem s9_way_6 {G : am_G} {dp a b : Nat} {m : am_M} {Q : am_Q} {i1 i2 i90 : Int} {r0 r91 : Nat} (hdp : 1 ≤ dp)  (k1 : ¬ (i90 = 0) → ∀ Q' : am_Q, (∀ (z : Int) (m' : am_M), X G dp a b M9_way 19 [some (rV (some r0)), some (iV (i1)), some (iV (i2))] [iV (z), rV (some r91)] m' Q → Q' (.inl (some (iV (z)))) m') → T G (dp - 1) 0 0 M9_isIn [iV (i2), iV (0), iV (1)] m Q') (k2 : (i90 = 0) → X G dp a b M9_way 27 [some (rV (some r0)), some (iV (i1)), some (iV (i2))] [iV (1), rV (some r91)] m Q)  : X G dp a b M9_way 6 [some (rV (some r0)), some (iV (i1)), some (iV (i2))] [iV (i90), rV (some r91)] m Q := by
  refine X_if_ne (tgt := 13) dX9_way_6 (by decide) (fun c1 => ?_) (fun c1 => ?_)
  · refine X_iload_n dX9_way_13 rfl rfl ?_
    refine Y_iconst dX9_way_14 (by unfold i32; omega) ?_
    refine Y_iconst dX9_way_15 (by unfold i32; omega) ?_
    exact X_callS (As := [iV (i2), iV (0), iV (1)]) (rest := [rV (some r91)]) (a' := 0) (b' := 0) dX9_way_16 t9_isIn ml_9_80 rfl rfl (Nat.le_of_ble_eq_true rfl) rfl hdp (Nat.zero_le _) (Nat.zero_le _) ((k1 c1) _ (fun z m' h => h))
  · refine Y_iconst dX9_way_9 (by unfold i32; omega) ?_
    refine X_goto (tgt := 27) dX9_way_10 (by decide) ?_
    exact (k2 c1)

theorem s9_way_19 {G : am_G} {dp a b : Nat} {m : am_M} {Q : am_Q} {i1 i2 i90 : Int} {r0 r91 : Nat}  (k1 : ¬ (i90 = 0) → X G dp a b M9_way 27 [some (rV (some r0)), some (iV (i1)), some (iV (i2))] [iV (0), rV (some r91)] m Q) (k2 : (i90 = 0) → X G dp a b M9_way 27 [some (rV (some r0)), some (iV (i1)), some (iV (i2))] [iV (2), rV (some r91)] m Q)  : X G dp a b M9_way 19 [some (rV (some r0)), some (iV (i1)), some (iV (i2))] [iV (i90), rV (some r91)] m Q := by
  refine X_if_ne (tgt := 26) dX9_way_19 (by decide) (fun c1 => ?_) (fun c1 => ?_)
  · refine Y_iconst dX9_way_26 (by unfold i32; omega) ?_
    exact (k1 c1)
  · refine Y_iconst dX9_way_22 (by unfold i32; omega) ?_
    refine X_goto (tgt := 27) dX9_way_23 (by decide) ?_
    exact (k2 c1)

theorem s9_way_27 {G : am_G} {dp a b : Nat} {m : am_M} {Q : am_Q} {i1 i2 i90 : Int} {r0 r91 : Nat} (hdp : 1 ≤ dp) (h1 : am_obw m r91 8) (h2 : am_ob m r0 8) (k1 : (((u2 m.1 r91 7 (i90)) r0 7) ≤ 0) → ∀ Q' : am_Q, (∀ (z : Int) (m' : am_M), X G dp a b M9_way 54 [some (rV (some r0)), some (iV (i1)), some (iV (i2))] [iV (z)] m' Q → Q' (.inl (some (iV (z)))) m') → T G (dp - 1) 0 0 M9_becomes [rV (some r0), iV (wr ((wr (8 + (wr (2 * i1)))) + 1)), iV (i2)] ((u2 m.1 r91 7 (i90)), m.2.1, m.2.2) Q') (k2 : ¬ (((u2 m.1 r91 7 (i90)) r0 7) ≤ 0) → X G dp a b M9_way 54 [some (rV (some r0)), some (iV (i1)), some (iV (i2))] [iV (0)] ((u2 m.1 r91 7 (i90)), m.2.1, m.2.2) Q)  : X G dp a b M9_way 27 [some (rV (some r0)), some (iV (i1)), some (iV (i2))] [iV (i90), rV (some r91)] m Q := by
  refine X_putI dX9_way_27 fw_9_73 rfl h1 ?_
  refine X_aload_n dX9_way_30 rfl rfl ?_
  refine X_getI dX9_way_31 fl_9_73 (by decide) h2 ?_
  refine X_if_le (tgt := 41) dX9_way_34 (by decide) (fun c1 => ?_) (fun c1 => ?_)
  · refine X_aload_n dX9_way_41 rfl rfl ?_
    refine Y_bipush dX9_way_42 (by omega) ?_
    refine Y_iconst dX9_way_44 (by unfold i32; omega) ?_
    refine X_iload_n dX9_way_45 rfl rfl ?_
    refine X_imul dX9_way_46  ?_
    refine X_iadd dX9_way_47  ?_
    refine Y_iconst dX9_way_48 (by unfold i32; omega) ?_
    refine X_iadd dX9_way_49  ?_
    refine X_iload_n dX9_way_50 rfl rfl ?_
    exact X_callV (As := [iV (wr ((wr (8 + (wr (2 * i1)))) + 1)), iV (i2)]) (rest := []) (a' := 0) (b' := 0) dX9_way_51 t9_becomes ml_9_272 h2 rfl rfl (Nat.le_of_ble_eq_true rfl) rfl hdp (Nat.zero_le _) (Nat.zero_le _) ((k1 c1) _ (fun z m' h => h))
  · refine Y_iconst dX9_way_37 (by unfold i32; omega) ?_
    refine X_goto (tgt := 54) dX9_way_38 (by decide) ?_
    exact (k2 c1)

theorem s9_way_54 {G : am_G} {dp a b : Nat} {m : am_M} {Q : am_Q} {i1 i2 i90 : Int} {r0 : Nat}  (k1 : Q (.inl (some (iV (i90)))) m)  : X G dp a b M9_way 54 [some (rV (some r0)), some (iV (i1)), some (iV (i2))] [iV (i90)] m Q := by
  exact X_iret dX9_way_54 rfl k1

theorem s9_rule_0 {G : am_G} {dp a b : Nat} {m : am_M} {Q : am_Q} {i1 i2 : Int} {r0 : Nat} (hdp : 1 ≤ dp)  (k1 : ∀ Q' : am_Q, (∀ (z : Int) (m' : am_M), X G dp a b M9_rule 7 [some (rV (some r0)), some (iV (i1)), some (iV (i2))] [iV (z), rV (some r0)] m' Q → Q' (.inl (some (iV (z)))) m') → T G (dp - 1) 0 0 M9_isIn [iV (i1), iV (0), iV (2)] m Q')  : X G dp a b M9_rule 0 [some (rV (some r0)), some (iV (i1)), some (iV (i2))] [] m Q := by
  refine X_aload_n dX9_rule_0 rfl rfl ?_
  refine X_iload_n dX9_rule_1 rfl rfl ?_
  refine Y_iconst dX9_rule_2 (by unfold i32; omega) ?_
  refine Y_iconst dX9_rule_3 (by unfold i32; omega) ?_
  exact X_callS (As := [iV (i1), iV (0), iV (2)]) (rest := [rV (some r0)]) (a' := 0) (b' := 0) dX9_rule_4 t9_isIn ml_9_80 rfl rfl (Nat.le_of_ble_eq_true rfl) rfl hdp (Nat.zero_le _) (Nat.zero_le _) (k1 _ (fun z m' h => h))

theorem s9_rule_7 {G : am_G} {dp a b : Nat} {m : am_M} {Q : am_Q} {i1 i2 i90 : Int} {r0 r91 : Nat} (hdp : 1 ≤ dp) (h1 : am_obw m r91 8) (h2 : am_ob m r0 8) (k1 : ¬ (i90 = 0) → ∀ Q' : am_Q, (∀ (z : Int) (m' : am_M), X G dp a b M9_rule 19 [some (rV (some r0)), some (iV (i1)), some (iV (i2))] [iV (z), rV (some r91)] m' Q → Q' (.inl (some (iV (z)))) m') → T G (dp - 1) 0 0 M9_isRule [iV (i1), iV (i2)] m Q') (k2 : (i90 = 0) → (((u2 m.1 r91 7 (1)) r0 7) ≤ 0) → ∀ Q' : am_Q, (∀ (z : Int) (m' : am_M), X G dp a b M9_rule 49 [some (rV (some r0)), some (iV (i1)), some (iV (i2))] [iV (z)] m' Q → Q' (.inl (some (iV (z)))) m') → T G (dp - 1) 0 0 M9_becomes [rV (some r0), iV (wr (2 + i1)), iV (i2)] ((u2 m.1 r91 7 (1)), m.2.1, m.2.2) Q') (k3 : (i90 = 0) → ¬ (((u2 m.1 r91 7 (1)) r0 7) ≤ 0) → X G dp a b M9_rule 49 [some (rV (some r0)), some (iV (i1)), some (iV (i2))] [iV (0)] ((u2 m.1 r91 7 (1)), m.2.1, m.2.2) Q)  : X G dp a b M9_rule 7 [some (rV (some r0)), some (iV (i1)), some (iV (i2))] [iV (i90), rV (some r91)] m Q := by
  refine X_if_ne (tgt := 14) dX9_rule_7 (by decide) (fun c1 => ?_) (fun c1 => ?_)
  · refine X_iload_n dX9_rule_14 rfl rfl ?_
    refine X_iload_n dX9_rule_15 rfl rfl ?_
    exact X_callS (As := [iV (i1), iV (i2)]) (rest := [rV (some r91)]) (a' := 0) (b' := 0) dX9_rule_16 t9_isRule ml_9_275 rfl rfl (Nat.le_of_ble_eq_true rfl) rfl hdp (Nat.zero_le _) (Nat.zero_le _) ((k1 c1) _ (fun z m' h => h))
  · refine Y_iconst dX9_rule_10 (by unfold i32; omega) ?_
    refine X_goto (tgt := 27) dX9_rule_11 (by decide) ?_
    refine X_putI dX9_rule_27 fw_9_73 rfl h1 ?_
    refine X_aload_n dX9_rule_30 rfl rfl ?_
    refine X_getI dX9_rule_31 fl_9_73 (by decide) h2 ?_
    refine X_if_le (tgt := 41) dX9_rule_34 (by decide) (fun c2 => ?_) (fun c2 => ?_)
    · refine X_aload_n dX9_rule_41 rfl rfl ?_
      refine Y_iconst dX9_rule_42 (by unfold i32; omega) ?_
      refine X_iload_n dX9_rule_43 rfl rfl ?_
      refine X_iadd dX9_rule_44  ?_
      refine X_iload_n dX9_rule_45 rfl rfl ?_
      exact X_callV (As := [iV (wr (2 + i1)), iV (i2)]) (rest := []) (a' := 0) (b' := 0) dX9_rule_46 t9_becomes ml_9_272 h2 rfl rfl (Nat.le_of_ble_eq_true rfl) rfl hdp (Nat.zero_le _) (Nat.zero_le _) ((k2 c1 c2) _ (fun z m' h => h))
    · refine Y_iconst dX9_rule_37 (by unfold i32; omega) ?_
      refine X_goto (tgt := 49) dX9_rule_38 (by decide) ?_
      exact (k3 c1 c2)

theorem s9_rule_19 {G : am_G} {dp a b : Nat} {m : am_M} {Q : am_Q} {i1 i2 i90 : Int} {r0 r91 : Nat} (hdp : 1 ≤ dp) (h1 : am_obw m r91 8) (h2 : am_ob m r0 8) (k1 : ¬ (i90 = 0) → (((u2 m.1 r91 7 (0)) r0 7) ≤ 0) → ∀ Q' : am_Q, (∀ (z : Int) (m' : am_M), X G dp a b M9_rule 49 [some (rV (some r0)), some (iV (i1)), some (iV (i2))] [iV (z)] m' Q → Q' (.inl (some (iV (z)))) m') → T G (dp - 1) 0 0 M9_becomes [rV (some r0), iV (wr (2 + i1)), iV (i2)] ((u2 m.1 r91 7 (0)), m.2.1, m.2.2) Q') (k2 : ¬ (i90 = 0) → ¬ (((u2 m.1 r91 7 (0)) r0 7) ≤ 0) → X G dp a b M9_rule 49 [some (rV (some r0)), some (iV (i1)), some (iV (i2))] [iV (0)] ((u2 m.1 r91 7 (0)), m.2.1, m.2.2) Q) (k3 : (i90 = 0) → (((u2 m.1 r91 7 (2)) r0 7) ≤ 0) → ∀ Q' : am_Q, (∀ (z : Int) (m' : am_M), X G dp a b M9_rule 49 [some (rV (some r0)), some (iV (i1)), some (iV (i2))] [iV (z)] m' Q → Q' (.inl (some (iV (z)))) m') → T G (dp - 1) 0 0 M9_becomes [rV (some r0), iV (wr (2 + i1)), iV (i2)] ((u2 m.1 r91 7 (2)), m.2.1, m.2.2) Q') (k4 : (i90 = 0) → ¬ (((u2 m.1 r91 7 (2)) r0 7) ≤ 0) → X G dp a b M9_rule 49 [some (rV (some r0)), some (iV (i1)), some (iV (i2))] [iV (0)] ((u2 m.1 r91 7 (2)), m.2.1, m.2.2) Q)  : X G dp a b M9_rule 19 [some (rV (some r0)), some (iV (i1)), some (iV (i2))] [iV (i90), rV (some r91)] m Q := by
  refine X_if_ne (tgt := 26) dX9_rule_19 (by decide) (fun c1 => ?_) (fun c1 => ?_)
  · refine Y_iconst dX9_rule_26 (by unfold i32; omega) ?_
    refine X_putI dX9_rule_27 fw_9_73 rfl h1 ?_
    refine X_aload_n dX9_rule_30 rfl rfl ?_
    refine X_getI dX9_rule_31 fl_9_73 (by decide) h2 ?_
    refine X_if_le (tgt := 41) dX9_rule_34 (by decide) (fun c2 => ?_) (fun c2 => ?_)
    · refine X_aload_n dX9_rule_41 rfl rfl ?_
      refine Y_iconst dX9_rule_42 (by unfold i32; omega) ?_
      refine X_iload_n dX9_rule_43 rfl rfl ?_
      refine X_iadd dX9_rule_44  ?_
      refine X_iload_n dX9_rule_45 rfl rfl ?_
      exact X_callV (As := [iV (wr (2 + i1)), iV (i2)]) (rest := []) (a' := 0) (b' := 0) dX9_rule_46 t9_becomes ml_9_272 h2 rfl rfl (Nat.le_of_ble_eq_true rfl) rfl hdp (Nat.zero_le _) (Nat.zero_le _) ((k1 c1 c2) _ (fun z m' h => h))
    · refine Y_iconst dX9_rule_37 (by unfold i32; omega) ?_
      refine X_goto (tgt := 49) dX9_rule_38 (by decide) ?_
      exact (k2 c1 c2)
  · refine Y_iconst dX9_rule_22 (by unfold i32; omega) ?_
    refine X_goto (tgt := 27) dX9_rule_23 (by decide) ?_
    refine X_putI dX9_rule_27 fw_9_73 rfl h1 ?_
    refine X_aload_n dX9_rule_30 rfl rfl ?_
    refine X_getI dX9_rule_31 fl_9_73 (by decide) h2 ?_
    refine X_if_le (tgt := 41) dX9_rule_34 (by decide) (fun c3 => ?_) (fun c3 => ?_)
    · refine X_aload_n dX9_rule_41 rfl rfl ?_
      refine Y_iconst dX9_rule_42 (by unfold i32; omega) ?_
      refine X_iload_n dX9_rule_43 rfl rfl ?_
      refine X_iadd dX9_rule_44  ?_
      refine X_iload_n dX9_rule_45 rfl rfl ?_
      exact X_callV (As := [iV (wr (2 + i1)), iV (i2)]) (rest := []) (a' := 0) (b' := 0) dX9_rule_46 t9_becomes ml_9_272 h2 rfl rfl (Nat.le_of_ble_eq_true rfl) rfl hdp (Nat.zero_le _) (Nat.zero_le _) ((k3 c1 c3) _ (fun z m' h => h))
    · refine Y_iconst dX9_rule_37 (by unfold i32; omega) ?_
      refine X_goto (tgt := 49) dX9_rule_38 (by decide) ?_
      exact (k4 c1 c3)

theorem s9_rule_49 {G : am_G} {dp a b : Nat} {m : am_M} {Q : am_Q} {i1 i2 i90 : Int} {r0 : Nat}  (k1 : Q (.inl (some (iV (i90)))) m)  : X G dp a b M9_rule 49 [some (rV (some r0)), some (iV (i1)), some (iV (i2))] [iV (i90)] m Q := by
  exact X_iret dX9_rule_49 rfl k1

theorem s9_undo_0 {G : am_G} {dp a b : Nat} {m : am_M} {Q : am_Q} {r0 : Nat} {o1 : Option am_V} (h1 : am_obw m r0 8) (k1 : ¬ (((u2 m.1 r0 7 (0)) r0 6) = 0) → X G dp a b M9_undo 26 [some (rV (some r0)), some (iV (0))] [] ((u2 (u2 m.1 r0 7 (0)) r0 6 (wr (((u2 m.1 r0 7 (0)) r0 6) - 1))), m.2.1, m.2.2) Q) (k2 : (((u2 m.1 r0 7 (0)) r0 6) = 0) → Q (.inl (some (iV ((-1))))) ((u2 m.1 r0 7 (0)), m.2.1, m.2.2))  : X G dp a b M9_undo 0 [some (rV (some r0)), o1] [] m Q := by
  refine X_aload_n dX9_undo_0 rfl rfl ?_
  refine Y_iconst dX9_undo_1 (by unfold i32; omega) ?_
  refine X_putI dX9_undo_2 fw_9_73 rfl h1 ?_
  refine X_aload_n dX9_undo_5 rfl rfl ?_
  refine X_getI dX9_undo_6 fl_9_234 (by decide) (am_ow h1) ?_
  refine X_if_ne (tgt := 14) dX9_undo_9 (by decide) (fun c1 => ?_) (fun c1 => ?_)
  · refine X_aload_n dX9_undo_14 rfl rfl ?_
    refine X_dup dX9_undo_15 rfl ?_
    refine X_getI dX9_undo_16 fl_9_234 (by decide) (am_ow h1) ?_
    refine Y_iconst dX9_undo_19 (by unfold i32; omega) ?_
    refine X_isub dX9_undo_20  ?_
    refine X_putI dX9_undo_21 fw_9_234 rfl h1 ?_
    refine Y_iconst dX9_undo_24 (by unfold i32; omega) ?_
    refine X_istore_n dX9_undo_25 rfl (Nat.le_of_ble_eq_true rfl) ?_
    exact (k1 c1)
  · refine Y_iconst dX9_undo_12 (by unfold i32; omega) ?_
    exact X_iret dX9_undo_13 rfl (k2 c1)

theorem s9_undo_26 {G : am_G} {dp a b : Nat} {m : am_M} {Q : am_Q} {i1 : Int} {r0 p1 p2 : Nat} {n_p2 n_p1 : Nat} (h1 : am_ob m r0 8) (h2 : m.2.1 r0 0 = some p1) (h3 : m.2.1 r0 4 = some p2) (h4 : am_ar m p2 100 n_p2) (h7 : am_arw m p1 100 n_p1) (k1 : (1514 ≤ i1) → Q (.inl (some (iV (m.1 r0 6)))) m) (k2 : ¬ (1514 ≤ i1) → X G dp a b M9_undo 26 [some (rV (some r0)), some (iV (wr (i1 + 1)))] [] ((u2 m.1 p1 (i1).toNat (m.1 p2 (wr ((wr (1514 * (m.1 r0 6))) + i1)).toNat)), m.2.1, m.2.2) Q) (h5 : ¬ (1514 ≤ i1) → 0 ≤ wr ((wr (1514 * (m.1 r0 6))) + i1) := by intros; first | omega | (dsimp only at *; omega)) (h6 : ¬ (1514 ≤ i1) → wr ((wr (1514 * (m.1 r0 6))) + i1) < (n_p2 : Int) := by intros; first | omega | (dsimp only at *; omega)) (h8 : ¬ (1514 ≤ i1) → 0 ≤ i1 := by intros; first | omega | (dsimp only at *; omega)) (h9 : ¬ (1514 ≤ i1) → i1 < (n_p1 : Int) := by intros; first | omega | (dsimp only at *; omega)) : X G dp a b M9_undo 26 [some (rV (some r0)), some (iV (i1))] [] m Q := by
  refine X_iload_n dX9_undo_26 rfl rfl ?_
  refine Y_sipush dX9_undo_27 (by omega) ?_
  refine X_icmp_ge (tgt := 60) dX9_undo_30 (by decide) (fun c1 => ?_) (fun c1 => ?_)
  · refine X_aload_n dX9_undo_60 rfl rfl ?_
    refine X_getI dX9_undo_61 fl_9_234 (by decide) h1 ?_
    exact X_iret dX9_undo_64 rfl (k1 c1)
  · refine X_aload_n dX9_undo_33 rfl rfl ?_
    refine X_getP dX9_undo_34 fl_9_9 rfl h1 ?_
    refine am_ptr h2 ?_
    refine X_iload_n dX9_undo_37 rfl rfl ?_
    refine X_aload_n dX9_undo_38 rfl rfl ?_
    refine X_getP dX9_undo_39 fl_9_22 rfl h1 ?_
    refine am_ptr h3 ?_
    refine Y_sipush dX9_undo_42 (by omega) ?_
    refine X_aload_n dX9_undo_45 rfl rfl ?_
    refine X_getI dX9_undo_46 fl_9_234 (by decide) h1 ?_
    refine X_imul dX9_undo_49  ?_
    refine X_iload_n dX9_undo_50 rfl rfl ?_
    refine X_iadd dX9_undo_51  ?_
    refine X_iald dX9_undo_52 h4 (h5 c1) (h6 c1) ?_
    refine X_iast dX9_undo_53 h7 (h8 c1) (h9 c1) ?_
    refine X_iinc dX9_undo_54 rfl ?_
    refine X_goto (tgt := 26) dX9_undo_57 (by decide) ?_
    exact (k2 c1)

theorem s9_image_0 {G : am_G} {dp a b : Nat} {m : am_M} {Q : am_Q} {r0 p1 p2 : Nat} (hdp : 1 ≤ dp) (h1 : am_obw m r0 8) (h3 : m.2.1 r0 3 = some p1) (h4 : m.2.1 r0 0 = some p2) (k1 : ∀ Q' : am_Q, (∀ (m' : am_M), X G dp a b M9_image 16 [some (rV (some r0))] [] m' Q → Q' (.inl none) m') → T G (dp - 1) 0 0 M9_copy [rV (some p1), rV (some p2)] ((u2 m.1 r0 7 (0)), m.2.1, m.2.2) Q')  : X G dp a b M9_image 0 [some (rV (some r0))] [] m Q := by
  refine X_aload_n dX9_image_0 rfl rfl ?_
  refine Y_iconst dX9_image_1 (by unfold i32; omega) ?_
  refine X_putI dX9_image_2 fw_9_73 rfl h1 ?_
  refine X_aload_n dX9_image_5 rfl rfl ?_
  refine X_getP dX9_image_6 fl_9_19 rfl (am_ow h1) ?_
  refine am_ptr h3 ?_
  refine X_aload_n dX9_image_9 rfl rfl ?_
  refine X_getP dX9_image_10 fl_9_9 rfl (am_ow h1) ?_
  refine am_ptr h4 ?_
  exact X_callS (As := [rV (some p1), rV (some p2)]) (rest := []) (a' := 0) (b' := 0) dX9_image_13 t9_copy ml_9_278 rfl rfl (Nat.le_of_ble_eq_true rfl) rfl hdp (Nat.zero_le _) (Nat.zero_le _) (k1 _ (fun m' h => h))

theorem s9_image_16 {G : am_G} {dp a b : Nat} {m : am_M} {Q : am_Q} {r0 : Nat} (h1 : am_obw m r0 8) (k1 : Q (.inl none) ((u2 m.1 r0 5 (1)), m.2.1, m.2.2))  : X G dp a b M9_image 16 [some (rV (some r0))] [] m Q := by
  refine X_aload_n dX9_image_16 rfl rfl ?_
  refine Y_iconst dX9_image_17 (by unfold i32; omega) ?_
  refine X_putZ dX9_image_18 fw_9_282 rfl (by decide) h1 ?_
  exact X_vret dX9_image_21 rfl k1

theorem s9_back_0 {G : am_G} {dp a b : Nat} {m : am_M} {Q : am_Q} {r0 p1 p2 : Nat} (hdp : 1 ≤ dp) (h1 : am_obw m r0 8) (h3 : m.2.1 r0 0 = some p1) (h4 : m.2.1 r0 3 = some p2) (k1 : ¬ (((u2 m.1 r0 7 (0)) r0 5) = 0) → ∀ Q' : am_Q, (∀ (m' : am_M), X G dp a b M9_back 25 [some (rV (some r0))] [] m' Q → Q' (.inl none) m') → T G (dp - 1) 0 0 M9_copy [rV (some p1), rV (some p2)] ((u2 m.1 r0 7 (0)), m.2.1, m.2.2) Q') (k2 : (((u2 m.1 r0 7 (0)) r0 5) = 0) → Q (.inl (some (iV (0)))) ((u2 m.1 r0 7 (0)), m.2.1, m.2.2))  : X G dp a b M9_back 0 [some (rV (some r0))] [] m Q := by
  refine X_aload_n dX9_back_0 rfl rfl ?_
  refine Y_iconst dX9_back_1 (by unfold i32; omega) ?_
  refine X_putI dX9_back_2 fw_9_73 rfl h1 ?_
  refine X_aload_n dX9_back_5 rfl rfl ?_
  refine X_getI dX9_back_6 fl_9_282 (by decide) (am_ow h1) ?_
  refine X_if_ne (tgt := 14) dX9_back_9 (by decide) (fun c1 => ?_) (fun c1 => ?_)
  · refine X_aload_n dX9_back_14 rfl rfl ?_
    refine X_getP dX9_back_15 fl_9_9 rfl (am_ow h1) ?_
    refine am_ptr h3 ?_
    refine X_aload_n dX9_back_18 rfl rfl ?_
    refine X_getP dX9_back_19 fl_9_19 rfl (am_ow h1) ?_
    refine am_ptr h4 ?_
    exact X_callS (As := [rV (some p1), rV (some p2)]) (rest := []) (a' := 0) (b' := 0) dX9_back_22 t9_copy ml_9_278 rfl rfl (Nat.le_of_ble_eq_true rfl) rfl hdp (Nat.zero_le _) (Nat.zero_le _) ((k1 c1) _ (fun m' h => h))
  · refine Y_iconst dX9_back_12 (by unfold i32; omega) ?_
    exact X_zret dX9_back_13 rfl (by decide) (k2 c1)

theorem s9_back_25 {G : am_G} {dp a b : Nat} {m : am_M} {Q : am_Q} {r0 : Nat} (h1 : am_obw m r0 8) (k1 : Q (.inl (some (iV (1)))) ((u2 m.1 r0 6 (0)), m.2.1, m.2.2))  : X G dp a b M9_back 25 [some (rV (some r0))] [] m Q := by
  refine X_aload_n dX9_back_25 rfl rfl ?_
  refine Y_iconst dX9_back_26 (by unfold i32; omega) ?_
  refine X_putI dX9_back_27 fw_9_234 rfl h1 ?_
  refine Y_iconst dX9_back_30 (by unfold i32; omega) ?_
  exact X_zret dX9_back_31 rfl (by decide) k1

theorem s9_needByComparing_0 {G : am_G} {dp a b : Nat} {m : am_M} {Q : am_Q} {i1 i2 i3 i4 : Int} {r0 : Nat} {o5 o6 o7 : Option am_V}  (k1 : X G dp a b M9_needByComparing 8 [some (rV (some r0)), some (iV (i1)), some (iV (i2)), some (iV (i3)), some (iV (i4)), some (lV (1000000000)), none, some (iV (0))] [] m Q)  : X G dp a b M9_needByComparing 0 [some (rV (some r0)), some (iV (i1)), some (iV (i2)), some (iV (i3)), some (iV (i4)), o5, o6, o7] [] m Q := by
  refine X_ldc2 dX9_needByComparing_0 kc_9_153 (by unfold i64; omega) ?_
  refine X_lstore dX9_needByComparing_3 (Nat.le_of_ble_eq_true rfl) ?_
  refine Y_iconst dX9_needByComparing_5 (by unfold i32; omega) ?_
  refine X_istore dX9_needByComparing_6 (Nat.le_of_ble_eq_true rfl) ?_
  exact k1

theorem s9_needByComparing_8 {G : am_G} {dp a b : Nat} {m : am_M} {Q : am_Q} {i1 i2 i3 i4 i7 l5 : Int} {r0 : Nat} (hdp : 1 ≤ dp) (h1 : am_ob m r0 8) (k1 : (i3 ≤ i7) → X G dp a b M9_needByComparing 35 [some (rV (some r0)), some (iV (i1)), some (iV (i2)), some (iV (i3)), some (iV (i4)), some (lV (l5)), none, some (iV (0))] [] m Q) (k2 : ¬ (i3 ≤ i7) → ∀ Q' : am_Q, (∀ (z : Int) (m' : am_M), X G dp a b M9_needByComparing 24 [some (rV (some r0)), some (iV (i1)), some (iV (i2)), some (iV (i3)), some (iV (i4)), some (lV (l5)), none, some (iV (i7))] [lV (z)] m' Q → Q' (.inl (some (lV (z)))) m') → T G (dp - 1) 0 0 M9_compared [rV (some r0), lV (l5), iV (i1), iV (i4), iV (2)] m Q')  : X G dp a b M9_needByComparing 8 [some (rV (some r0)), some (iV (i1)), some (iV (i2)), some (iV (i3)), some (iV (i4)), some (lV (l5)), none, some (iV (i7))] [] m Q := by
  refine X_iload dX9_needByComparing_8 rfl ?_
  refine X_iload_n dX9_needByComparing_10 rfl rfl ?_
  refine X_icmp_ge (tgt := 32) dX9_needByComparing_11 (by decide) (fun c1 => ?_) (fun c1 => ?_)
  · refine Y_iconst dX9_needByComparing_32 (by unfold i32; omega) ?_
    refine X_istore dX9_needByComparing_33 (Nat.le_of_ble_eq_true rfl) ?_
    exact (k1 c1)
  · refine X_aload_n dX9_needByComparing_14 rfl rfl ?_
    refine X_lload dX9_needByComparing_15 rfl ?_
    refine X_iload_n dX9_needByComparing_17 rfl rfl ?_
    refine X_iload dX9_needByComparing_18 rfl ?_
    refine Y_iconst dX9_needByComparing_20 (by unfold i32; omega) ?_
    exact X_callV (As := [lV (l5), iV (i1), iV (i4), iV (2)]) (rest := []) (a' := 0) (b' := 0) dX9_needByComparing_21 t9_compared ml_9_155 h1 rfl rfl (Nat.le_of_ble_eq_true rfl) rfl hdp (Nat.zero_le _) (Nat.zero_le _) ((k2 c1) _ (fun z m' h => h))

theorem s9_needByComparing_24 {G : am_G} {dp a b : Nat} {m : am_M} {Q : am_Q} {i1 i2 i3 i4 i7 l5 l90 : Int} {r0 : Nat}  (k1 : X G dp a b M9_needByComparing 8 [some (rV (some r0)), some (iV (i1)), some (iV (i2)), some (iV (i3)), some (iV (i4)), some (lV (l90)), none, some (iV (wr (i7 + 1)))] [] m Q)  : X G dp a b M9_needByComparing 24 [some (rV (some r0)), some (iV (i1)), some (iV (i2)), some (iV (i3)), some (iV (i4)), some (lV (l5)), none, some (iV (i7))] [lV (l90)] m Q := by
  refine X_lstore dX9_needByComparing_24 (Nat.le_of_ble_eq_true rfl) ?_
  refine X_iinc dX9_needByComparing_26 rfl ?_
  refine X_goto (tgt := 8) dX9_needByComparing_29 (by decide) ?_
  exact k1

theorem s9_needByComparing_35 {G : am_G} {dp a b : Nat} {m : am_M} {Q : am_Q} {i1 i2 i3 i4 i7 l5 : Int} {r0 : Nat} (hdp : 1 ≤ dp) (h1 : am_ob m r0 8) (k1 : (i2 ≤ i7) → X G dp a b M9_needByComparing 64 [some (rV (some r0)), some (iV (i1)), some (iV (i2)), some (iV (i3)), some (iV (i4)), some (lV (l5)), none, some (iV (wr (i2 + i3)))] [] m Q) (k2 : ¬ (i2 ≤ i7) → ∀ Q' : am_Q, (∀ (z : Int) (m' : am_M), X G dp a b M9_needByComparing 51 [some (rV (some r0)), some (iV (i1)), some (iV (i2)), some (iV (i3)), some (iV (i4)), some (lV (l5)), none, some (iV (i7))] [lV (z)] m' Q → Q' (.inl (some (lV (z)))) m') → T G (dp - 1) 0 0 M9_compared [rV (some r0), lV (l5), iV (i1), iV (i4), iV (1)] m Q')  : X G dp a b M9_needByComparing 35 [some (rV (some r0)), some (iV (i1)), some (iV (i2)), some (iV (i3)), some (iV (i4)), some (lV (l5)), none, some (iV (i7))] [] m Q := by
  refine X_iload dX9_needByComparing_35 rfl ?_
  refine X_iload_n dX9_needByComparing_37 rfl rfl ?_
  refine X_icmp_ge (tgt := 59) dX9_needByComparing_38 (by decide) (fun c1 => ?_) (fun c1 => ?_)
  · refine X_iload_n dX9_needByComparing_59 rfl rfl ?_
    refine X_iload_n dX9_needByComparing_60 rfl rfl ?_
    refine X_iadd dX9_needByComparing_61  ?_
    refine X_istore dX9_needByComparing_62 (Nat.le_of_ble_eq_true rfl) ?_
    exact (k1 c1)
  · refine X_aload_n dX9_needByComparing_41 rfl rfl ?_
    refine X_lload dX9_needByComparing_42 rfl ?_
    refine X_iload_n dX9_needByComparing_44 rfl rfl ?_
    refine X_iload dX9_needByComparing_45 rfl ?_
    refine Y_iconst dX9_needByComparing_47 (by unfold i32; omega) ?_
    exact X_callV (As := [lV (l5), iV (i1), iV (i4), iV (1)]) (rest := []) (a' := 0) (b' := 0) dX9_needByComparing_48 t9_compared ml_9_155 h1 rfl rfl (Nat.le_of_ble_eq_true rfl) rfl hdp (Nat.zero_le _) (Nat.zero_le _) ((k2 c1) _ (fun z m' h => h))

theorem s9_needByComparing_51 {G : am_G} {dp a b : Nat} {m : am_M} {Q : am_Q} {i1 i2 i3 i4 i7 l5 l90 : Int} {r0 : Nat}  (k1 : X G dp a b M9_needByComparing 35 [some (rV (some r0)), some (iV (i1)), some (iV (i2)), some (iV (i3)), some (iV (i4)), some (lV (l90)), none, some (iV (wr (i7 + 1)))] [] m Q)  : X G dp a b M9_needByComparing 51 [some (rV (some r0)), some (iV (i1)), some (iV (i2)), some (iV (i3)), some (iV (i4)), some (lV (l5)), none, some (iV (i7))] [lV (l90)] m Q := by
  refine X_lstore dX9_needByComparing_51 (Nat.le_of_ble_eq_true rfl) ?_
  refine X_iinc dX9_needByComparing_53 rfl ?_
  refine X_goto (tgt := 35) dX9_needByComparing_56 (by decide) ?_
  exact k1

theorem s9_needByComparing_64 {G : am_G} {dp a b : Nat} {m : am_M} {Q : am_Q} {i1 i2 i3 i4 i7 l5 : Int} {r0 : Nat} (hdp : 1 ≤ dp) (h1 : am_ob m r0 8) (k1 : (5000 < i7) → (5000 < i7) → Q (.inl (some (iV ((-1))))) m) (k2 : (5000 < i7) → ¬ (5000 < i7) → Q (.inl (some (iV (i7)))) m) (k3 : ¬ (5000 < i7) → ∀ Q' : am_Q, (∀ (z : Int) (m' : am_M), X G dp a b M9_needByComparing 78 [some (rV (some r0)), some (iV (i1)), some (iV (i2)), some (iV (i3)), some (iV (i4)), some (lV (l5)), none, some (iV (i7))] [iV (z)] m' Q → Q' (.inl (some (iV (z)))) m') → T G (dp - 1) 0 0 M9_isLittle [rV (some r0), lV (l5)] m Q')  : X G dp a b M9_needByComparing 64 [some (rV (some r0)), some (iV (i1)), some (iV (i2)), some (iV (i3)), some (iV (i4)), some (lV (l5)), none, some (iV (i7))] [] m Q := by
  refine X_iload dX9_needByComparing_64 rfl ?_
  refine Y_sipush dX9_needByComparing_66 (by omega) ?_
  refine X_icmp_gt (tgt := 99) dX9_needByComparing_69 (by decide) (fun c1 => ?_) (fun c1 => ?_)
  · refine X_iload dX9_needByComparing_99 rfl ?_
    refine Y_sipush dX9_needByComparing_101 (by omega) ?_
    refine X_icmp_gt (tgt := 112) dX9_needByComparing_104 (by decide) (fun c2 => ?_) (fun c2 => ?_)
    · refine Y_iconst dX9_needByComparing_112 (by unfold i32; omega) ?_
      exact X_iret dX9_needByComparing_113 rfl (k1 c1 c2)
    · refine X_iload dX9_needByComparing_107 rfl ?_
      refine X_goto (tgt := 113) dX9_needByComparing_109 (by decide) ?_
      exact X_iret dX9_needByComparing_113 rfl (k2 c1 c2)
  · refine X_aload_n dX9_needByComparing_72 rfl rfl ?_
    refine X_lload dX9_needByComparing_73 rfl ?_
    exact X_callV (As := [lV (l5)]) (rest := []) (a' := 0) (b' := 0) dX9_needByComparing_75 t9_isLittle ml_9_179 h1 rfl rfl (Nat.le_of_ble_eq_true rfl) rfl hdp (Nat.zero_le _) (Nat.zero_le _) ((k3 c1) _ (fun z m' h => h))

theorem s9_needByComparing_78 {G : am_G} {dp a b : Nat} {m : am_M} {Q : am_Q} {i1 i2 i3 i4 i7 i90 l5 : Int} {r0 : Nat} (hdp : 1 ≤ dp) (h1 : am_ob m r0 8) (k1 : ¬ (i90 = 0) → (5000 < i7) → Q (.inl (some (iV ((-1))))) m) (k2 : ¬ (i90 = 0) → ¬ (5000 < i7) → Q (.inl (some (iV (i7)))) m) (k3 : (i90 = 0) → ∀ Q' : am_Q, (∀ (z : Int) (m' : am_M), X G dp a b M9_needByComparing 91 [some (rV (some r0)), some (iV (i1)), some (iV (i2)), some (iV (i3)), some (iV (i4)), some (lV (l5)), none, some (iV (i7))] [lV (z)] m' Q → Q' (.inl (some (lV (z)))) m') → T G (dp - 1) 0 0 M9_compared [rV (some r0), lV (l5), iV (i1), iV (i4), iV (0)] m Q')  : X G dp a b M9_needByComparing 78 [some (rV (some r0)), some (iV (i1)), some (iV (i2)), some (iV (i3)), some (iV (i4)), some (lV (l5)), none, some (iV (i7))] [iV (i90)] m Q := by
  refine X_if_ne (tgt := 99) dX9_needByComparing_78 (by decide) (fun c1 => ?_) (fun c1 => ?_)
  · refine X_iload dX9_needByComparing_99 rfl ?_
    refine Y_sipush dX9_needByComparing_101 (by omega) ?_
    refine X_icmp_gt (tgt := 112) dX9_needByComparing_104 (by decide) (fun c2 => ?_) (fun c2 => ?_)
    · refine Y_iconst dX9_needByComparing_112 (by unfold i32; omega) ?_
      exact X_iret dX9_needByComparing_113 rfl (k1 c1 c2)
    · refine X_iload dX9_needByComparing_107 rfl ?_
      refine X_goto (tgt := 113) dX9_needByComparing_109 (by decide) ?_
      exact X_iret dX9_needByComparing_113 rfl (k2 c1 c2)
  · refine X_aload_n dX9_needByComparing_81 rfl rfl ?_
    refine X_lload dX9_needByComparing_82 rfl ?_
    refine X_iload_n dX9_needByComparing_84 rfl rfl ?_
    refine X_iload dX9_needByComparing_85 rfl ?_
    refine Y_iconst dX9_needByComparing_87 (by unfold i32; omega) ?_
    exact X_callV (As := [lV (l5), iV (i1), iV (i4), iV (0)]) (rest := []) (a' := 0) (b' := 0) dX9_needByComparing_88 t9_compared ml_9_155 h1 rfl rfl (Nat.le_of_ble_eq_true rfl) rfl hdp (Nat.zero_le _) (Nat.zero_le _) ((k3 c1) _ (fun z m' h => h))

theorem s9_needByComparing_91 {G : am_G} {dp a b : Nat} {m : am_M} {Q : am_Q} {i1 i2 i3 i4 i7 l5 l90 : Int} {r0 : Nat}  (k1 : X G dp a b M9_needByComparing 64 [some (rV (some r0)), some (iV (i1)), some (iV (i2)), some (iV (i3)), some (iV (i4)), some (lV (l90)), none, some (iV (wr (i7 + 1)))] [] m Q)  : X G dp a b M9_needByComparing 91 [some (rV (some r0)), some (iV (i1)), some (iV (i2)), some (iV (i3)), some (iV (i4)), some (lV (l5)), none, some (iV (i7))] [lV (l90)] m Q := by
  refine X_lstore dX9_needByComparing_91 (Nat.le_of_ble_eq_true rfl) ?_
  refine X_iinc dX9_needByComparing_93 rfl ?_
  refine X_goto (tgt := 64) dX9_needByComparing_96 (by decide) ?_
  exact k1

theorem s9_needByPolling_0 {G : am_G} {dp a b : Nat} {m : am_M} {Q : am_Q} {i1 i2 i3 : Int} {r0 : Nat} {o4 o5 : Option am_V} (hdp : 1 ≤ dp) (h1 : am_ob m r0 8) (k1 : ∀ Q' : am_Q, (∀ (m' : am_M), X G dp a b M9_needByPolling 5 [some (rV (some r0)), some (iV (i1)), some (iV (i2)), some (iV (i3)), o4, o5] [] m' Q → Q' (.inl none) m') → T G (dp - 1) 0 0 M9_clear [rV (some r0), iV (i1)] m Q')  : X G dp a b M9_needByPolling 0 [some (rV (some r0)), some (iV (i1)), some (iV (i2)), some (iV (i3)), o4, o5] [] m Q := by
  refine X_aload_n dX9_needByPolling_0 rfl rfl ?_
  refine X_iload_n dX9_needByPolling_1 rfl rfl ?_
  exact X_callV (As := [iV (i1)]) (rest := []) (a' := 0) (b' := 0) dX9_needByPolling_2 t9_clear ml_9_189 h1 rfl rfl (Nat.le_of_ble_eq_true rfl) rfl hdp (Nat.zero_le _) (Nat.zero_le _) (k1 _ (fun m' h => h))

theorem s9_needByPolling_5 {G : am_G} {dp a b : Nat} {m : am_M} {Q : am_Q} {i1 i2 i3 : Int} {r0 : Nat} {o4 o5 : Option am_V} (hdp : 1 ≤ dp) (h1 : am_ob m r0 8) (k1 : ∀ Q' : am_Q, (∀ (z : Int) (m' : am_M), X G dp a b M9_needByPolling 10 [some (rV (some r0)), some (iV (i1)), some (iV (i2)), some (iV (i3)), o4, o5] [iV (z)] m' Q → Q' (.inl (some (iV (z)))) m') → T G (dp - 1) 0 0 M9_second [rV (some r0), iV (i1)] m Q')  : X G dp a b M9_needByPolling 5 [some (rV (some r0)), some (iV (i1)), some (iV (i2)), some (iV (i3)), o4, o5] [] m Q := by
  refine X_aload_n dX9_needByPolling_5 rfl rfl ?_
  refine X_iload_n dX9_needByPolling_6 rfl rfl ?_
  exact X_callV (As := [iV (i1)]) (rest := []) (a' := 0) (b' := 0) dX9_needByPolling_7 t9_second ml_9_121 h1 rfl rfl (Nat.le_of_ble_eq_true rfl) rfl hdp (Nat.zero_le _) (Nat.zero_le _) (k1 _ (fun z m' h => h))

theorem s9_needByPolling_10 {G : am_G} {dp a b : Nat} {m : am_M} {Q : am_Q} {i1 i2 i3 i90 : Int} {r0 : Nat} {o4 o5 : Option am_V}  (k1 : X G dp a b M9_needByPolling 15 [some (rV (some r0)), some (iV (i1)), some (iV (i2)), some (iV (i3)), some (iV (i90)), some (iV (0))] [] m Q)  : X G dp a b M9_needByPolling 10 [some (rV (some r0)), some (iV (i1)), some (iV (i2)), some (iV (i3)), o4, o5] [iV (i90)] m Q := by
  refine X_istore dX9_needByPolling_10 (Nat.le_of_ble_eq_true rfl) ?_
  refine Y_iconst dX9_needByPolling_12 (by unfold i32; omega) ?_
  refine X_istore dX9_needByPolling_13 (Nat.le_of_ble_eq_true rfl) ?_
  exact k1

theorem s9_needByPolling_15 {G : am_G} {dp a b : Nat} {m : am_M} {Q : am_Q} {i1 i2 i3 i4 i5 : Int} {r0 : Nat} (hdp : 1 ≤ dp) (h1 : am_ob m r0 8) (k1 : (i2 ≤ i5) → X G dp a b M9_needByPolling 39 [some (rV (some r0)), some (iV (i1)), some (iV (i2)), some (iV (i3)), some (iV (i4)), some (iV (wr (i3 + i2)))] [] m Q) (k2 : ¬ (i2 ≤ i5) → ∀ Q' : am_Q, (∀ (m' : am_M), X G dp a b M9_needByPolling 28 [some (rV (some r0)), some (iV (i1)), some (iV (i2)), some (iV (i3)), some (iV (i4)), some (iV (i5))] [] m' Q → Q' (.inl none) m') → T G (dp - 1) 0 0 M9_polls [rV (some r0), iV (i1), iV (i4)] m Q')  : X G dp a b M9_needByPolling 15 [some (rV (some r0)), some (iV (i1)), some (iV (i2)), some (iV (i3)), some (iV (i4)), some (iV (i5))] [] m Q := by
  refine X_iload dX9_needByPolling_15 rfl ?_
  refine X_iload_n dX9_needByPolling_17 rfl rfl ?_
  refine X_icmp_ge (tgt := 34) dX9_needByPolling_18 (by decide) (fun c1 => ?_) (fun c1 => ?_)
  · refine X_iload_n dX9_needByPolling_34 rfl rfl ?_
    refine X_iload_n dX9_needByPolling_35 rfl rfl ?_
    refine X_iadd dX9_needByPolling_36  ?_
    refine X_istore dX9_needByPolling_37 (Nat.le_of_ble_eq_true rfl) ?_
    exact (k1 c1)
  · refine X_aload_n dX9_needByPolling_21 rfl rfl ?_
    refine X_iload_n dX9_needByPolling_22 rfl rfl ?_
    refine X_iload dX9_needByPolling_23 rfl ?_
    exact X_callV (As := [iV (i1), iV (i4)]) (rest := []) (a' := 0) (b' := 0) dX9_needByPolling_25 t9_polls ml_9_159 h1 rfl rfl (Nat.le_of_ble_eq_true rfl) rfl hdp (Nat.zero_le _) (Nat.zero_le _) ((k2 c1) _ (fun m' h => h))

theorem s9_needByPolling_28 {G : am_G} {dp a b : Nat} {m : am_M} {Q : am_Q} {i1 i2 i3 i4 i5 : Int} {r0 : Nat}  (k1 : X G dp a b M9_needByPolling 15 [some (rV (some r0)), some (iV (i1)), some (iV (i2)), some (iV (i3)), some (iV (i4)), some (iV (wr (i5 + 1)))] [] m Q)  : X G dp a b M9_needByPolling 28 [some (rV (some r0)), some (iV (i1)), some (iV (i2)), some (iV (i3)), some (iV (i4)), some (iV (i5))] [] m Q := by
  refine X_iinc dX9_needByPolling_28 rfl ?_
  refine X_goto (tgt := 15) dX9_needByPolling_31 (by decide) ?_
  exact k1

theorem s9_needByPolling_39 {G : am_G} {dp a b : Nat} {m : am_M} {Q : am_Q} {i1 i2 i3 i4 i5 : Int} {r0 : Nat} (hdp : 1 ≤ dp) (h1 : am_ob m r0 8) (k1 : (5000 < i5) → (5000 < i5) → Q (.inl (some (iV ((-1))))) m) (k2 : (5000 < i5) → ¬ (5000 < i5) → Q (.inl (some (iV (i5)))) m) (k3 : ¬ (5000 < i5) → ∀ Q' : am_Q, (∀ (z : Int) (m' : am_M), X G dp a b M9_needByPolling 53 [some (rV (some r0)), some (iV (i1)), some (iV (i2)), some (iV (i3)), some (iV (i4)), some (iV (i5))] [lV (z), rV (some r0)] m' Q → Q' (.inl (some (lV (z)))) m') → T G (dp - 1) 0 0 M9_riskNow [rV (some r0), iV (i1)] m Q')  : X G dp a b M9_needByPolling 39 [some (rV (some r0)), some (iV (i1)), some (iV (i2)), some (iV (i3)), some (iV (i4)), some (iV (i5))] [] m Q := by
  refine X_iload dX9_needByPolling_39 rfl ?_
  refine Y_sipush dX9_needByPolling_41 (by omega) ?_
  refine X_icmp_gt (tgt := 76) dX9_needByPolling_44 (by decide) (fun c1 => ?_) (fun c1 => ?_)
  · refine X_iload dX9_needByPolling_76 rfl ?_
    refine Y_sipush dX9_needByPolling_78 (by omega) ?_
    refine X_icmp_gt (tgt := 89) dX9_needByPolling_81 (by decide) (fun c2 => ?_) (fun c2 => ?_)
    · refine Y_iconst dX9_needByPolling_89 (by unfold i32; omega) ?_
      exact X_iret dX9_needByPolling_90 rfl (k1 c1 c2)
    · refine X_iload dX9_needByPolling_84 rfl ?_
      refine X_goto (tgt := 90) dX9_needByPolling_86 (by decide) ?_
      exact X_iret dX9_needByPolling_90 rfl (k2 c1 c2)
  · refine X_aload_n dX9_needByPolling_47 rfl rfl ?_
    refine X_aload_n dX9_needByPolling_48 rfl rfl ?_
    refine X_iload_n dX9_needByPolling_49 rfl rfl ?_
    exact X_callV (As := [iV (i1)]) (rest := [rV (some r0)]) (a' := 0) (b' := 0) dX9_needByPolling_50 t9_riskNow ml_9_169 h1 rfl rfl (Nat.le_of_ble_eq_true rfl) rfl hdp (Nat.zero_le _) (Nat.zero_le _) ((k3 c1) _ (fun z m' h => h))

theorem s9_needByPolling_53 {G : am_G} {dp a b : Nat} {m : am_M} {Q : am_Q} {i1 i2 i3 i4 i5 l90 : Int} {r0 r91 : Nat} (hdp : 1 ≤ dp) (h1 : am_ob m r91 8) (k1 : ∀ Q' : am_Q, (∀ (z : Int) (m' : am_M), X G dp a b M9_needByPolling 56 [some (rV (some r0)), some (iV (i1)), some (iV (i2)), some (iV (i3)), some (iV (i4)), some (iV (i5))] [iV (z)] m' Q → Q' (.inl (some (iV (z)))) m') → T G (dp - 1) 0 0 M9_isLittle [rV (some r91), lV (l90)] m Q')  : X G dp a b M9_needByPolling 53 [some (rV (some r0)), some (iV (i1)), some (iV (i2)), some (iV (i3)), some (iV (i4)), some (iV (i5))] [lV (l90), rV (some r91)] m Q := by
  exact X_callV (As := [lV (l90)]) (rest := []) (a' := 0) (b' := 0) dX9_needByPolling_53 t9_isLittle ml_9_179 h1 rfl rfl (Nat.le_of_ble_eq_true rfl) rfl hdp (Nat.zero_le _) (Nat.zero_le _) (k1 _ (fun z m' h => h))

theorem s9_needByPolling_56 {G : am_G} {dp a b : Nat} {m : am_M} {Q : am_Q} {i1 i2 i3 i4 i5 i90 : Int} {r0 p1 : Nat} {n_p1 : Nat} (hdp : 1 ≤ dp) (h1 : am_ob m r0 8) (h2 : m.2.1 r0 10 = some p1) (h3 : am_ar m p1 100 n_p1) (k1 : ¬ (i90 = 0) → (5000 < i5) → Q (.inl (some (iV ((-1))))) m) (k2 : ¬ (i90 = 0) → ¬ (5000 < i5) → Q (.inl (some (iV (i5)))) m) (k3 : (i90 = 0) → ∀ Q' : am_Q, (∀ (m' : am_M), X G dp a b M9_needByPolling 70 [some (rV (some r0)), some (iV (i1)), some (iV (i2)), some (iV (i3)), some (iV (i4)), some (iV (i5))] [] m' Q → Q' (.inl none) m') → T G (dp - 1) 0 0 M9_polls [rV (some r0), iV (i1), iV (m.1 p1 (i1).toNat)] m Q') (h4 : i90 = 0 → 0 ≤ i1 := by intros; first | omega | (dsimp only at *; omega)) (h5 : i90 = 0 → i1 < (n_p1 : Int) := by intros; first | omega | (dsimp only at *; omega)) : X G dp a b M9_needByPolling 56 [some (rV (some r0)), some (iV (i1)), some (iV (i2)), some (iV (i3)), some (iV (i4)), some (iV (i5))] [iV (i90)] m Q := by
  refine X_if_ne (tgt := 76) dX9_needByPolling_56 (by decide) (fun c1 => ?_) (fun c1 => ?_)
  · refine X_iload dX9_needByPolling_76 rfl ?_
    refine Y_sipush dX9_needByPolling_78 (by omega) ?_
    refine X_icmp_gt (tgt := 89) dX9_needByPolling_81 (by decide) (fun c2 => ?_) (fun c2 => ?_)
    · refine Y_iconst dX9_needByPolling_89 (by unfold i32; omega) ?_
      exact X_iret dX9_needByPolling_90 rfl (k1 c1 c2)
    · refine X_iload dX9_needByPolling_84 rfl ?_
      refine X_goto (tgt := 90) dX9_needByPolling_86 (by decide) ?_
      exact X_iret dX9_needByPolling_90 rfl (k2 c1 c2)
  · refine X_aload_n dX9_needByPolling_59 rfl rfl ?_
    refine X_iload_n dX9_needByPolling_60 rfl rfl ?_
    refine X_aload_n dX9_needByPolling_61 rfl rfl ?_
    refine X_getP dX9_needByPolling_62 fl_9_31 rfl h1 ?_
    refine am_ptr h2 ?_
    refine X_iload_n dX9_needByPolling_65 rfl rfl ?_
    refine X_iald dX9_needByPolling_66 h3 (h4 c1) (h5 c1) ?_
    exact X_callV (As := [iV (i1), iV (m.1 p1 (i1).toNat)]) (rest := []) (a' := 0) (b' := 0) dX9_needByPolling_67 t9_polls ml_9_159 h1 rfl rfl (Nat.le_of_ble_eq_true rfl) rfl hdp (Nat.zero_le _) (Nat.zero_le _) ((k3 c1) _ (fun m' h => h))

theorem s9_needByPolling_70 {G : am_G} {dp a b : Nat} {m : am_M} {Q : am_Q} {i1 i2 i3 i4 i5 : Int} {r0 : Nat}  (k1 : X G dp a b M9_needByPolling 39 [some (rV (some r0)), some (iV (i1)), some (iV (i2)), some (iV (i3)), some (iV (i4)), some (iV (wr (i5 + 1)))] [] m Q)  : X G dp a b M9_needByPolling 70 [some (rV (some r0)), some (iV (i1)), some (iV (i2)), some (iV (i3)), some (iV (i4)), some (iV (i5))] [] m Q := by
  refine X_iinc dX9_needByPolling_70 rfl ?_
  refine X_goto (tgt := 39) dX9_needByPolling_73 (by decide) ?_
  exact k1

theorem s9_polls_0 {G : am_G} {dp a b : Nat} {m : am_M} {Q : am_Q} {i1 i2 : Int} {r0 : Nat} {o3 : Option am_V}  (k1 : X G dp a b M9_polls 2 [some (rV (some r0)), some (iV (i1)), some (iV (i2)), some (iV (0))] [] m Q)  : X G dp a b M9_polls 0 [some (rV (some r0)), some (iV (i1)), some (iV (i2)), o3] [] m Q := by
  refine Y_iconst dX9_polls_0 (by unfold i32; omega) ?_
  refine X_istore_n dX9_polls_1 rfl (Nat.le_of_ble_eq_true rfl) ?_
  exact k1

theorem s9_polls_2 {G : am_G} {dp a b : Nat} {m : am_M} {Q : am_Q} {i1 i2 i3 : Int} {r0 : Nat} (hdp : 1 ≤ dp) (h1 : am_ob m r0 8) (k1 : ∀ Q' : am_Q, (∀ (z : Int) (m' : am_M), X G dp a b M9_polls 8 [some (rV (some r0)), some (iV (i1)), some (iV (i2)), some (iV (i3))] [iV (z), iV (i3)] m' Q → Q' (.inl (some (iV (z)))) m') → T G (dp - 1) 0 0 M9_candidates [rV (some r0), iV (i1)] m Q')  : X G dp a b M9_polls 2 [some (rV (some r0)), some (iV (i1)), some (iV (i2)), some (iV (i3))] [] m Q := by
  refine X_iload_n dX9_polls_2 rfl rfl ?_
  refine X_aload_n dX9_polls_3 rfl rfl ?_
  refine X_iload_n dX9_polls_4 rfl rfl ?_
  exact X_callV (As := [iV (i1)]) (rest := [iV (i3)]) (a' := 0) (b' := 0) dX9_polls_5 t9_candidates ml_9_87 h1 rfl rfl (Nat.le_of_ble_eq_true rfl) rfl hdp (Nat.zero_le _) (Nat.zero_le _) (k1 _ (fun z m' h => h))

theorem s9_polls_8 {G : am_G} {dp a b : Nat} {m : am_M} {Q : am_Q} {i1 i2 i3 i90 i91 : Int} {r0 p1 p2 : Nat} {n_p1 n_p2 : Nat} (hdp : 1 ≤ dp) (h1 : am_ob m r0 8) (h2 : m.2.1 r0 10 = some p1) (h3 : am_ar m p1 100 n_p1) (h6 : m.2.1 r0 14 = some p2) (h7 : am_ar m p2 101 n_p2) (k1 : (i90 ≤ i91) → Q (.inl none) m) (k2 : ¬ (i90 ≤ i91) → ¬ (i3 = (m.1 p1 (i1).toNat)) → ∀ Q' : am_Q, (∀ (z : Int) (m' : am_M), X G dp a b M9_polls 50 [some (rV (some r0)), some (iV (i1)), some (iV (i2)), some (iV (i3))] [lV (z), iV (wr ((wr (4 * i1)) + i3)), rV (some p2)] m' Q → Q' (.inl (some (lV (z)))) m') → T G (dp - 1) 0 0 M9_polled [rV (some r0), lV (m.1 p2 (wr ((wr (4 * i1)) + i3)).toNat), iV (i1), iV (i3), iV (i2)] m Q') (k3 : ¬ (i90 ≤ i91) → (i3 = (m.1 p1 (i1).toNat)) → X G dp a b M9_polls 2 [some (rV (some r0)), some (iV (i1)), some (iV (i2)), some (iV (wr (i3 + 1)))] [] m Q) (h4 : ¬ (i90 ≤ i91) → 0 ≤ i1 := by intros; first | omega | (dsimp only at *; omega)) (h5 : ¬ (i90 ≤ i91) → i1 < (n_p1 : Int) := by intros; first | omega | (dsimp only at *; omega)) (h8 : ¬ (i90 ≤ i91) → ¬ (i3 = (m.1 p1 (i1).toNat)) → 0 ≤ wr ((wr (4 * i1)) + i3) := by intros; first | omega | (dsimp only at *; omega)) (h9 : ¬ (i90 ≤ i91) → ¬ (i3 = (m.1 p1 (i1).toNat)) → wr ((wr (4 * i1)) + i3) < (n_p2 : Int) := by intros; first | omega | (dsimp only at *; omega)) : X G dp a b M9_polls 8 [some (rV (some r0)), some (iV (i1)), some (iV (i2)), some (iV (i3))] [iV (i90), iV (i91)] m Q := by
  refine X_icmp_ge (tgt := 57) dX9_polls_8 (by decide) (fun c1 => ?_) (fun c1 => ?_)
  · exact X_vret dX9_polls_57 rfl (k1 c1)
  · refine X_iload_n dX9_polls_11 rfl rfl ?_
    refine X_aload_n dX9_polls_12 rfl rfl ?_
    refine X_getP dX9_polls_13 fl_9_31 rfl h1 ?_
    refine am_ptr h2 ?_
    refine X_iload_n dX9_polls_16 rfl rfl ?_
    refine X_iald dX9_polls_17 h3 (h4 c1) (h5 c1) ?_
    refine X_icmp_ne (tgt := 24) dX9_polls_18 (by decide) (fun c2 => ?_) (fun c2 => ?_)
    · refine X_aload_n dX9_polls_24 rfl rfl ?_
      refine X_getP dX9_polls_25 fl_9_43 rfl h1 ?_
      refine am_ptr h6 ?_
      refine Y_iconst dX9_polls_28 (by unfold i32; omega) ?_
      refine X_iload_n dX9_polls_29 rfl rfl ?_
      refine X_imul dX9_polls_30  ?_
      refine X_iload_n dX9_polls_31 rfl rfl ?_
      refine X_iadd dX9_polls_32  ?_
      refine X_aload_n dX9_polls_33 rfl rfl ?_
      refine X_aload_n dX9_polls_34 rfl rfl ?_
      refine X_getP dX9_polls_35 fl_9_43 rfl h1 ?_
      refine am_ptr h6 ?_
      refine Y_iconst dX9_polls_38 (by unfold i32; omega) ?_
      refine X_iload_n dX9_polls_39 rfl rfl ?_
      refine X_imul dX9_polls_40  ?_
      refine X_iload_n dX9_polls_41 rfl rfl ?_
      refine X_iadd dX9_polls_42  ?_
      refine X_lald dX9_polls_43 h7 (h8 c1 c2) (h9 c1 c2) ?_
      refine X_iload_n dX9_polls_44 rfl rfl ?_
      refine X_iload_n dX9_polls_45 rfl rfl ?_
      refine X_iload_n dX9_polls_46 rfl rfl ?_
      exact X_callV (As := [lV (m.1 p2 (wr ((wr (4 * i1)) + i3)).toNat), iV (i1), iV (i3), iV (i2)]) (rest := [iV (wr ((wr (4 * i1)) + i3)), rV (some p2)]) (a' := 0) (b' := 0) dX9_polls_47 t9_polled ml_9_286 h1 rfl rfl (Nat.le_of_ble_eq_true rfl) rfl hdp (Nat.zero_le _) (Nat.zero_le _) ((k2 c1 c2) _ (fun z m' h => h))
    · refine X_goto (tgt := 51) dX9_polls_21 (by decide) ?_
      refine X_iinc dX9_polls_51 rfl ?_
      refine X_goto (tgt := 2) dX9_polls_54 (by decide) ?_
      exact (k3 c1 c2)

theorem s9_polls_50 {G : am_G} {dp a b : Nat} {m : am_M} {Q : am_Q} {i1 i2 i3 i91 l90 : Int} {r0 r92 : Nat} {n_r92 : Nat} (h1 : am_arw m r92 101 n_r92) (k1 : X G dp a b M9_polls 2 [some (rV (some r0)), some (iV (i1)), some (iV (i2)), some (iV (wr (i3 + 1)))] [] ((u2 m.1 r92 (i91).toNat (l90)), m.2.1, m.2.2) Q) (h2 : 0 ≤ i91 := by intros; first | omega | (dsimp only at *; omega)) (h3 : i91 < (n_r92 : Int) := by intros; first | omega | (dsimp only at *; omega)) : X G dp a b M9_polls 50 [some (rV (some r0)), some (iV (i1)), some (iV (i2)), some (iV (i3))] [lV (l90), iV (i91), rV (some r92)] m Q := by
  refine X_last dX9_polls_50 h1 h2 h3 ?_
  refine X_iinc dX9_polls_51 rfl ?_
  refine X_goto (tgt := 2) dX9_polls_54 (by decide) ?_
  exact k1

theorem s9_needOf_0 {G : am_G} {dp a b : Nat} {m : am_M} {Q : am_Q} {i1 i2 i3 i4 : Int} {r0 : Nat} (hdp : 1 ≤ dp) (h1 : am_ob m r0 8) (k1 : ∀ Q' : am_Q, (∀ (z : Int) (m' : am_M), X G dp a b M9_needOf 5 [some (rV (some r0)), some (iV (i1)), some (iV (i2)), some (iV (i3)), some (iV (i4))] [iV (z)] m' Q → Q' (.inl (some (iV (z)))) m') → T G (dp - 1) 0 0 M9_wayOf [rV (some r0), iV (i1)] m Q')  : X G dp a b M9_needOf 0 [some (rV (some r0)), some (iV (i1)), some (iV (i2)), some (iV (i3)), some (iV (i4))] [] m Q := by
  refine X_aload_n dX9_needOf_0 rfl rfl ?_
  refine X_iload_n dX9_needOf_1 rfl rfl ?_
  exact X_callV (As := [iV (i1)]) (rest := []) (a' := 0) (b' := 0) dX9_needOf_2 t9_wayOf ml_9_141 h1 rfl rfl (Nat.le_of_ble_eq_true rfl) rfl hdp (Nat.zero_le _) (Nat.zero_le _) (k1 _ (fun z m' h => h))

theorem s9_needOf_5 {G : am_G} {dp a b : Nat} {m : am_M} {Q : am_Q} {i1 i2 i3 i4 i90 : Int} {r0 : Nat} (hdp : 1 ≤ dp) (h1 : am_ob m r0 8) (k1 : ¬ (i90 = 0) → ∀ Q' : am_Q, (∀ (z : Int) (m' : am_M), X G dp a b M9_needOf 27 [some (rV (some r0)), some (iV (i1)), some (iV (i2)), some (iV (i3)), some (iV (i4))] [iV (z)] m' Q → Q' (.inl (some (iV (z)))) m') → T G (dp - 1) 0 0 M9_needByPolling [rV (some r0), iV (i1), iV (i3), iV (i2)] m Q') (k2 : (i90 = 0) → ∀ Q' : am_Q, (∀ (z : Int) (m' : am_M), X G dp a b M9_needOf 17 [some (rV (some r0)), some (iV (i1)), some (iV (i2)), some (iV (i3)), some (iV (i4))] [iV (z)] m' Q → Q' (.inl (some (iV (z)))) m') → T G (dp - 1) 0 0 M9_needByComparing [rV (some r0), iV (i1), iV (i2), iV (i3), iV (i4)] m Q')  : X G dp a b M9_needOf 5 [some (rV (some r0)), some (iV (i1)), some (iV (i2)), some (iV (i3)), some (iV (i4))] [iV (i90)] m Q := by
  refine X_if_ne (tgt := 20) dX9_needOf_5 (by decide) (fun c1 => ?_) (fun c1 => ?_)
  · refine X_aload_n dX9_needOf_20 rfl rfl ?_
    refine X_iload_n dX9_needOf_21 rfl rfl ?_
    refine X_iload_n dX9_needOf_22 rfl rfl ?_
    refine X_iload_n dX9_needOf_23 rfl rfl ?_
    exact X_callV (As := [iV (i1), iV (i3), iV (i2)]) (rest := []) (a' := 0) (b' := 0) dX9_needOf_24 t9_needByPolling ml_9_292 h1 rfl rfl (Nat.le_of_ble_eq_true rfl) rfl hdp (Nat.zero_le _) (Nat.zero_le _) ((k1 c1) _ (fun z m' h => h))
  · refine X_aload_n dX9_needOf_8 rfl rfl ?_
    refine X_iload_n dX9_needOf_9 rfl rfl ?_
    refine X_iload_n dX9_needOf_10 rfl rfl ?_
    refine X_iload_n dX9_needOf_11 rfl rfl ?_
    refine X_iload dX9_needOf_12 rfl ?_
    exact X_callV (As := [iV (i1), iV (i2), iV (i3), iV (i4)]) (rest := []) (a' := 0) (b' := 0) dX9_needOf_14 t9_needByComparing ml_9_289 h1 rfl rfl (Nat.le_of_ble_eq_true rfl) rfl hdp (Nat.zero_le _) (Nat.zero_le _) ((k2 c1) _ (fun z m' h => h))

theorem s9_needOf_17 {G : am_G} {dp a b : Nat} {m : am_M} {Q : am_Q} {i1 i2 i3 i4 i90 : Int} {r0 : Nat}  (k1 : X G dp a b M9_needOf 27 [some (rV (some r0)), some (iV (i1)), some (iV (i2)), some (iV (i3)), some (iV (i4))] [iV (i90)] m Q)  : X G dp a b M9_needOf 17 [some (rV (some r0)), some (iV (i1)), some (iV (i2)), some (iV (i3)), some (iV (i4))] [iV (i90)] m Q := by
  refine X_goto (tgt := 27) dX9_needOf_17 (by decide) ?_
  exact k1

theorem s9_needOf_27 {G : am_G} {dp a b : Nat} {m : am_M} {Q : am_Q} {i1 i2 i3 i4 i90 : Int} {r0 : Nat}  (k1 : Q (.inl (some (iV (i90)))) m)  : X G dp a b M9_needOf 27 [some (rV (some r0)), some (iV (i1)), some (iV (i2)), some (iV (i3)), some (iV (i4))] [iV (i90)] m Q := by
  exact X_iret dX9_needOf_27 rfl k1

theorem s9_areMistakes_0 {G : am_G} {dp a b : Nat} {m : am_M} {Q : am_Q} {i0 i1 : Int} (hdp : 1 ≤ dp)  (k1 : ∀ Q' : am_Q, (∀ (z : Int) (m' : am_M), X G dp a b M9_areMistakes 7 [some (iV (i0)), some (iV (i1))] [iV (z)] m' Q → Q' (.inl (some (iV (z)))) m') → T G (dp - 1) 0 0 M9_isIn [iV (i0), iV (0), iV (99)] m Q')  : X G dp a b M9_areMistakes 0 [some (iV (i0)), some (iV (i1))] [] m Q := by
  refine X_iload_n dX9_areMistakes_0 rfl rfl ?_
  refine Y_iconst dX9_areMistakes_1 (by unfold i32; omega) ?_
  refine Y_bipush dX9_areMistakes_2 (by omega) ?_
  exact X_callS (As := [iV (i0), iV (0), iV (99)]) (rest := []) (a' := 0) (b' := 0) dX9_areMistakes_4 t9_isIn ml_9_80 rfl rfl (Nat.le_of_ble_eq_true rfl) rfl hdp (Nat.zero_le _) (Nat.zero_le _) (k1 _ (fun z m' h => h))

theorem s9_areMistakes_7 {G : am_G} {dp a b : Nat} {m : am_M} {Q : am_Q} {i0 i1 i90 : Int} (hdp : 1 ≤ dp)  (k1 : (i90 = 0) → Q (.inl (some (iV (0)))) m) (k2 : ¬ (i90 = 0) → ∀ Q' : am_Q, (∀ (z : Int) (m' : am_M), X G dp a b M9_areMistakes 17 [some (iV (i0)), some (iV (i1))] [iV (z)] m' Q → Q' (.inl (some (iV (z)))) m') → T G (dp - 1) 0 0 M9_isIn [iV (i1), iV (0), iV (99)] m Q')  : X G dp a b M9_areMistakes 7 [some (iV (i0)), some (iV (i1))] [iV (i90)] m Q := by
  refine X_if_eq (tgt := 24) dX9_areMistakes_7 (by decide) (fun c1 => ?_) (fun c1 => ?_)
  · refine Y_iconst dX9_areMistakes_24 (by unfold i32; omega) ?_
    exact X_zret dX9_areMistakes_25 rfl (by decide) (k1 c1)
  · refine X_iload_n dX9_areMistakes_10 rfl rfl ?_
    refine Y_iconst dX9_areMistakes_11 (by unfold i32; omega) ?_
    refine Y_bipush dX9_areMistakes_12 (by omega) ?_
    exact X_callS (As := [iV (i1), iV (0), iV (99)]) (rest := []) (a' := 0) (b' := 0) dX9_areMistakes_14 t9_isIn ml_9_80 rfl rfl (Nat.le_of_ble_eq_true rfl) rfl hdp (Nat.zero_le _) (Nat.zero_le _) ((k2 c1) _ (fun z m' h => h))

theorem s9_areMistakes_17 {G : am_G} {dp a b : Nat} {m : am_M} {Q : am_Q} {i0 i1 i90 : Int}  (k1 : (i90 = 0) → Q (.inl (some (iV (0)))) m) (k2 : ¬ (i90 = 0) → Q (.inl (some (iV (1)))) m)  : X G dp a b M9_areMistakes 17 [some (iV (i0)), some (iV (i1))] [iV (i90)] m Q := by
  refine X_if_eq (tgt := 24) dX9_areMistakes_17 (by decide) (fun c1 => ?_) (fun c1 => ?_)
  · refine Y_iconst dX9_areMistakes_24 (by unfold i32; omega) ?_
    exact X_zret dX9_areMistakes_25 rfl (by decide) (k1 c1)
  · refine Y_iconst dX9_areMistakes_20 (by unfold i32; omega) ?_
    refine X_goto (tgt := 25) dX9_areMistakes_21 (by decide) ?_
    exact X_zret dX9_areMistakes_25 rfl (by decide) (k2 c1)

theorem s9_need_0 {G : am_G} {dp a b : Nat} {m : am_M} {Q : am_Q} {i1 i2 i3 : Int} {r0 : Nat} (hdp : 1 ≤ dp) (h1 : am_ob m r0 8) (k1 : ∀ Q' : am_Q, (∀ (z : Int) (m' : am_M), X G dp a b M9_need 6 [some (rV (some r0)), some (iV (i1)), some (iV (i2)), some (iV (i3))] [iV (z), rV (some r0)] m' Q → Q' (.inl (some (iV (z)))) m') → T G (dp - 1) 0 0 M9_isRace [rV (some r0), iV (i1)] m Q')  : X G dp a b M9_need 0 [some (rV (some r0)), some (iV (i1)), some (iV (i2)), some (iV (i3))] [] m Q := by
  refine X_aload_n dX9_need_0 rfl rfl ?_
  refine X_aload_n dX9_need_1 rfl rfl ?_
  refine X_iload_n dX9_need_2 rfl rfl ?_
  exact X_callV (As := [iV (i1)]) (rest := [rV (some r0)]) (a' := 0) (b' := 0) dX9_need_3 t9_isRace ml_9_240 h1 rfl rfl (Nat.le_of_ble_eq_true rfl) rfl hdp (Nat.zero_le _) (Nat.zero_le _) (k1 _ (fun z m' h => h))

theorem s9_need_6 {G : am_G} {dp a b : Nat} {m : am_M} {Q : am_Q} {i1 i2 i3 i90 : Int} {r0 r91 : Nat} (hdp : 1 ≤ dp) (h1 : am_obw m r91 8) (h2 : am_ob m r0 8) (k1 : ¬ (i90 = 0) → ∀ Q' : am_Q, (∀ (z : Int) (m' : am_M), X G dp a b M9_need 18 [some (rV (some r0)), some (iV (i1)), some (iV (i2)), some (iV (i3))] [iV (z), rV (some r91)] m' Q → Q' (.inl (some (iV (z)))) m') → T G (dp - 1) 0 0 M9_areMistakes [iV (i2), iV (i3)] m Q') (k2 : (i90 = 0) → (((u2 m.1 r91 7 (1)) r0 7) ≤ 0) → ∀ Q' : am_Q, (∀ (m' : am_M), X G dp a b M9_need 42 [some (rV (some r0)), some (iV (i1)), some (iV (i2)), some (iV (i3))] [] m' Q → Q' (.inl none) m') → T G (dp - 1) 0 0 M9_layRaces [rV (some r0)] ((u2 m.1 r91 7 (1)), m.2.1, m.2.2) Q') (k3 : (i90 = 0) → ¬ (((u2 m.1 r91 7 (1)) r0 7) ≤ 0) → Q (.inl (some (iV (0)))) ((u2 m.1 r91 7 (1)), m.2.1, m.2.2))  : X G dp a b M9_need 6 [some (rV (some r0)), some (iV (i1)), some (iV (i2)), some (iV (i3))] [iV (i90), rV (some r91)] m Q := by
  refine X_if_ne (tgt := 13) dX9_need_6 (by decide) (fun c1 => ?_) (fun c1 => ?_)
  · refine X_iload_n dX9_need_13 rfl rfl ?_
    refine X_iload_n dX9_need_14 rfl rfl ?_
    exact X_callS (As := [iV (i2), iV (i3)]) (rest := [rV (some r91)]) (a' := 0) (b' := 0) dX9_need_15 t9_areMistakes ml_9_295 rfl rfl (Nat.le_of_ble_eq_true rfl) rfl hdp (Nat.zero_le _) (Nat.zero_le _) ((k1 c1) _ (fun z m' h => h))
  · refine Y_iconst dX9_need_9 (by unfold i32; omega) ?_
    refine X_goto (tgt := 26) dX9_need_10 (by decide) ?_
    refine X_putI dX9_need_26 fw_9_73 rfl h1 ?_
    refine X_aload_n dX9_need_29 rfl rfl ?_
    refine X_getI dX9_need_30 fl_9_73 (by decide) h2 ?_
    refine X_if_le (tgt := 38) dX9_need_33 (by decide) (fun c2 => ?_) (fun c2 => ?_)
    · refine X_aload_n dX9_need_38 rfl rfl ?_
      exact X_callV (As := []) (rest := []) (a' := 0) (b' := 0) dX9_need_39 t9_layRaces ml_9_186 h2 rfl rfl (Nat.le_of_ble_eq_true rfl) rfl hdp (Nat.zero_le _) (Nat.zero_le _) ((k2 c1 c2) _ (fun m' h => h))
    · refine Y_iconst dX9_need_36 (by unfold i32; omega) ?_
      exact X_iret dX9_need_37 rfl (k3 c1 c2)

theorem s9_need_18 {G : am_G} {dp a b : Nat} {m : am_M} {Q : am_Q} {i1 i2 i3 i90 : Int} {r0 r91 : Nat} (hdp : 1 ≤ dp) (h1 : am_obw m r91 8) (h2 : am_ob m r0 8) (k1 : ¬ (i90 = 0) → (((u2 m.1 r91 7 (0)) r0 7) ≤ 0) → ∀ Q' : am_Q, (∀ (m' : am_M), X G dp a b M9_need 42 [some (rV (some r0)), some (iV (i1)), some (iV (i2)), some (iV (i3))] [] m' Q → Q' (.inl none) m') → T G (dp - 1) 0 0 M9_layRaces [rV (some r0)] ((u2 m.1 r91 7 (0)), m.2.1, m.2.2) Q') (k2 : ¬ (i90 = 0) → ¬ (((u2 m.1 r91 7 (0)) r0 7) ≤ 0) → Q (.inl (some (iV (0)))) ((u2 m.1 r91 7 (0)), m.2.1, m.2.2)) (k3 : (i90 = 0) → (((u2 m.1 r91 7 (2)) r0 7) ≤ 0) → ∀ Q' : am_Q, (∀ (m' : am_M), X G dp a b M9_need 42 [some (rV (some r0)), some (iV (i1)), some (iV (i2)), some (iV (i3))] [] m' Q → Q' (.inl none) m') → T G (dp - 1) 0 0 M9_layRaces [rV (some r0)] ((u2 m.1 r91 7 (2)), m.2.1, m.2.2) Q') (k4 : (i90 = 0) → ¬ (((u2 m.1 r91 7 (2)) r0 7) ≤ 0) → Q (.inl (some (iV (0)))) ((u2 m.1 r91 7 (2)), m.2.1, m.2.2))  : X G dp a b M9_need 18 [some (rV (some r0)), some (iV (i1)), some (iV (i2)), some (iV (i3))] [iV (i90), rV (some r91)] m Q := by
  refine X_if_ne (tgt := 25) dX9_need_18 (by decide) (fun c1 => ?_) (fun c1 => ?_)
  · refine Y_iconst dX9_need_25 (by unfold i32; omega) ?_
    refine X_putI dX9_need_26 fw_9_73 rfl h1 ?_
    refine X_aload_n dX9_need_29 rfl rfl ?_
    refine X_getI dX9_need_30 fl_9_73 (by decide) h2 ?_
    refine X_if_le (tgt := 38) dX9_need_33 (by decide) (fun c2 => ?_) (fun c2 => ?_)
    · refine X_aload_n dX9_need_38 rfl rfl ?_
      exact X_callV (As := []) (rest := []) (a' := 0) (b' := 0) dX9_need_39 t9_layRaces ml_9_186 h2 rfl rfl (Nat.le_of_ble_eq_true rfl) rfl hdp (Nat.zero_le _) (Nat.zero_le _) ((k1 c1 c2) _ (fun m' h => h))
    · refine Y_iconst dX9_need_36 (by unfold i32; omega) ?_
      exact X_iret dX9_need_37 rfl (k2 c1 c2)
  · refine Y_iconst dX9_need_21 (by unfold i32; omega) ?_
    refine X_goto (tgt := 26) dX9_need_22 (by decide) ?_
    refine X_putI dX9_need_26 fw_9_73 rfl h1 ?_
    refine X_aload_n dX9_need_29 rfl rfl ?_
    refine X_getI dX9_need_30 fl_9_73 (by decide) h2 ?_
    refine X_if_le (tgt := 38) dX9_need_33 (by decide) (fun c3 => ?_) (fun c3 => ?_)
    · refine X_aload_n dX9_need_38 rfl rfl ?_
      exact X_callV (As := []) (rest := []) (a' := 0) (b' := 0) dX9_need_39 t9_layRaces ml_9_186 h2 rfl rfl (Nat.le_of_ble_eq_true rfl) rfl hdp (Nat.zero_le _) (Nat.zero_le _) ((k3 c1 c3) _ (fun m' h => h))
    · refine Y_iconst dX9_need_36 (by unfold i32; omega) ?_
      exact X_iret dX9_need_37 rfl (k4 c1 c3)

theorem s9_need_42 {G : am_G} {dp a b : Nat} {m : am_M} {Q : am_Q} {i1 i2 i3 : Int} {r0 p1 : Nat} {n_p1 : Nat} (hdp : 1 ≤ dp) (h1 : am_ob m r0 8) (h2 : m.2.1 r0 0 = some p1) (h3 : am_ar m p1 100 n_p1) (k1 : ∀ Q' : am_Q, (∀ (z : Int) (m' : am_M), X G dp a b M9_need 55 [some (rV (some r0)), some (iV (i1)), some (iV (i2)), some (iV (i3))] [iV (z)] m' Q → Q' (.inl (some (iV (z)))) m') → T G (dp - 1) 0 0 M9_needOf [rV (some r0), iV (i1), iV (i2), iV (i3), iV (m.1 p1 ((3 : Int)).toNat)] m Q') (h4 : 3 < (n_p1 : Int) := by intros; first | omega | (dsimp only at *; omega)) : X G dp a b M9_need 42 [some (rV (some r0)), some (iV (i1)), some (iV (i2)), some (iV (i3))] [] m Q := by
  refine X_aload_n dX9_need_42 rfl rfl ?_
  refine X_iload_n dX9_need_43 rfl rfl ?_
  refine X_iload_n dX9_need_44 rfl rfl ?_
  refine X_iload_n dX9_need_45 rfl rfl ?_
  refine X_aload_n dX9_need_46 rfl rfl ?_
  refine X_getP dX9_need_47 fl_9_9 rfl h1 ?_
  refine am_ptr h2 ?_
  refine Y_iconst dX9_need_50 (by unfold i32; omega) ?_
  refine X_iald dX9_need_51 h3 (by decide) h4 ?_
  exact X_callV (As := [iV (i1), iV (i2), iV (i3), iV (m.1 p1 ((3 : Int)).toNat)]) (rest := []) (a' := 0) (b' := 0) dX9_need_52 t9_needOf ml_9_298 h1 rfl rfl (Nat.le_of_ble_eq_true rfl) rfl hdp (Nat.zero_le _) (Nat.zero_le _) (k1 _ (fun z m' h => h))

theorem s9_need_55 {G : am_G} {dp a b : Nat} {m : am_M} {Q : am_Q} {i1 i2 i3 i90 : Int} {r0 : Nat}  (k1 : Q (.inl (some (iV (i90)))) m)  : X G dp a b M9_need 55 [some (rV (some r0)), some (iV (i1)), some (iV (i2)), some (iV (i3))] [iV (i90)] m Q := by
  exact X_iret dX9_need_55 rfl k1

theorem s9_bestFactor_0 {G : am_G} {dp a b : Nat} {m : am_M} {Q : am_Q} {i1 i2 i3 : Int} {r0 : Nat} {o4 o5 o6 o7 : Option am_V} (hdp : 1 ≤ dp) (h1 : am_ob m r0 8) (k1 : ∀ Q' : am_Q, (∀ (z : Int) (m' : am_M), X G dp a b M9_bestFactor 6 [some (rV (some r0)), some (iV (i1)), some (iV (i2)), some (iV (i3)), o4, o5, o6, o7] [iV (z), rV (some r0)] m' Q → Q' (.inl (some (iV (z)))) m') → T G (dp - 1) 0 0 M9_isRace [rV (some r0), iV (i1)] m Q')  : X G dp a b M9_bestFactor 0 [some (rV (some r0)), some (iV (i1)), some (iV (i2)), some (iV (i3)), o4, o5, o6, o7] [] m Q := by
  refine X_aload_n dX9_bestFactor_0 rfl rfl ?_
  refine X_aload_n dX9_bestFactor_1 rfl rfl ?_
  refine X_iload_n dX9_bestFactor_2 rfl rfl ?_
  exact X_callV (As := [iV (i1)]) (rest := [rV (some r0)]) (a' := 0) (b' := 0) dX9_bestFactor_3 t9_isRace ml_9_240 h1 rfl rfl (Nat.le_of_ble_eq_true rfl) rfl hdp (Nat.zero_le _) (Nat.zero_le _) (k1 _ (fun z m' h => h))

theorem s9_bestFactor_6 {G : am_G} {dp a b : Nat} {m : am_M} {Q : am_Q} {i1 i2 i3 i90 : Int} {r0 r91 : Nat} {o4 o5 o6 o7 : Option am_V} (hdp : 1 ≤ dp) (h1 : am_obw m r91 8) (h2 : am_ob m r0 8) (k1 : ¬ (i90 = 0) → ∀ Q' : am_Q, (∀ (z : Int) (m' : am_M), X G dp a b M9_bestFactor 18 [some (rV (some r0)), some (iV (i1)), some (iV (i2)), some (iV (i3)), o4, o5, o6, o7] [iV (z), rV (some r91)] m' Q → Q' (.inl (some (iV (z)))) m') → T G (dp - 1) 0 0 M9_areMistakes [iV (i2), iV (i3)] m Q') (k2 : (i90 = 0) → (((u2 m.1 r91 7 (1)) r0 7) ≤ 0) → ∀ Q' : am_Q, (∀ (m' : am_M), X G dp a b M9_bestFactor 42 [some (rV (some r0)), some (iV (i1)), some (iV (i2)), some (iV (i3)), o4, o5, o6, o7] [] m' Q → Q' (.inl none) m') → T G (dp - 1) 0 0 M9_layRaces [rV (some r0)] ((u2 m.1 r91 7 (1)), m.2.1, m.2.2) Q') (k3 : (i90 = 0) → ¬ (((u2 m.1 r91 7 (1)) r0 7) ≤ 0) → Q (.inl (some (iV (0)))) ((u2 m.1 r91 7 (1)), m.2.1, m.2.2))  : X G dp a b M9_bestFactor 6 [some (rV (some r0)), some (iV (i1)), some (iV (i2)), some (iV (i3)), o4, o5, o6, o7] [iV (i90), rV (some r91)] m Q := by
  refine X_if_ne (tgt := 13) dX9_bestFactor_6 (by decide) (fun c1 => ?_) (fun c1 => ?_)
  · refine X_iload_n dX9_bestFactor_13 rfl rfl ?_
    refine X_iload_n dX9_bestFactor_14 rfl rfl ?_
    exact X_callS (As := [iV (i2), iV (i3)]) (rest := [rV (some r91)]) (a' := 0) (b' := 0) dX9_bestFactor_15 t9_areMistakes ml_9_295 rfl rfl (Nat.le_of_ble_eq_true rfl) rfl hdp (Nat.zero_le _) (Nat.zero_le _) ((k1 c1) _ (fun z m' h => h))
  · refine Y_iconst dX9_bestFactor_9 (by unfold i32; omega) ?_
    refine X_goto (tgt := 26) dX9_bestFactor_10 (by decide) ?_
    refine X_putI dX9_bestFactor_26 fw_9_73 rfl h1 ?_
    refine X_aload_n dX9_bestFactor_29 rfl rfl ?_
    refine X_getI dX9_bestFactor_30 fl_9_73 (by decide) h2 ?_
    refine X_if_le (tgt := 38) dX9_bestFactor_33 (by decide) (fun c2 => ?_) (fun c2 => ?_)
    · refine X_aload_n dX9_bestFactor_38 rfl rfl ?_
      exact X_callV (As := []) (rest := []) (a' := 0) (b' := 0) dX9_bestFactor_39 t9_layRaces ml_9_186 h2 rfl rfl (Nat.le_of_ble_eq_true rfl) rfl hdp (Nat.zero_le _) (Nat.zero_le _) ((k2 c1 c2) _ (fun m' h => h))
    · refine Y_iconst dX9_bestFactor_36 (by unfold i32; omega) ?_
      exact X_iret dX9_bestFactor_37 rfl (k3 c1 c2)

theorem s9_bestFactor_18 {G : am_G} {dp a b : Nat} {m : am_M} {Q : am_Q} {i1 i2 i3 i90 : Int} {r0 r91 : Nat} {o4 o5 o6 o7 : Option am_V} (hdp : 1 ≤ dp) (h1 : am_obw m r91 8) (h2 : am_ob m r0 8) (k1 : ¬ (i90 = 0) → (((u2 m.1 r91 7 (0)) r0 7) ≤ 0) → ∀ Q' : am_Q, (∀ (m' : am_M), X G dp a b M9_bestFactor 42 [some (rV (some r0)), some (iV (i1)), some (iV (i2)), some (iV (i3)), o4, o5, o6, o7] [] m' Q → Q' (.inl none) m') → T G (dp - 1) 0 0 M9_layRaces [rV (some r0)] ((u2 m.1 r91 7 (0)), m.2.1, m.2.2) Q') (k2 : ¬ (i90 = 0) → ¬ (((u2 m.1 r91 7 (0)) r0 7) ≤ 0) → Q (.inl (some (iV (0)))) ((u2 m.1 r91 7 (0)), m.2.1, m.2.2)) (k3 : (i90 = 0) → (((u2 m.1 r91 7 (2)) r0 7) ≤ 0) → ∀ Q' : am_Q, (∀ (m' : am_M), X G dp a b M9_bestFactor 42 [some (rV (some r0)), some (iV (i1)), some (iV (i2)), some (iV (i3)), o4, o5, o6, o7] [] m' Q → Q' (.inl none) m') → T G (dp - 1) 0 0 M9_layRaces [rV (some r0)] ((u2 m.1 r91 7 (2)), m.2.1, m.2.2) Q') (k4 : (i90 = 0) → ¬ (((u2 m.1 r91 7 (2)) r0 7) ≤ 0) → Q (.inl (some (iV (0)))) ((u2 m.1 r91 7 (2)), m.2.1, m.2.2))  : X G dp a b M9_bestFactor 18 [some (rV (some r0)), some (iV (i1)), some (iV (i2)), some (iV (i3)), o4, o5, o6, o7] [iV (i90), rV (some r91)] m Q := by
  refine X_if_ne (tgt := 25) dX9_bestFactor_18 (by decide) (fun c1 => ?_) (fun c1 => ?_)
  · refine Y_iconst dX9_bestFactor_25 (by unfold i32; omega) ?_
    refine X_putI dX9_bestFactor_26 fw_9_73 rfl h1 ?_
    refine X_aload_n dX9_bestFactor_29 rfl rfl ?_
    refine X_getI dX9_bestFactor_30 fl_9_73 (by decide) h2 ?_
    refine X_if_le (tgt := 38) dX9_bestFactor_33 (by decide) (fun c2 => ?_) (fun c2 => ?_)
    · refine X_aload_n dX9_bestFactor_38 rfl rfl ?_
      exact X_callV (As := []) (rest := []) (a' := 0) (b' := 0) dX9_bestFactor_39 t9_layRaces ml_9_186 h2 rfl rfl (Nat.le_of_ble_eq_true rfl) rfl hdp (Nat.zero_le _) (Nat.zero_le _) ((k1 c1 c2) _ (fun m' h => h))
    · refine Y_iconst dX9_bestFactor_36 (by unfold i32; omega) ?_
      exact X_iret dX9_bestFactor_37 rfl (k2 c1 c2)
  · refine Y_iconst dX9_bestFactor_21 (by unfold i32; omega) ?_
    refine X_goto (tgt := 26) dX9_bestFactor_22 (by decide) ?_
    refine X_putI dX9_bestFactor_26 fw_9_73 rfl h1 ?_
    refine X_aload_n dX9_bestFactor_29 rfl rfl ?_
    refine X_getI dX9_bestFactor_30 fl_9_73 (by decide) h2 ?_
    refine X_if_le (tgt := 38) dX9_bestFactor_33 (by decide) (fun c3 => ?_) (fun c3 => ?_)
    · refine X_aload_n dX9_bestFactor_38 rfl rfl ?_
      exact X_callV (As := []) (rest := []) (a' := 0) (b' := 0) dX9_bestFactor_39 t9_layRaces ml_9_186 h2 rfl rfl (Nat.le_of_ble_eq_true rfl) rfl hdp (Nat.zero_le _) (Nat.zero_le _) ((k3 c1 c3) _ (fun m' h => h))
    · refine Y_iconst dX9_bestFactor_36 (by unfold i32; omega) ?_
      exact X_iret dX9_bestFactor_37 rfl (k4 c1 c3)

theorem s9_bestFactor_42 {G : am_G} {dp a b : Nat} {m : am_M} {Q : am_Q} {i1 i2 i3 : Int} {r0 : Nat} {o4 o5 o6 o7 : Option am_V}  (k1 : X G dp a b M9_bestFactor 52 [some (rV (some r0)), some (iV (i1)), some (iV (i2)), some (iV (i3)), some (iV ((-1))), some (iV (0)), some (iV (101)), o7] [] m Q)  : X G dp a b M9_bestFactor 42 [some (rV (some r0)), some (iV (i1)), some (iV (i2)), some (iV (i3)), o4, o5, o6, o7] [] m Q := by
  refine Y_iconst dX9_bestFactor_42 (by unfold i32; omega) ?_
  refine X_istore dX9_bestFactor_43 (Nat.le_of_ble_eq_true rfl) ?_
  refine Y_iconst dX9_bestFactor_45 (by unfold i32; omega) ?_
  refine X_istore dX9_bestFactor_46 (Nat.le_of_ble_eq_true rfl) ?_
  refine Y_bipush dX9_bestFactor_48 (by omega) ?_
  refine X_istore dX9_bestFactor_50 (Nat.le_of_ble_eq_true rfl) ?_
  exact k1

theorem s9_bestFactor_52 {G : am_G} {dp a b : Nat} {m : am_M} {Q : am_Q} {i1 i2 i3 i4 i5 i6 : Int} {r0 : Nat} {o7 : Option am_V} (hdp : 1 ≤ dp) (h1 : am_ob m r0 8) (k1 : (300 < i6) → Q (.inl (some (iV (i4)))) m) (k2 : ¬ (300 < i6) → ∀ Q' : am_Q, (∀ (z : Int) (m' : am_M), X G dp a b M9_bestFactor 69 [some (rV (some r0)), some (iV (i1)), some (iV (i2)), some (iV (i3)), some (iV (i4)), some (iV (i5)), some (iV (i6)), o7] [iV (z)] m' Q → Q' (.inl (some (iV (z)))) m') → T G (dp - 1) 0 0 M9_needOf [rV (some r0), iV (i1), iV (i2), iV (i3), iV (i6)] m Q')  : X G dp a b M9_bestFactor 52 [some (rV (some r0)), some (iV (i1)), some (iV (i2)), some (iV (i3)), some (iV (i4)), some (iV (i5)), some (iV (i6)), o7] [] m Q := by
  refine X_iload dX9_bestFactor_52 rfl ?_
  refine Y_sipush dX9_bestFactor_54 (by omega) ?_
  refine X_icmp_gt (tgt := 107) dX9_bestFactor_57 (by decide) (fun c1 => ?_) (fun c1 => ?_)
  · refine X_iload dX9_bestFactor_107 rfl ?_
    exact X_iret dX9_bestFactor_109 rfl (k1 c1)
  · refine X_aload_n dX9_bestFactor_60 rfl rfl ?_
    refine X_iload_n dX9_bestFactor_61 rfl rfl ?_
    refine X_iload_n dX9_bestFactor_62 rfl rfl ?_
    refine X_iload_n dX9_bestFactor_63 rfl rfl ?_
    refine X_iload dX9_bestFactor_64 rfl ?_
    exact X_callV (As := [iV (i1), iV (i2), iV (i3), iV (i6)]) (rest := []) (a' := 0) (b' := 0) dX9_bestFactor_66 t9_needOf ml_9_298 h1 rfl rfl (Nat.le_of_ble_eq_true rfl) rfl hdp (Nat.zero_le _) (Nat.zero_le _) ((k2 c1) _ (fun z m' h => h))

theorem s9_bestFactor_69 {G : am_G} {dp a b : Nat} {m : am_M} {Q : am_Q} {i1 i2 i3 i4 i5 i6 i90 : Int} {r0 : Nat} {o7 : Option am_V}  (k1 : (i90 = (-1)) → X G dp a b M9_bestFactor 52 [some (rV (some r0)), some (iV (i1)), some (iV (i2)), some (iV (i3)), some (iV (i4)), some (iV (i5)), some (iV (wr (i6 + 1))), some (iV (i90))] [] m Q) (k2 : ¬ (i90 = (-1)) → (i4 = (-1)) → X G dp a b M9_bestFactor 52 [some (rV (some r0)), some (iV (i1)), some (iV (i2)), some (iV (i3)), some (iV (i6)), some (iV (i90)), some (iV (wr (i6 + 1))), some (iV (i90))] [] m Q) (k3 : ¬ (i90 = (-1)) → ¬ (i4 = (-1)) → (i90 < i5) → X G dp a b M9_bestFactor 52 [some (rV (some r0)), some (iV (i1)), some (iV (i2)), some (iV (i3)), some (iV (i6)), some (iV (i90)), some (iV (wr (i6 + 1))), some (iV (i90))] [] m Q) (k4 : ¬ (i90 = (-1)) → ¬ (i4 = (-1)) → ¬ (i90 < i5) → X G dp a b M9_bestFactor 52 [some (rV (some r0)), some (iV (i1)), some (iV (i2)), some (iV (i3)), some (iV (i4)), some (iV (i5)), some (iV (wr (i6 + 1))), some (iV (i90))] [] m Q)  : X G dp a b M9_bestFactor 69 [some (rV (some r0)), some (iV (i1)), some (iV (i2)), some (iV (i3)), some (iV (i4)), some (iV (i5)), some (iV (i6)), o7] [iV (i90)] m Q := by
  refine X_istore dX9_bestFactor_69 (Nat.le_of_ble_eq_true rfl) ?_
  refine X_iload dX9_bestFactor_71 rfl ?_
  refine Y_iconst dX9_bestFactor_73 (by unfold i32; omega) ?_
  refine X_icmp_eq (tgt := 101) dX9_bestFactor_74 (by decide) (fun c1 => ?_) (fun c1 => ?_)
  · refine X_iinc dX9_bestFactor_101 rfl ?_
    refine X_goto (tgt := 52) dX9_bestFactor_104 (by decide) ?_
    exact (k1 c1)
  · refine X_iload dX9_bestFactor_77 rfl ?_
    refine Y_iconst dX9_bestFactor_79 (by unfold i32; omega) ?_
    refine X_icmp_eq (tgt := 93) dX9_bestFactor_80 (by decide) (fun c2 => ?_) (fun c2 => ?_)
    · refine X_iload dX9_bestFactor_93 rfl ?_
      refine X_istore dX9_bestFactor_95 (Nat.le_of_ble_eq_true rfl) ?_
      refine X_iload dX9_bestFactor_97 rfl ?_
      refine X_istore dX9_bestFactor_99 (Nat.le_of_ble_eq_true rfl) ?_
      refine X_iinc dX9_bestFactor_101 rfl ?_
      refine X_goto (tgt := 52) dX9_bestFactor_104 (by decide) ?_
      exact (k2 c1 c2)
    · refine X_iload dX9_bestFactor_83 rfl ?_
      refine X_iload dX9_bestFactor_85 rfl ?_
      refine X_icmp_lt (tgt := 93) dX9_bestFactor_87 (by decide) (fun c3 => ?_) (fun c3 => ?_)
      · refine X_iload dX9_bestFactor_93 rfl ?_
        refine X_istore dX9_bestFactor_95 (Nat.le_of_ble_eq_true rfl) ?_
        refine X_iload dX9_bestFactor_97 rfl ?_
        refine X_istore dX9_bestFactor_99 (Nat.le_of_ble_eq_true rfl) ?_
        refine X_iinc dX9_bestFactor_101 rfl ?_
        refine X_goto (tgt := 52) dX9_bestFactor_104 (by decide) ?_
        exact (k3 c1 c2 c3)
      · refine X_goto (tgt := 101) dX9_bestFactor_90 (by decide) ?_
        refine X_iinc dX9_bestFactor_101 rfl ?_
        refine X_goto (tgt := 52) dX9_bestFactor_104 (by decide) ?_
        exact (k4 c1 c2 c3)

theorem s9_more_0 {G : am_G} {dp a b : Nat} {m : am_M} {Q : am_Q} {i1 : Int} {r0 : Nat} {o2 : Option am_V} (hdp : 1 ≤ dp) (h1 : am_obw m r0 8) (k1 : ∀ Q' : am_Q, (∀ (z : Int) (m' : am_M), X G dp a b M9_more 10 [some (rV (some r0)), some (iV (i1)), o2] [iV (z)] m' Q → Q' (.inl (some (iV (z)))) m') → T G (dp - 1) 0 0 M9_isRace [rV (some r0), iV (i1)] ((u2 m.1 r0 7 (0)), m.2.1, m.2.2) Q')  : X G dp a b M9_more 0 [some (rV (some r0)), some (iV (i1)), o2] [] m Q := by
  refine X_aload_n dX9_more_0 rfl rfl ?_
  refine Y_iconst dX9_more_1 (by unfold i32; omega) ?_
  refine X_putI dX9_more_2 fw_9_73 rfl h1 ?_
  refine X_aload_n dX9_more_5 rfl rfl ?_
  refine X_iload_n dX9_more_6 rfl rfl ?_
  exact X_callV (As := [iV (i1)]) (rest := []) (a' := 0) (b' := 0) dX9_more_7 t9_isRace ml_9_240 (am_ow h1) rfl rfl (Nat.le_of_ble_eq_true rfl) rfl hdp (Nat.zero_le _) (Nat.zero_le _) (k1 _ (fun z m' h => h))

theorem s9_more_10 {G : am_G} {dp a b : Nat} {m : am_M} {Q : am_Q} {i1 i90 : Int} {r0 : Nat} {o2 : Option am_V} (hdp : 1 ≤ dp) (h1 : am_ob m r0 8) (k1 : ¬ (i90 = 0) → ∀ Q' : am_Q, (∀ (m' : am_M), X G dp a b M9_more 23 [some (rV (some r0)), some (iV (i1)), o2] [] m' Q → Q' (.inl none) m') → T G (dp - 1) 0 0 M9_goes [rV (some r0)] m Q') (k2 : (i90 = 0) → ∀ Q' : am_Q, (∀ (z : Int) (m' : am_M), X G dp a b M9_more 18 [some (rV (some r0)), some (iV (i1)), o2] [iV (z)] m' Q → Q' (.inl (some (iV (z)))) m') → T G (dp - 1) 0 0 M9_fail [rV (some r0), iV (1)] m Q')  : X G dp a b M9_more 10 [some (rV (some r0)), some (iV (i1)), o2] [iV (i90)] m Q := by
  refine X_if_ne (tgt := 19) dX9_more_10 (by decide) (fun c1 => ?_) (fun c1 => ?_)
  · refine X_aload_n dX9_more_19 rfl rfl ?_
    exact X_callV (As := []) (rest := []) (a' := 0) (b' := 0) dX9_more_20 t9_goes ml_9_213 h1 rfl rfl (Nat.le_of_ble_eq_true rfl) rfl hdp (Nat.zero_le _) (Nat.zero_le _) ((k1 c1) _ (fun m' h => h))
  · refine X_aload_n dX9_more_13 rfl rfl ?_
    refine Y_iconst dX9_more_14 (by unfold i32; omega) ?_
    exact X_callV (As := [iV (1)]) (rest := []) (a' := 0) (b' := 0) dX9_more_15 t9_fail ml_9_210 h1 rfl rfl (Nat.le_of_ble_eq_true rfl) rfl hdp (Nat.zero_le _) (Nat.zero_le _) ((k2 c1) _ (fun z m' h => h))

theorem s9_more_18 {G : am_G} {dp a b : Nat} {m : am_M} {Q : am_Q} {i1 i90 : Int} {r0 : Nat} {o2 : Option am_V}  (k1 : Q (.inl (some (iV (i90)))) m)  : X G dp a b M9_more 18 [some (rV (some r0)), some (iV (i1)), o2] [iV (i90)] m Q := by
  exact X_iret dX9_more_18 rfl k1

theorem s9_more_23 {G : am_G} {dp a b : Nat} {m : am_M} {Q : am_Q} {i1 : Int} {r0 p1 : Nat} {o2 : Option am_V} {n_p1 : Nat} (h1 : am_ob m r0 8) (h2 : m.2.1 r0 15 = some p1) (h3 : am_ar m p1 100 n_p1) (k1 : ((m.1 p1 (i1).toNat) = (-1)) → X G dp a b M9_more 37 [some (rV (some r0)), some (iV (i1)), some (iV (1))] [] m Q) (k2 : ¬ ((m.1 p1 (i1).toNat) = (-1)) → Q (.inl (some (iV (0)))) m) (h4 : 0 ≤ i1 := by intros; first | omega | (dsimp only at *; omega)) (h5 : i1 < (n_p1 : Int) := by intros; first | omega | (dsimp only at *; omega)) : X G dp a b M9_more 23 [some (rV (some r0)), some (iV (i1)), o2] [] m Q := by
  refine X_aload_n dX9_more_23 rfl rfl ?_
  refine X_getP dX9_more_24 fl_9_47 rfl h1 ?_
  refine am_ptr h2 ?_
  refine X_iload_n dX9_more_27 rfl rfl ?_
  refine X_iald dX9_more_28 h3 h4 h5 ?_
  refine Y_iconst dX9_more_29 (by unfold i32; omega) ?_
  refine X_icmp_eq (tgt := 35) dX9_more_30 (by decide) (fun c1 => ?_) (fun c1 => ?_)
  · refine Y_iconst dX9_more_35 (by unfold i32; omega) ?_
    refine X_istore_n dX9_more_36 rfl (Nat.le_of_ble_eq_true rfl) ?_
    exact (k1 c1)
  · refine Y_iconst dX9_more_33 (by unfold i32; omega) ?_
    exact X_iret dX9_more_34 rfl (k2 c1)

theorem s9_more_37 {G : am_G} {dp a b : Nat} {m : am_M} {Q : am_Q} {i1 i2 : Int} {r0 p1 p2 : Nat} {n_p1 n_p2 : Nat} (hdp : 1 ≤ dp) (h1 : am_ob m r0 8) (h2 : m.2.1 r0 10 = some p1) (h3 : am_ar m p1 100 n_p1) (h6 : m.2.1 r0 0 = some p2) (h7 : am_ar m p2 100 n_p2) (k1 : (5000 < i2) → Q (.inl (some (iV ((-1))))) m) (k2 : ¬ (5000 < i2) → ∀ Q' : am_Q, (∀ (m' : am_M), X G dp a b M9_more 62 [some (rV (some r0)), some (iV (i1)), some (iV (i2))] [] m' Q → Q' (.inl none) m') → T G (dp - 1) 0 0 M9_draws [rV (some r0), iV (i1), iV (0), iV (m.1 p1 (i1).toNat), iV (m.1 p2 ((3 : Int)).toNat)] m Q') (h4 : ¬ (5000 < i2) → 0 ≤ i1 := by intros; first | omega | (dsimp only at *; omega)) (h5 : ¬ (5000 < i2) → i1 < (n_p1 : Int) := by intros; first | omega | (dsimp only at *; omega)) (h8 : ¬ (5000 < i2) → 3 < (n_p2 : Int) := by intros; first | omega | (dsimp only at *; omega)) : X G dp a b M9_more 37 [some (rV (some r0)), some (iV (i1)), some (iV (i2))] [] m Q := by
  refine X_iload_n dX9_more_37 rfl rfl ?_
  refine Y_sipush dX9_more_38 (by omega) ?_
  refine X_icmp_gt (tgt := 82) dX9_more_41 (by decide) (fun c1 => ?_) (fun c1 => ?_)
  · refine Y_iconst dX9_more_82 (by unfold i32; omega) ?_
    exact X_iret dX9_more_83 rfl (k1 c1)
  · refine X_aload_n dX9_more_44 rfl rfl ?_
    refine X_iload_n dX9_more_45 rfl rfl ?_
    refine Y_iconst dX9_more_46 (by unfold i32; omega) ?_
    refine X_aload_n dX9_more_47 rfl rfl ?_
    refine X_getP dX9_more_48 fl_9_31 rfl h1 ?_
    refine am_ptr h2 ?_
    refine X_iload_n dX9_more_51 rfl rfl ?_
    refine X_iald dX9_more_52 h3 (h4 c1) (h5 c1) ?_
    refine X_aload_n dX9_more_53 rfl rfl ?_
    refine X_getP dX9_more_54 fl_9_9 rfl h1 ?_
    refine am_ptr h6 ?_
    refine Y_iconst dX9_more_57 (by unfold i32; omega) ?_
    refine X_iald dX9_more_58 h7 (by decide) (h8 c1) ?_
    exact X_callV (As := [iV (i1), iV (0), iV (m.1 p1 (i1).toNat), iV (m.1 p2 ((3 : Int)).toNat)]) (rest := []) (a' := 0) (b' := 0) dX9_more_59 t9_draws ml_9_175 h1 rfl rfl (Nat.le_of_ble_eq_true rfl) rfl hdp (Nat.zero_le _) (Nat.zero_le _) ((k2 c1) _ (fun m' h => h))

theorem s9_more_62 {G : am_G} {dp a b : Nat} {m : am_M} {Q : am_Q} {i1 i2 : Int} {r0 : Nat} (hdp : 1 ≤ dp) (h1 : am_ob m r0 8) (k1 : ∀ Q' : am_Q, (∀ (z : Int) (m' : am_M), X G dp a b M9_more 68 [some (rV (some r0)), some (iV (i1)), some (iV (i2))] [lV (z), rV (some r0)] m' Q → Q' (.inl (some (lV (z)))) m') → T G (dp - 1) 0 0 M9_riskNow [rV (some r0), iV (i1)] m Q')  : X G dp a b M9_more 62 [some (rV (some r0)), some (iV (i1)), some (iV (i2))] [] m Q := by
  refine X_aload_n dX9_more_62 rfl rfl ?_
  refine X_aload_n dX9_more_63 rfl rfl ?_
  refine X_iload_n dX9_more_64 rfl rfl ?_
  exact X_callV (As := [iV (i1)]) (rest := [rV (some r0)]) (a' := 0) (b' := 0) dX9_more_65 t9_riskNow ml_9_169 h1 rfl rfl (Nat.le_of_ble_eq_true rfl) rfl hdp (Nat.zero_le _) (Nat.zero_le _) (k1 _ (fun z m' h => h))

theorem s9_more_68 {G : am_G} {dp a b : Nat} {m : am_M} {Q : am_Q} {i1 i2 l90 : Int} {r0 r91 : Nat} (hdp : 1 ≤ dp) (h1 : am_ob m r91 8) (k1 : ∀ Q' : am_Q, (∀ (z : Int) (m' : am_M), X G dp a b M9_more 71 [some (rV (some r0)), some (iV (i1)), some (iV (i2))] [iV (z)] m' Q → Q' (.inl (some (iV (z)))) m') → T G (dp - 1) 0 0 M9_isLittle [rV (some r91), lV (l90)] m Q')  : X G dp a b M9_more 68 [some (rV (some r0)), some (iV (i1)), some (iV (i2))] [lV (l90), rV (some r91)] m Q := by
  exact X_callV (As := [lV (l90)]) (rest := []) (a' := 0) (b' := 0) dX9_more_68 t9_isLittle ml_9_179 h1 rfl rfl (Nat.le_of_ble_eq_true rfl) rfl hdp (Nat.zero_le _) (Nat.zero_le _) (k1 _ (fun z m' h => h))

theorem s9_more_71 {G : am_G} {dp a b : Nat} {m : am_M} {Q : am_Q} {i1 i2 i90 : Int} {r0 : Nat}  (k1 : (i90 = 0) → X G dp a b M9_more 37 [some (rV (some r0)), some (iV (i1)), some (iV (wr (i2 + 1)))] [] m Q) (k2 : ¬ (i90 = 0) → Q (.inl (some (iV (i2)))) m)  : X G dp a b M9_more 71 [some (rV (some r0)), some (iV (i1)), some (iV (i2))] [iV (i90)] m Q := by
  refine X_if_eq (tgt := 76) dX9_more_71 (by decide) (fun c1 => ?_) (fun c1 => ?_)
  · refine X_iinc dX9_more_76 rfl ?_
    refine X_goto (tgt := 37) dX9_more_79 (by decide) ?_
    exact (k1 c1)
  · refine X_iload_n dX9_more_74 rfl rfl ?_
    exact X_iret dX9_more_75 rfl (k2 c1)

theorem s9_audit_0 {G : am_G} {dp a b : Nat} {m : am_M} {Q : am_Q} {i1 : Int} {r0 : Nat} (hdp : 1 ≤ dp) (h1 : am_ob m r0 8) (k1 : ∀ Q' : am_Q, (∀ (m' : am_M), X G dp a b M9_audit 4 [some (rV (some r0)), some (iV (i1))] [] m' Q → Q' (.inl none) m') → T G (dp - 1) 0 0 M9_begins [rV (some r0)] m Q')  : X G dp a b M9_audit 0 [some (rV (some r0)), some (iV (i1))] [] m Q := by
  refine X_aload_n dX9_audit_0 rfl rfl ?_
  exact X_callV (As := []) (rest := []) (a' := 0) (b' := 0) dX9_audit_1 t9_begins ml_9_193 h1 rfl rfl (Nat.le_of_ble_eq_true rfl) rfl hdp (Nat.zero_le _) (Nat.zero_le _) (k1 _ (fun m' h => h))

theorem s9_audit_4 {G : am_G} {dp a b : Nat} {m : am_M} {Q : am_Q} {i1 : Int} {r0 : Nat} (h1 : am_obw m r0 8) (k1 : X G dp a b M9_audit 9 [some (rV (some r0)), some (iV (i1))] [] ((u2 m.1 r0 18 (i1)), m.2.1, m.2.2) Q)  : X G dp a b M9_audit 4 [some (rV (some r0)), some (iV (i1))] [] m Q := by
  refine X_aload_n dX9_audit_4 rfl rfl ?_
  refine X_iload_n dX9_audit_5 rfl rfl ?_
  refine X_putI dX9_audit_6 fw_9_203 rfl h1 ?_
  exact k1

theorem s9_audit_9 {G : am_G} {dp a b : Nat} {m : am_M} {Q : am_Q} {i1 : Int} {r0 p1 : Nat} {n_p1 : Nat} (hdp : 1 ≤ dp) (h1 : am_ob m r0 8) (h2 : m.2.1 r0 0 = some p1) (h3 : am_ar m p1 100 n_p1) (k1 : ((m.1 p1 ((4 : Int)).toNat) ≤ (m.1 r0 16)) → Q (.inl none) m) (k2 : ¬ ((m.1 p1 ((4 : Int)).toNat) ≤ (m.1 r0 16)) → ∀ Q' : am_Q, (∀ (z : Int) (m' : am_M), X G dp a b M9_audit 26 [some (rV (some r0)), some (iV (i1))] [iV (z)] m' Q → Q' (.inl (some (iV (z)))) m') → T G (dp - 1) 0 0 M9_ballots [rV (some r0)] m Q') (h4 : 4 < (n_p1 : Int) := by intros; first | omega | (dsimp only at *; omega)) : X G dp a b M9_audit 9 [some (rV (some r0)), some (iV (i1))] [] m Q := by
  refine X_aload_n dX9_audit_9 rfl rfl ?_
  refine X_getI dX9_audit_10 fl_9_166 (by decide) h1 ?_
  refine X_aload_n dX9_audit_13 rfl rfl ?_
  refine X_getP dX9_audit_14 fl_9_9 rfl h1 ?_
  refine am_ptr h2 ?_
  refine Y_iconst dX9_audit_17 (by unfold i32; omega) ?_
  refine X_iald dX9_audit_18 h3 (by decide) h4 ?_
  refine X_icmp_ge (tgt := 47) dX9_audit_19 (by decide) (fun c1 => ?_) (fun c1 => ?_)
  · exact X_vret dX9_audit_47 rfl (k1 c1)
  · refine X_aload_n dX9_audit_22 rfl rfl ?_
    exact X_callV (As := []) (rest := []) (a' := 0) (b' := 0) dX9_audit_23 t9_ballots ml_9_84 h1 rfl rfl (Nat.le_of_ble_eq_true rfl) rfl hdp (Nat.zero_le _) (Nat.zero_le _) ((k2 c1) _ (fun z m' h => h))

theorem s9_audit_26 {G : am_G} {dp a b : Nat} {m : am_M} {Q : am_Q} {i1 i90 : Int} {r0 : Nat} (hdp : 1 ≤ dp) (h1 : am_ob m r0 8) (k1 : (i90 ≤ 0) → Q (.inl none) m) (k2 : ¬ (i90 ≤ 0) → ∀ Q' : am_Q, (∀ (z : Int) (m' : am_M), X G dp a b M9_audit 33 [some (rV (some r0)), some (iV (i1))] [iV (z)] m' Q → Q' (.inl (some (iV (z)))) m') → T G (dp - 1) 0 0 M9_isOver [rV (some r0)] m Q')  : X G dp a b M9_audit 26 [some (rV (some r0)), some (iV (i1))] [iV (i90)] m Q := by
  refine X_if_le (tgt := 47) dX9_audit_26 (by decide) (fun c1 => ?_) (fun c1 => ?_)
  · exact X_vret dX9_audit_47 rfl (k1 c1)
  · refine X_aload_n dX9_audit_29 rfl rfl ?_
    exact X_callV (As := []) (rest := []) (a' := 0) (b' := 0) dX9_audit_30 t9_isOver ml_9_196 h1 rfl rfl (Nat.le_of_ble_eq_true rfl) rfl hdp (Nat.zero_le _) (Nat.zero_le _) ((k2 c1) _ (fun z m' h => h))

theorem s9_audit_33 {G : am_G} {dp a b : Nat} {m : am_M} {Q : am_Q} {i1 i90 : Int} {r0 : Nat} (hdp : 1 ≤ dp) (h1 : am_ob m r0 8) (k1 : ¬ (i90 = 0) → Q (.inl none) m) (k2 : (i90 = 0) → ∀ Q' : am_Q, (∀ (z : Int) (m' : am_M), X G dp a b M9_audit 41 [some (rV (some r0)), some (iV (i1))] [iV (z), rV (some r0)] m' Q → Q' (.inl (some (iV (z)))) m') → T G (dp - 1) 0 0 M9_drawnBy [rV (some r0)] m Q')  : X G dp a b M9_audit 33 [some (rV (some r0)), some (iV (i1))] [iV (i90)] m Q := by
  refine X_if_ne (tgt := 47) dX9_audit_33 (by decide) (fun c1 => ?_) (fun c1 => ?_)
  · exact X_vret dX9_audit_47 rfl (k1 c1)
  · refine X_aload_n dX9_audit_36 rfl rfl ?_
    refine X_aload_n dX9_audit_37 rfl rfl ?_
    exact X_callV (As := []) (rest := [rV (some r0)]) (a' := 0) (b' := 0) dX9_audit_38 t9_drawnBy ml_9_207 h1 rfl rfl (Nat.le_of_ble_eq_true rfl) rfl hdp (Nat.zero_le _) (Nat.zero_le _) ((k2 c1) _ (fun z m' h => h))

theorem s9_audit_41 {G : am_G} {dp a b : Nat} {m : am_M} {Q : am_Q} {i1 i90 : Int} {r0 r91 : Nat} (hdp : 1 ≤ dp) (h1 : am_ob m r91 8) (k1 : ∀ Q' : am_Q, (∀ (m' : am_M), X G dp a b M9_audit 44 [some (rV (some r0)), some (iV (i1))] [] m' Q → Q' (.inl none) m') → T G (dp - 1) 0 0 M9_drawsBallot [rV (some r91), iV (i90)] m Q')  : X G dp a b M9_audit 41 [some (rV (some r0)), some (iV (i1))] [iV (i90), rV (some r91)] m Q := by
  exact X_callV (As := [iV (i90)]) (rest := []) (a' := 0) (b' := 0) dX9_audit_41 t9_drawsBallot ml_9_200 h1 rfl rfl (Nat.le_of_ble_eq_true rfl) rfl hdp (Nat.zero_le _) (Nat.zero_le _) (k1 _ (fun m' h => h))

theorem s9_audit_44 {G : am_G} {dp a b : Nat} {m : am_M} {Q : am_Q} {i1 : Int} {r0 : Nat}  (k1 : X G dp a b M9_audit 9 [some (rV (some r0)), some (iV (i1))] [] m Q)  : X G dp a b M9_audit 44 [some (rV (some r0)), some (iV (i1))] [] m Q := by
  refine X_goto (tgt := 9) dX9_audit_44 (by decide) ?_
  exact k1

theorem s9_tries_0 {G : am_G} {dp a b : Nat} {m : am_M} {Q : am_Q} {i1 i2 i3 i4 : Int} {r0 : Nat} {o5 o6 : Option am_V} (hdp : 1 ≤ dp) (h1 : am_ob m r0 8) (k1 : ∀ Q' : am_Q, (∀ (z : Int) (m' : am_M), X G dp a b M9_tries 6 [some (rV (some r0)), some (iV (i1)), some (iV (i2)), some (iV (i3)), some (iV (i4)), o5, o6] [iV (z), rV (some r0)] m' Q → Q' (.inl (some (iV (z)))) m') → T G (dp - 1) 0 0 M9_isRace [rV (some r0), iV (i1)] m Q')  : X G dp a b M9_tries 0 [some (rV (some r0)), some (iV (i1)), some (iV (i2)), some (iV (i3)), some (iV (i4)), o5, o6] [] m Q := by
  refine X_aload_n dX9_tries_0 rfl rfl ?_
  refine X_aload_n dX9_tries_1 rfl rfl ?_
  refine X_iload_n dX9_tries_2 rfl rfl ?_
  exact X_callV (As := [iV (i1)]) (rest := [rV (some r0)]) (a' := 0) (b' := 0) dX9_tries_3 t9_isRace ml_9_240 h1 rfl rfl (Nat.le_of_ble_eq_true rfl) rfl hdp (Nat.zero_le _) (Nat.zero_le _) (k1 _ (fun z m' h => h))

theorem s9_tries_6 {G : am_G} {dp a b : Nat} {m : am_M} {Q : am_Q} {i1 i2 i3 i4 i90 : Int} {r0 r91 : Nat} {o5 o6 : Option am_V} (hdp : 1 ≤ dp) (h1 : am_obw m r91 8) (h2 : am_ob m r0 8) (k1 : (i90 = 0) → (((u2 m.1 r91 7 (1)) r0 7) ≤ 0) → X G dp a b M9_tries 56 [some (rV (some r0)), some (iV (i1)), some (iV (i2)), some (iV (i3)), some (iV (i4)), some (iV (0)), some (iV (0))] [] ((u2 m.1 r91 7 (1)), m.2.1, m.2.2) Q) (k2 : (i90 = 0) → ¬ (((u2 m.1 r91 7 (1)) r0 7) ≤ 0) → Q (.inl (some (iV (0)))) ((u2 m.1 r91 7 (1)), m.2.1, m.2.2)) (k3 : ¬ (i90 = 0) → ∀ Q' : am_Q, (∀ (z : Int) (m' : am_M), X G dp a b M9_tries 16 [some (rV (some r0)), some (iV (i1)), some (iV (i2)), some (iV (i3)), some (iV (i4)), o5, o6] [iV (z), rV (some r91)] m' Q → Q' (.inl (some (iV (z)))) m') → T G (dp - 1) 0 0 M9_isIn [iV (i4), iV (0), iV (2)] m Q')  : X G dp a b M9_tries 6 [some (rV (some r0)), some (iV (i1)), some (iV (i2)), some (iV (i3)), some (iV (i4)), o5, o6] [iV (i90), rV (some r91)] m Q := by
  refine X_if_eq (tgt := 19) dX9_tries_6 (by decide) (fun c1 => ?_) (fun c1 => ?_)
  · refine Y_iconst dX9_tries_19 (by unfold i32; omega) ?_
    refine X_goto (tgt := 38) dX9_tries_20 (by decide) ?_
    refine X_putI dX9_tries_38 fw_9_73 rfl h1 ?_
    refine X_aload_n dX9_tries_41 rfl rfl ?_
    refine X_getI dX9_tries_42 fl_9_73 (by decide) h2 ?_
    refine X_if_le (tgt := 50) dX9_tries_45 (by decide) (fun c2 => ?_) (fun c2 => ?_)
    · refine Y_iconst dX9_tries_50 (by unfold i32; omega) ?_
      refine X_istore dX9_tries_51 (Nat.le_of_ble_eq_true rfl) ?_
      refine Y_iconst dX9_tries_53 (by unfold i32; omega) ?_
      refine X_istore dX9_tries_54 (Nat.le_of_ble_eq_true rfl) ?_
      exact (k1 c1 c2)
    · refine Y_iconst dX9_tries_48 (by unfold i32; omega) ?_
      exact X_iret dX9_tries_49 rfl (k2 c1 c2)
  · refine X_iload dX9_tries_9 rfl ?_
    refine Y_iconst dX9_tries_11 (by unfold i32; omega) ?_
    refine Y_iconst dX9_tries_12 (by unfold i32; omega) ?_
    exact X_callS (As := [iV (i4), iV (0), iV (2)]) (rest := [rV (some r91)]) (a' := 0) (b' := 0) dX9_tries_13 t9_isIn ml_9_80 rfl rfl (Nat.le_of_ble_eq_true rfl) rfl hdp (Nat.zero_le _) (Nat.zero_le _) ((k3 c1) _ (fun z m' h => h))

theorem s9_tries_16 {G : am_G} {dp a b : Nat} {m : am_M} {Q : am_Q} {i1 i2 i3 i4 i90 : Int} {r0 r91 : Nat} {o5 o6 : Option am_V} (hdp : 1 ≤ dp) (h1 : am_obw m r91 8) (h2 : am_ob m r0 8) (k1 : ¬ (i90 = 0) → ∀ Q' : am_Q, (∀ (z : Int) (m' : am_M), X G dp a b M9_tries 30 [some (rV (some r0)), some (iV (i1)), some (iV (i2)), some (iV (i3)), some (iV (i4)), o5, o6] [iV (z), rV (some r91)] m' Q → Q' (.inl (some (iV (z)))) m') → T G (dp - 1) 0 0 M9_isIn [iV (i3), iV (1), iV (30)] m Q') (k2 : (i90 = 0) → (((u2 m.1 r91 7 (1)) r0 7) ≤ 0) → X G dp a b M9_tries 56 [some (rV (some r0)), some (iV (i1)), some (iV (i2)), some (iV (i3)), some (iV (i4)), some (iV (0)), some (iV (0))] [] ((u2 m.1 r91 7 (1)), m.2.1, m.2.2) Q) (k3 : (i90 = 0) → ¬ (((u2 m.1 r91 7 (1)) r0 7) ≤ 0) → Q (.inl (some (iV (0)))) ((u2 m.1 r91 7 (1)), m.2.1, m.2.2))  : X G dp a b M9_tries 16 [some (rV (some r0)), some (iV (i1)), some (iV (i2)), some (iV (i3)), some (iV (i4)), o5, o6] [iV (i90), rV (some r91)] m Q := by
  refine X_if_ne (tgt := 23) dX9_tries_16 (by decide) (fun c1 => ?_) (fun c1 => ?_)
  · refine X_iload_n dX9_tries_23 rfl rfl ?_
    refine Y_iconst dX9_tries_24 (by unfold i32; omega) ?_
    refine Y_bipush dX9_tries_25 (by omega) ?_
    exact X_callS (As := [iV (i3), iV (1), iV (30)]) (rest := [rV (some r91)]) (a' := 0) (b' := 0) dX9_tries_27 t9_isIn ml_9_80 rfl rfl (Nat.le_of_ble_eq_true rfl) rfl hdp (Nat.zero_le _) (Nat.zero_le _) ((k1 c1) _ (fun z m' h => h))
  · refine Y_iconst dX9_tries_19 (by unfold i32; omega) ?_
    refine X_goto (tgt := 38) dX9_tries_20 (by decide) ?_
    refine X_putI dX9_tries_38 fw_9_73 rfl h1 ?_
    refine X_aload_n dX9_tries_41 rfl rfl ?_
    refine X_getI dX9_tries_42 fl_9_73 (by decide) h2 ?_
    refine X_if_le (tgt := 50) dX9_tries_45 (by decide) (fun c2 => ?_) (fun c2 => ?_)
    · refine Y_iconst dX9_tries_50 (by unfold i32; omega) ?_
      refine X_istore dX9_tries_51 (Nat.le_of_ble_eq_true rfl) ?_
      refine Y_iconst dX9_tries_53 (by unfold i32; omega) ?_
      refine X_istore dX9_tries_54 (Nat.le_of_ble_eq_true rfl) ?_
      exact (k2 c1 c2)
    · refine Y_iconst dX9_tries_48 (by unfold i32; omega) ?_
      exact X_iret dX9_tries_49 rfl (k3 c1 c2)

theorem s9_tries_30 {G : am_G} {dp a b : Nat} {m : am_M} {Q : am_Q} {i1 i2 i3 i4 i90 : Int} {r0 r91 : Nat} {o5 o6 : Option am_V} (h1 : am_obw m r91 8) (h2 : am_ob m r0 8) (k1 : ¬ (i90 = 0) → (((u2 m.1 r91 7 (0)) r0 7) ≤ 0) → X G dp a b M9_tries 56 [some (rV (some r0)), some (iV (i1)), some (iV (i2)), some (iV (i3)), some (iV (i4)), some (iV (0)), some (iV (0))] [] ((u2 m.1 r91 7 (0)), m.2.1, m.2.2) Q) (k2 : ¬ (i90 = 0) → ¬ (((u2 m.1 r91 7 (0)) r0 7) ≤ 0) → Q (.inl (some (iV (0)))) ((u2 m.1 r91 7 (0)), m.2.1, m.2.2)) (k3 : (i90 = 0) → (((u2 m.1 r91 7 (2)) r0 7) ≤ 0) → X G dp a b M9_tries 56 [some (rV (some r0)), some (iV (i1)), some (iV (i2)), some (iV (i3)), some (iV (i4)), some (iV (0)), some (iV (0))] [] ((u2 m.1 r91 7 (2)), m.2.1, m.2.2) Q) (k4 : (i90 = 0) → ¬ (((u2 m.1 r91 7 (2)) r0 7) ≤ 0) → Q (.inl (some (iV (0)))) ((u2 m.1 r91 7 (2)), m.2.1, m.2.2))  : X G dp a b M9_tries 30 [some (rV (some r0)), some (iV (i1)), some (iV (i2)), some (iV (i3)), some (iV (i4)), o5, o6] [iV (i90), rV (some r91)] m Q := by
  refine X_if_ne (tgt := 37) dX9_tries_30 (by decide) (fun c1 => ?_) (fun c1 => ?_)
  · refine Y_iconst dX9_tries_37 (by unfold i32; omega) ?_
    refine X_putI dX9_tries_38 fw_9_73 rfl h1 ?_
    refine X_aload_n dX9_tries_41 rfl rfl ?_
    refine X_getI dX9_tries_42 fl_9_73 (by decide) h2 ?_
    refine X_if_le (tgt := 50) dX9_tries_45 (by decide) (fun c2 => ?_) (fun c2 => ?_)
    · refine Y_iconst dX9_tries_50 (by unfold i32; omega) ?_
      refine X_istore dX9_tries_51 (Nat.le_of_ble_eq_true rfl) ?_
      refine Y_iconst dX9_tries_53 (by unfold i32; omega) ?_
      refine X_istore dX9_tries_54 (Nat.le_of_ble_eq_true rfl) ?_
      exact (k1 c1 c2)
    · refine Y_iconst dX9_tries_48 (by unfold i32; omega) ?_
      exact X_iret dX9_tries_49 rfl (k2 c1 c2)
  · refine Y_iconst dX9_tries_33 (by unfold i32; omega) ?_
    refine X_goto (tgt := 38) dX9_tries_34 (by decide) ?_
    refine X_putI dX9_tries_38 fw_9_73 rfl h1 ?_
    refine X_aload_n dX9_tries_41 rfl rfl ?_
    refine X_getI dX9_tries_42 fl_9_73 (by decide) h2 ?_
    refine X_if_le (tgt := 50) dX9_tries_45 (by decide) (fun c3 => ?_) (fun c3 => ?_)
    · refine Y_iconst dX9_tries_50 (by unfold i32; omega) ?_
      refine X_istore dX9_tries_51 (Nat.le_of_ble_eq_true rfl) ?_
      refine Y_iconst dX9_tries_53 (by unfold i32; omega) ?_
      refine X_istore dX9_tries_54 (Nat.le_of_ble_eq_true rfl) ?_
      exact (k3 c1 c3)
    · refine Y_iconst dX9_tries_48 (by unfold i32; omega) ?_
      exact X_iret dX9_tries_49 rfl (k4 c1 c3)

theorem s9_tries_56 {G : am_G} {dp a b : Nat} {m : am_M} {Q : am_Q} {i1 i2 i3 i4 i5 i6 : Int} {r0 : Nat} (hdp : 1 ≤ dp) (h1 : am_ob m r0 8) (k1 : (i3 ≤ i6) → Q (.inl (some (iV (i5)))) m) (k2 : ¬ (i3 ≤ i6) → ∀ Q' : am_Q, (∀ (m' : am_M), X G dp a b M9_tries 70 [some (rV (some r0)), some (iV (i1)), some (iV (i2)), some (iV (i3)), some (iV (i4)), some (iV (i5)), some (iV (i6))] [] m' Q → Q' (.inl none) m') → T G (dp - 1) 0 0 M9_audit [rV (some r0), iV (wr (i2 + i6))] m Q')  : X G dp a b M9_tries 56 [some (rV (some r0)), some (iV (i1)), some (iV (i2)), some (iV (i3)), some (iV (i4)), some (iV (i5)), some (iV (i6))] [] m Q := by
  refine X_iload dX9_tries_56 rfl ?_
  refine X_iload_n dX9_tries_58 rfl rfl ?_
  refine X_icmp_ge (tgt := 110) dX9_tries_59 (by decide) (fun c1 => ?_) (fun c1 => ?_)
  · refine X_iload dX9_tries_110 rfl ?_
    exact X_iret dX9_tries_112 rfl (k1 c1)
  · refine X_aload_n dX9_tries_62 rfl rfl ?_
    refine X_iload_n dX9_tries_63 rfl rfl ?_
    refine X_iload dX9_tries_64 rfl ?_
    refine X_iadd dX9_tries_66  ?_
    exact X_callV (As := [iV (wr (i2 + i6))]) (rest := []) (a' := 0) (b' := 0) dX9_tries_67 t9_audit ml_9_301 h1 rfl rfl (Nat.le_of_ble_eq_true rfl) rfl hdp (Nat.zero_le _) (Nat.zero_le _) ((k2 c1) _ (fun m' h => h))

theorem s9_tries_70 {G : am_G} {dp a b : Nat} {m : am_M} {Q : am_Q} {i1 i2 i3 i4 i5 i6 : Int} {r0 : Nat} (hdp : 1 ≤ dp) (h1 : am_ob m r0 8) (k1 : ¬ (i4 = 1) → ¬ (i4 = 2) → ∀ Q' : am_Q, (∀ (z : Int) (m' : am_M), X G dp a b M9_tries 101 [some (rV (some r0)), some (iV (i1)), some (iV (i2)), some (iV (i3)), some (iV (i4)), some (iV (i5)), some (iV (i6))] [iV (z), iV (i5)] m' Q → Q' (.inl (some (iV (z)))) m') → T G (dp - 1) 0 0 M9_tried [rV (some r0), iV (i1), iV (0)] m Q') (k2 : ¬ (i4 = 1) → (i4 = 2) → ∀ Q' : am_Q, (∀ (z : Int) (m' : am_M), X G dp a b M9_tries 101 [some (rV (some r0)), some (iV (i1)), some (iV (i2)), some (iV (i3)), some (iV (i4)), some (iV (i5)), some (iV (i6))] [iV (z), iV (i5)] m' Q → Q' (.inl (some (iV (z)))) m') → T G (dp - 1) 0 0 M9_tried [rV (some r0), iV (i1), iV (1)] m Q') (k3 : (i4 = 1) → X G dp a b M9_tries 101 [some (rV (some r0)), some (iV (i1)), some (iV (i2)), some (iV (i3)), some (iV (i4)), some (iV (i5)), some (iV (i6))] [iV (m.1 r0 16), iV (i5)] m Q)  : X G dp a b M9_tries 70 [some (rV (some r0)), some (iV (i1)), some (iV (i2)), some (iV (i3)), some (iV (i4)), some (iV (i5)), some (iV (i6))] [] m Q := by
  refine X_iload dX9_tries_70 rfl ?_
  refine X_iload dX9_tries_72 rfl ?_
  refine Y_iconst dX9_tries_74 (by unfold i32; omega) ?_
  refine X_icmp_ne (tgt := 85) dX9_tries_75 (by decide) (fun c1 => ?_) (fun c1 => ?_)
  · refine X_aload_n dX9_tries_85 rfl rfl ?_
    refine X_iload_n dX9_tries_86 rfl rfl ?_
    refine X_iload dX9_tries_87 rfl ?_
    refine Y_iconst dX9_tries_89 (by unfold i32; omega) ?_
    refine X_icmp_ne (tgt := 97) dX9_tries_90 (by decide) (fun c2 => ?_) (fun c2 => ?_)
    · refine Y_iconst dX9_tries_97 (by unfold i32; omega) ?_
      exact X_callV (As := [iV (i1), iV (0)]) (rest := [iV (i5)]) (a' := 0) (b' := 0) dX9_tries_98 t9_tried ml_9_304 h1 rfl rfl (Nat.le_of_ble_eq_true rfl) rfl hdp (Nat.zero_le _) (Nat.zero_le _) ((k1 c1 c2) _ (fun z m' h => h))
    · refine Y_iconst dX9_tries_93 (by unfold i32; omega) ?_
      refine X_goto (tgt := 98) dX9_tries_94 (by decide) ?_
      exact X_callV (As := [iV (i1), iV (1)]) (rest := [iV (i5)]) (a' := 0) (b' := 0) dX9_tries_98 t9_tried ml_9_304 h1 rfl rfl (Nat.le_of_ble_eq_true rfl) rfl hdp (Nat.zero_le _) (Nat.zero_le _) ((k2 c1 c2) _ (fun z m' h => h))
  · refine X_aload_n dX9_tries_78 rfl rfl ?_
    refine X_getI dX9_tries_79 fl_9_166 (by decide) h1 ?_
    refine X_goto (tgt := 101) dX9_tries_82 (by decide) ?_
    exact (k3 c1)

theorem s9_tries_101 {G : am_G} {dp a b : Nat} {m : am_M} {Q : am_Q} {i1 i2 i3 i4 i5 i6 i90 i91 : Int} {r0 : Nat}  (k1 : X G dp a b M9_tries 56 [some (rV (some r0)), some (iV (i1)), some (iV (i2)), some (iV (i3)), some (iV (i4)), some (iV (wr (i91 + i90))), some (iV (wr (i6 + 1)))] [] m Q)  : X G dp a b M9_tries 101 [some (rV (some r0)), some (iV (i1)), some (iV (i2)), some (iV (i3)), some (iV (i4)), some (iV (i5)), some (iV (i6))] [iV (i90), iV (i91)] m Q := by
  refine X_iadd dX9_tries_101  ?_
  refine X_istore dX9_tries_102 (Nat.le_of_ble_eq_true rfl) ?_
  refine X_iinc dX9_tries_104 rfl ?_
  refine X_goto (tgt := 56) dX9_tries_107 (by decide) ?_
  exact k1

theorem s9_tried_0 {G : am_G} {dp a b : Nat} {m : am_M} {Q : am_Q} {i1 i2 : Int} {r0 p1 p2 p3 : Nat} {n_p1 n_p2 n_p3 : Nat} (h1 : am_ob m r0 8) (h2 : m.2.1 r0 15 = some p1) (h3 : am_ar m p1 100 n_p1) (h6 : m.2.1 r0 10 = some p2) (h7 : am_ar m p2 100 n_p2) (h9 : m.2.1 r0 11 = some p3) (h10 : am_ar m p3 100 n_p3) (k1 : ¬ ((m.1 p1 (i1).toNat) = (-1)) → (i2 = 0) → Q (.inl (some (iV (1)))) m) (k2 : ¬ ((m.1 p1 (i1).toNat) = (-1)) → ¬ (i2 = 0) → ¬ ((m.1 p2 (i1).toNat) = (m.1 p3 (i1).toNat)) → Q (.inl (some (iV (1)))) m) (k3 : ¬ ((m.1 p1 (i1).toNat) = (-1)) → ¬ (i2 = 0) → ((m.1 p2 (i1).toNat) = (m.1 p3 (i1).toNat)) → Q (.inl (some (iV (0)))) m) (k4 : ((m.1 p1 (i1).toNat) = (-1)) → Q (.inl (some (iV (0)))) m) (h4 : 0 ≤ i1 := by intros; first | omega | (dsimp only at *; omega)) (h5 : i1 < (n_p1 : Int) := by intros; first | omega | (dsimp only at *; omega)) (h8 : ¬ ((m.1 p1 (i1).toNat) = (-1)) → ¬ (i2 = 0) → i1 < (n_p2 : Int) := by intros; first | omega | (dsimp only at *; omega)) (h11 : ¬ ((m.1 p1 (i1).toNat) = (-1)) → ¬ (i2 = 0) → i1 < (n_p3 : Int) := by intros; first | omega | (dsimp only at *; omega)) : X G dp a b M9_tried 0 [some (rV (some r0)), some (iV (i1)), some (iV (i2))] [] m Q := by
  refine X_aload_n dX9_tried_0 rfl rfl ?_
  refine X_getP dX9_tried_1 fl_9_47 rfl h1 ?_
  refine am_ptr h2 ?_
  refine X_iload_n dX9_tried_4 rfl rfl ?_
  refine X_iald dX9_tried_5 h3 h4 h5 ?_
  refine Y_iconst dX9_tried_6 (by unfold i32; omega) ?_
  refine X_icmp_ne (tgt := 12) dX9_tried_7 (by decide) (fun c1 => ?_) (fun c1 => ?_)
  · refine X_iload_n dX9_tried_12 rfl rfl ?_
    refine X_if_eq (tgt := 35) dX9_tried_13 (by decide) (fun c2 => ?_) (fun c2 => ?_)
    · refine Y_iconst dX9_tried_35 (by unfold i32; omega) ?_
      exact X_iret dX9_tried_36 rfl (k1 c1 c2)
    · refine X_aload_n dX9_tried_16 rfl rfl ?_
      refine X_getP dX9_tried_17 fl_9_31 rfl h1 ?_
      refine am_ptr h6 ?_
      refine X_iload_n dX9_tried_20 rfl rfl ?_
      refine X_iald dX9_tried_21 h7 h4 (h8 c1 c2) ?_
      refine X_aload_n dX9_tried_22 rfl rfl ?_
      refine X_getP dX9_tried_23 fl_9_34 rfl h1 ?_
      refine am_ptr h9 ?_
      refine X_iload_n dX9_tried_26 rfl rfl ?_
      refine X_iald dX9_tried_27 h10 h4 (h11 c1 c2) ?_
      refine X_icmp_ne (tgt := 35) dX9_tried_28 (by decide) (fun c3 => ?_) (fun c3 => ?_)
      · refine Y_iconst dX9_tried_35 (by unfold i32; omega) ?_
        exact X_iret dX9_tried_36 rfl (k2 c1 c2 c3)
      · refine Y_iconst dX9_tried_31 (by unfold i32; omega) ?_
        refine X_goto (tgt := 36) dX9_tried_32 (by decide) ?_
        exact X_iret dX9_tried_36 rfl (k3 c1 c2 c3)
  · refine Y_iconst dX9_tried_10 (by unfold i32; omega) ?_
    exact X_iret dX9_tried_11 rfl (k4 c1)

theorem s9_quickest_0 {G : am_G} {dp a b : Nat} {m : am_M} {Q : am_Q} {i1 i2 : Int} {r0 : Nat} {o3 o4 o5 : Option am_V} (hdp : 1 ≤ dp) (h1 : am_obw m r0 8) (k1 : ∀ Q' : am_Q, (∀ (z : Int) (m' : am_M), X G dp a b M9_quickest 12 [some (rV (some r0)), some (iV (i1)), some (iV (i2)), o3, o4, o5] [iV (z)] m' Q → Q' (.inl (some (iV (z)))) m') → T G (dp - 1) 0 0 M9_isIn [iV (i2), iV (1), iV (30)] ((u2 m.1 r0 7 (0)), m.2.1, m.2.2) Q')  : X G dp a b M9_quickest 0 [some (rV (some r0)), some (iV (i1)), some (iV (i2)), o3, o4, o5] [] m Q := by
  refine X_aload_n dX9_quickest_0 rfl rfl ?_
  refine Y_iconst dX9_quickest_1 (by unfold i32; omega) ?_
  refine X_putI dX9_quickest_2 fw_9_73 rfl h1 ?_
  refine X_iload_n dX9_quickest_5 rfl rfl ?_
  refine Y_iconst dX9_quickest_6 (by unfold i32; omega) ?_
  refine Y_bipush dX9_quickest_7 (by omega) ?_
  exact X_callS (As := [iV (i2), iV (1), iV (30)]) (rest := []) (a' := 0) (b' := 0) dX9_quickest_9 t9_isIn ml_9_80 rfl rfl (Nat.le_of_ble_eq_true rfl) rfl hdp (Nat.zero_le _) (Nat.zero_le _) (k1 _ (fun z m' h => h))

theorem s9_quickest_12 {G : am_G} {dp a b : Nat} {m : am_M} {Q : am_Q} {i1 i2 i90 : Int} {r0 : Nat} {o3 o4 o5 : Option am_V} (hdp : 1 ≤ dp) (h1 : am_ob m r0 8) (k1 : ¬ (i90 = 0) → X G dp a b M9_quickest 29 [some (rV (some r0)), some (iV (i1)), some (iV (i2)), some (iV ((-1))), some (iV (0)), some (iV (0))] [] m Q) (k2 : (i90 = 0) → ∀ Q' : am_Q, (∀ (z : Int) (m' : am_M), X G dp a b M9_quickest 20 [some (rV (some r0)), some (iV (i1)), some (iV (i2)), o3, o4, o5] [iV (z)] m' Q → Q' (.inl (some (iV (z)))) m') → T G (dp - 1) 0 0 M9_fail [rV (some r0), iV (1)] m Q')  : X G dp a b M9_quickest 12 [some (rV (some r0)), some (iV (i1)), some (iV (i2)), o3, o4, o5] [iV (i90)] m Q := by
  refine X_if_ne (tgt := 21) dX9_quickest_12 (by decide) (fun c1 => ?_) (fun c1 => ?_)
  · refine Y_iconst dX9_quickest_21 (by unfold i32; omega) ?_
    refine X_istore_n dX9_quickest_22 rfl (Nat.le_of_ble_eq_true rfl) ?_
    refine Y_iconst dX9_quickest_23 (by unfold i32; omega) ?_
    refine X_istore dX9_quickest_24 (Nat.le_of_ble_eq_true rfl) ?_
    refine Y_iconst dX9_quickest_26 (by unfold i32; omega) ?_
    refine X_istore dX9_quickest_27 (Nat.le_of_ble_eq_true rfl) ?_
    exact (k1 c1)
  · refine X_aload_n dX9_quickest_15 rfl rfl ?_
    refine Y_iconst dX9_quickest_16 (by unfold i32; omega) ?_
    exact X_callV (As := [iV (1)]) (rest := []) (a' := 0) (b' := 0) dX9_quickest_17 t9_fail ml_9_210 h1 rfl rfl (Nat.le_of_ble_eq_true rfl) rfl hdp (Nat.zero_le _) (Nat.zero_le _) ((k2 c1) _ (fun z m' h => h))

theorem s9_quickest_20 {G : am_G} {dp a b : Nat} {m : am_M} {Q : am_Q} {i1 i2 i90 : Int} {r0 : Nat} {o3 o4 o5 : Option am_V}  (k1 : Q (.inl (some (iV (i90)))) m)  : X G dp a b M9_quickest 20 [some (rV (some r0)), some (iV (i1)), some (iV (i2)), o3, o4, o5] [iV (i90)] m Q := by
  exact X_iret dX9_quickest_20 rfl k1

theorem s9_quickest_29 {G : am_G} {dp a b : Nat} {m : am_M} {Q : am_Q} {i1 i2 i3 i4 i5 : Int} {r0 : Nat} (hdp : 1 ≤ dp) (h1 : am_ob m r0 8) (k1 : (i2 ≤ i5) → Q (.inl (some (iV (i3)))) m) (k2 : ¬ (i2 ≤ i5) → ∀ Q' : am_Q, (∀ (m' : am_M), X G dp a b M9_quickest 43 [some (rV (some r0)), some (iV (i1)), some (iV (i2)), some (iV (i3)), some (iV (i4)), some (iV (i5))] [] m' Q → Q' (.inl none) m') → T G (dp - 1) 0 0 M9_audit [rV (some r0), iV (wr (i1 + i5))] m Q')  : X G dp a b M9_quickest 29 [some (rV (some r0)), some (iV (i1)), some (iV (i2)), some (iV (i3)), some (iV (i4)), some (iV (i5))] [] m Q := by
  refine X_iload dX9_quickest_29 rfl ?_
  refine X_iload_n dX9_quickest_31 rfl rfl ?_
  refine X_icmp_ge (tgt := 85) dX9_quickest_32 (by decide) (fun c1 => ?_) (fun c1 => ?_)
  · refine X_iload_n dX9_quickest_85 rfl rfl ?_
    exact X_iret dX9_quickest_86 rfl (k1 c1)
  · refine X_aload_n dX9_quickest_35 rfl rfl ?_
    refine X_iload_n dX9_quickest_36 rfl rfl ?_
    refine X_iload dX9_quickest_37 rfl ?_
    refine X_iadd dX9_quickest_39  ?_
    exact X_callV (As := [iV (wr (i1 + i5))]) (rest := []) (a' := 0) (b' := 0) dX9_quickest_40 t9_audit ml_9_301 h1 rfl rfl (Nat.le_of_ble_eq_true rfl) rfl hdp (Nat.zero_le _) (Nat.zero_le _) ((k2 c1) _ (fun m' h => h))

theorem s9_quickest_43 {G : am_G} {dp a b : Nat} {m : am_M} {Q : am_Q} {i1 i2 i3 i4 i5 : Int} {r0 : Nat} (hdp : 1 ≤ dp) (h1 : am_ob m r0 8) (k1 : ∀ Q' : am_Q, (∀ (z : Int) (m' : am_M), X G dp a b M9_quickest 47 [some (rV (some r0)), some (iV (i1)), some (iV (i2)), some (iV (i3)), some (iV (i4)), some (iV (i5))] [iV (z)] m' Q → Q' (.inl (some (iV (z)))) m') → T G (dp - 1) 0 0 M9_isOver [rV (some r0)] m Q')  : X G dp a b M9_quickest 43 [some (rV (some r0)), some (iV (i1)), some (iV (i2)), some (iV (i3)), some (iV (i4)), some (iV (i5))] [] m Q := by
  refine X_aload_n dX9_quickest_43 rfl rfl ?_
  exact X_callV (As := []) (rest := []) (a' := 0) (b' := 0) dX9_quickest_44 t9_isOver ml_9_196 h1 rfl rfl (Nat.le_of_ble_eq_true rfl) rfl hdp (Nat.zero_le _) (Nat.zero_le _) (k1 _ (fun z m' h => h))

theorem s9_quickest_47 {G : am_G} {dp a b : Nat} {m : am_M} {Q : am_Q} {i1 i2 i3 i4 i5 i90 : Int} {r0 : Nat} (h1 : am_ob m r0 8) (k1 : ¬ (i90 = 0) → (i3 = (-1)) → X G dp a b M9_quickest 29 [some (rV (some r0)), some (iV (i1)), some (iV (i2)), some (iV (i5)), some (iV (m.1 r0 16)), some (iV (wr (i5 + 1)))] [] m Q) (k2 : ¬ (i90 = 0) → ¬ (i3 = (-1)) → ((m.1 r0 16) < i4) → X G dp a b M9_quickest 29 [some (rV (some r0)), some (iV (i1)), some (iV (i2)), some (iV (i5)), some (iV (m.1 r0 16)), some (iV (wr (i5 + 1)))] [] m Q) (k3 : ¬ (i90 = 0) → ¬ (i3 = (-1)) → ¬ ((m.1 r0 16) < i4) → X G dp a b M9_quickest 29 [some (rV (some r0)), some (iV (i1)), some (iV (i2)), some (iV (i3)), some (iV (i4)), some (iV (wr (i5 + 1)))] [] m Q) (k4 : (i90 = 0) → X G dp a b M9_quickest 29 [some (rV (some r0)), some (iV (i1)), some (iV (i2)), some (iV (i3)), some (iV (i4)), some (iV (wr (i5 + 1)))] [] m Q)  : X G dp a b M9_quickest 47 [some (rV (some r0)), some (iV (i1)), some (iV (i2)), some (iV (i3)), some (iV (i4)), some (iV (i5))] [iV (i90)] m Q := by
  refine X_if_ne (tgt := 53) dX9_quickest_47 (by decide) (fun c1 => ?_) (fun c1 => ?_)
  · refine X_iload_n dX9_quickest_53 rfl rfl ?_
    refine Y_iconst dX9_quickest_54 (by unfold i32; omega) ?_
    refine X_icmp_eq (tgt := 70) dX9_quickest_55 (by decide) (fun c2 => ?_) (fun c2 => ?_)
    · refine X_iload dX9_quickest_70 rfl ?_
      refine X_istore_n dX9_quickest_72 rfl (Nat.le_of_ble_eq_true rfl) ?_
      refine X_aload_n dX9_quickest_73 rfl rfl ?_
      refine X_getI dX9_quickest_74 fl_9_166 (by decide) h1 ?_
      refine X_istore dX9_quickest_77 (Nat.le_of_ble_eq_true rfl) ?_
      refine X_iinc dX9_quickest_79 rfl ?_
      refine X_goto (tgt := 29) dX9_quickest_82 (by decide) ?_
      exact (k1 c1 c2)
    · refine X_aload_n dX9_quickest_58 rfl rfl ?_
      refine X_getI dX9_quickest_59 fl_9_166 (by decide) h1 ?_
      refine X_iload dX9_quickest_62 rfl ?_
      refine X_icmp_lt (tgt := 70) dX9_quickest_64 (by decide) (fun c3 => ?_) (fun c3 => ?_)
      · refine X_iload dX9_quickest_70 rfl ?_
        refine X_istore_n dX9_quickest_72 rfl (Nat.le_of_ble_eq_true rfl) ?_
        refine X_aload_n dX9_quickest_73 rfl rfl ?_
        refine X_getI dX9_quickest_74 fl_9_166 (by decide) h1 ?_
        refine X_istore dX9_quickest_77 (Nat.le_of_ble_eq_true rfl) ?_
        refine X_iinc dX9_quickest_79 rfl ?_
        refine X_goto (tgt := 29) dX9_quickest_82 (by decide) ?_
        exact (k2 c1 c2 c3)
      · refine X_goto (tgt := 79) dX9_quickest_67 (by decide) ?_
        refine X_iinc dX9_quickest_79 rfl ?_
        refine X_goto (tgt := 29) dX9_quickest_82 (by decide) ?_
        exact (k3 c1 c2 c3)
  · refine X_goto (tgt := 79) dX9_quickest_50 (by decide) ?_
    refine X_iinc dX9_quickest_79 rfl ?_
    refine X_goto (tgt := 29) dX9_quickest_82 (by decide) ?_
    exact (k4 c1)

theorem s9_writes_0 {G : am_G} {dp a b : Nat} {m : am_M} {Q : am_Q} {i1 : Int} {r0 p1 : Nat} {n_p1 : Nat} (h2 : m.2.1 r0 21 = some p1) (h3 : am_arw m p1 100 n_p1) (h6 : am_obw m r0 8) (k1 : Q (.inl none) ((u2 (u2 m.1 p1 (m.1 r0 22).toNat (i1)) r0 22 (wr (((u2 m.1 p1 (m.1 r0 22).toNat (i1)) r0 22) + 1))), m.2.1, m.2.2)) (h4 : 0 ≤ m.1 r0 22 := by intros; first | omega | (dsimp only at *; omega)) (h5 : m.1 r0 22 < (n_p1 : Int) := by intros; first | omega | (dsimp only at *; omega)) : X G dp a b M9_writes 0 [some (rV (some r0)), some (iV (i1))] [] m Q := by
  refine X_aload_n dX9_writes_0 rfl rfl ?_
  refine X_getP dX9_writes_1 fl_9_59 rfl (am_ow h6) ?_
  refine am_ptr h2 ?_
  refine X_aload_n dX9_writes_4 rfl rfl ?_
  refine X_getI dX9_writes_5 fl_9_308 (by decide) (am_ow h6) ?_
  refine X_iload_n dX9_writes_8 rfl rfl ?_
  refine X_iast dX9_writes_9 h3 h4 h5 ?_
  refine X_aload_n dX9_writes_10 rfl rfl ?_
  refine X_dup dX9_writes_11 rfl ?_
  refine X_getI dX9_writes_12 fl_9_308 (by decide) (am_ow h6) ?_
  refine Y_iconst dX9_writes_15 (by unfold i32; omega) ?_
  refine X_iadd dX9_writes_16  ?_
  refine X_putI dX9_writes_17 fw_9_308 rfl h6 ?_
  exact X_vret dX9_writes_20 rfl k1

theorem s9_writesNumber_0 {G : am_G} {dp a b : Nat} {m : am_M} {Q : am_Q} {l1 : Int} {r0 : Nat} (hdp : 1 ≤ dp) (h1 : am_ob m r0 8) (k1 : ((lc l1 9) ≤ 0) → X G dp a b M9_writesNumber 17 [some (rV (some r0)), some (lV (l1)), none] [] m Q) (k2 : ¬ ((lc l1 9) ≤ 0) → ∀ Q' : am_Q, (∀ (m' : am_M), X G dp a b M9_writesNumber 17 [some (rV (some r0)), some (lV (l1)), none] [] m' Q → Q' (.inl none) m') → T G (dp - 1) 0 0 M9_writesNumber [rV (some r0), lV (wrl (Int.tdiv l1 10))] m Q')  : X G dp a b M9_writesNumber 0 [some (rV (some r0)), some (lV (l1)), none] [] m Q := by
  refine X_lload_n dX9_writesNumber_0 rfl rfl ?_
  refine X_ldc2 dX9_writesNumber_1 kc_9_311 (by unfold i64; omega) ?_
  refine X_lcmp dX9_writesNumber_4 ?_
  refine X_if_le (tgt := 17) dX9_writesNumber_5 (by decide) (fun c1 => ?_) (fun c1 => ?_)
  · exact (k1 c1)
  · refine X_aload_n dX9_writesNumber_8 rfl rfl ?_
    refine X_lload_n dX9_writesNumber_9 rfl rfl ?_
    refine X_ldc2 dX9_writesNumber_10 kc_9_313 (by unfold i64; omega) ?_
    refine X_ldiv dX9_writesNumber_13 (by decide) ?_
    exact X_callV (As := [lV (wrl (Int.tdiv l1 10))]) (rest := []) (a' := 0) (b' := 0) dX9_writesNumber_14 t9_writesNumber ml_9_315 h1 rfl rfl (Nat.le_of_ble_eq_true rfl) rfl hdp (Nat.zero_le _) (Nat.zero_le _) ((k2 c1) _ (fun m' h => h))

theorem s9_writesNumber_17 {G : am_G} {dp a b : Nat} {m : am_M} {Q : am_Q} {l1 : Int} {r0 : Nat} (hdp : 1 ≤ dp) (h1 : am_ob m r0 8) (k1 : ∀ Q' : am_Q, (∀ (m' : am_M), X G dp a b M9_writesNumber 31 [some (rV (some r0)), some (lV (l1)), none] [] m' Q → Q' (.inl none) m') → T G (dp - 1) 0 0 M9_writes [rV (some r0), iV (wr (wrl (48 + (Int.tmod l1 10))))] m Q')  : X G dp a b M9_writesNumber 17 [some (rV (some r0)), some (lV (l1)), none] [] m Q := by
  refine X_aload_n dX9_writesNumber_17 rfl rfl ?_
  refine X_ldc2 dX9_writesNumber_18 kc_9_319 (by unfold i64; omega) ?_
  refine X_lload_n dX9_writesNumber_21 rfl rfl ?_
  refine X_ldc2 dX9_writesNumber_22 kc_9_313 (by unfold i64; omega) ?_
  refine X_lrem dX9_writesNumber_25 (by decide) ?_
  refine X_ladd dX9_writesNumber_26  ?_
  refine X_l2i dX9_writesNumber_27 ?_
  exact X_callV (As := [iV (wr (wrl (48 + (Int.tmod l1 10))))]) (rest := []) (a' := 0) (b' := 0) dX9_writesNumber_28 t9_writes ml_9_321 h1 rfl rfl (Nat.le_of_ble_eq_true rfl) rfl hdp (Nat.zero_le _) (Nat.zero_le _) (k1 _ (fun m' h => h))

theorem s9_writesNumber_31 {G : am_G} {dp a b : Nat} {m : am_M} {Q : am_Q} {l1 : Int} {r0 : Nat}  (k1 : Q (.inl none) m)  : X G dp a b M9_writesNumber 31 [some (rV (some r0)), some (lV (l1)), none] [] m Q := by
  exact X_vret dX9_writesNumber_31 rfl k1

theorem s9_say_0 {G : am_G} {dp a b : Nat} {m : am_M} {Q : am_Q} {r0 : Nat} {o1 : Option am_V} (hdp : 1 ≤ dp) (h1 : am_obw m r0 8) (k1 : ∀ Q' : am_Q, (∀ (m' : am_M), X G dp a b M9_say 9 [some (rV (some r0)), o1] [] m' Q → Q' (.inl none) m') → T G (dp - 1) 0 0 M9_goes [rV (some r0)] ((u2 m.1 r0 7 (0)), m.2.1, m.2.2) Q')  : X G dp a b M9_say 0 [some (rV (some r0)), o1] [] m Q := by
  refine X_aload_n dX9_say_0 rfl rfl ?_
  refine Y_iconst dX9_say_1 (by unfold i32; omega) ?_
  refine X_putI dX9_say_2 fw_9_73 rfl h1 ?_
  refine X_aload_n dX9_say_5 rfl rfl ?_
  exact X_callV (As := []) (rest := []) (a' := 0) (b' := 0) dX9_say_6 t9_goes ml_9_213 (am_ow h1) rfl rfl (Nat.le_of_ble_eq_true rfl) rfl hdp (Nat.zero_le _) (Nat.zero_le _) (k1 _ (fun m' h => h))

theorem s9_say_9 {G : am_G} {dp a b : Nat} {m : am_M} {Q : am_Q} {r0 : Nat} {o1 : Option am_V} (h1 : am_obw m r0 8) (k1 : X G dp a b M9_say 16 [some (rV (some r0)), some (iV (0))] [] ((u2 m.1 r0 22 (0)), m.2.1, m.2.2) Q)  : X G dp a b M9_say 9 [some (rV (some r0)), o1] [] m Q := by
  refine X_aload_n dX9_say_9 rfl rfl ?_
  refine Y_iconst dX9_say_10 (by unfold i32; omega) ?_
  refine X_putI dX9_say_11 fw_9_308 rfl h1 ?_
  refine Y_iconst dX9_say_14 (by unfold i32; omega) ?_
  refine X_istore_n dX9_say_15 rfl (Nat.le_of_ble_eq_true rfl) ?_
  exact k1

theorem s9_say_16 {G : am_G} {dp a b : Nat} {m : am_M} {Q : am_Q} {i1 : Int} {r0 : Nat} (hdp : 1 ≤ dp) (h1 : am_ob m r0 8) (k1 : ∀ Q' : am_Q, (∀ (z : Int) (m' : am_M), X G dp a b M9_say 21 [some (rV (some r0)), some (iV (i1))] [iV (z), iV (i1)] m' Q → Q' (.inl (some (iV (z)))) m') → T G (dp - 1) 0 0 M9_races [rV (some r0)] m Q')  : X G dp a b M9_say 16 [some (rV (some r0)), some (iV (i1))] [] m Q := by
  refine X_iload_n dX9_say_16 rfl rfl ?_
  refine X_aload_n dX9_say_17 rfl rfl ?_
  exact X_callV (As := []) (rest := [iV (i1)]) (a' := 0) (b' := 0) dX9_say_18 t9_races ml_9_76 h1 rfl rfl (Nat.le_of_ble_eq_true rfl) rfl hdp (Nat.zero_le _) (Nat.zero_le _) (k1 _ (fun z m' h => h))

theorem s9_say_21 {G : am_G} {dp a b : Nat} {m : am_M} {Q : am_Q} {i1 i90 i91 : Int} {r0 : Nat} (hdp : 1 ≤ dp) (h1 : am_ob m r0 8) (k1 : (i90 ≤ i91) → ∀ Q' : am_Q, (∀ (z : Int) (m' : am_M), X G dp a b M9_say 49 [some (rV (some r0)), some (iV (i1))] [iV (z)] m' Q → Q' (.inl (some (iV (z)))) m') → T G (dp - 1) 0 0 M9_isByHand [rV (some r0)] m Q') (k2 : ¬ (i90 ≤ i91) → (i1 ≤ 0) → X G dp a b M9_say 34 [some (rV (some r0)), some (iV (i1))] [] m Q) (k3 : ¬ (i90 ≤ i91) → ¬ (i1 ≤ 0) → ∀ Q' : am_Q, (∀ (m' : am_M), X G dp a b M9_say 34 [some (rV (some r0)), some (iV (i1))] [] m' Q → Q' (.inl none) m') → T G (dp - 1) 0 0 M9_writes [rV (some r0), iV (44)] m Q')  : X G dp a b M9_say 21 [some (rV (some r0)), some (iV (i1))] [iV (i90), iV (i91)] m Q := by
  refine X_icmp_ge (tgt := 45) dX9_say_21 (by decide) (fun c1 => ?_) (fun c1 => ?_)
  · refine X_aload_n dX9_say_45 rfl rfl ?_
    exact X_callV (As := []) (rest := []) (a' := 0) (b' := 0) dX9_say_46 t9_isByHand ml_9_231 h1 rfl rfl (Nat.le_of_ble_eq_true rfl) rfl hdp (Nat.zero_le _) (Nat.zero_le _) ((k1 c1) _ (fun z m' h => h))
  · refine X_iload_n dX9_say_24 rfl rfl ?_
    refine X_if_le (tgt := 34) dX9_say_25 (by decide) (fun c2 => ?_) (fun c2 => ?_)
    · exact (k2 c1 c2)
    · refine X_aload_n dX9_say_28 rfl rfl ?_
      refine Y_bipush dX9_say_29 (by omega) ?_
      exact X_callV (As := [iV (44)]) (rest := []) (a' := 0) (b' := 0) dX9_say_31 t9_writes ml_9_321 h1 rfl rfl (Nat.le_of_ble_eq_true rfl) rfl hdp (Nat.zero_le _) (Nat.zero_le _) ((k3 c1 c2) _ (fun m' h => h))

theorem s9_say_34 {G : am_G} {dp a b : Nat} {m : am_M} {Q : am_Q} {i1 : Int} {r0 : Nat} (hdp : 1 ≤ dp) (h1 : am_ob m r0 8) (k1 : ∀ Q' : am_Q, (∀ (m' : am_M), X G dp a b M9_say 39 [some (rV (some r0)), some (iV (i1))] [] m' Q → Q' (.inl none) m') → T G (dp - 1) 0 0 M9_saysRace [rV (some r0), iV (i1)] m Q')  : X G dp a b M9_say 34 [some (rV (some r0)), some (iV (i1))] [] m Q := by
  refine X_aload_n dX9_say_34 rfl rfl ?_
  refine X_iload_n dX9_say_35 rfl rfl ?_
  exact X_callV (As := [iV (i1)]) (rest := []) (a' := 0) (b' := 0) dX9_say_36 t9_saysRace ml_9_324 h1 rfl rfl (Nat.le_of_ble_eq_true rfl) rfl hdp (Nat.zero_le _) (Nat.zero_le _) (k1 _ (fun m' h => h))

theorem s9_say_39 {G : am_G} {dp a b : Nat} {m : am_M} {Q : am_Q} {i1 : Int} {r0 : Nat}  (k1 : X G dp a b M9_say 16 [some (rV (some r0)), some (iV (wr (i1 + 1)))] [] m Q)  : X G dp a b M9_say 39 [some (rV (some r0)), some (iV (i1))] [] m Q := by
  refine X_iinc dX9_say_39 rfl ?_
  refine X_goto (tgt := 16) dX9_say_42 (by decide) ?_
  exact k1

theorem s9_say_49 {G : am_G} {dp a b : Nat} {m : am_M} {Q : am_Q} {i1 i90 : Int} {r0 : Nat} (hdp : 1 ≤ dp) (h1 : am_ob m r0 8) (k1 : (i90 = 0) → ∀ Q' : am_Q, (∀ (z : Int) (m' : am_M), X G dp a b M9_say 65 [some (rV (some r0)), some (iV (i1))] [iV (z)] m' Q → Q' (.inl (some (iV (z)))) m') → T G (dp - 1) 0 0 M9_isOver [rV (some r0)] m Q') (k2 : ¬ (i90 = 0) → ∀ Q' : am_Q, (∀ (m' : am_M), X G dp a b M9_say 58 [some (rV (some r0)), some (iV (i1))] [] m' Q → Q' (.inl none) m') → T G (dp - 1) 0 0 M9_writes [rV (some r0), iV (59)] m Q')  : X G dp a b M9_say 49 [some (rV (some r0)), some (iV (i1))] [iV (i90)] m Q := by
  refine X_if_eq (tgt := 61) dX9_say_49 (by decide) (fun c1 => ?_) (fun c1 => ?_)
  · refine X_aload_n dX9_say_61 rfl rfl ?_
    exact X_callV (As := []) (rest := []) (a' := 0) (b' := 0) dX9_say_62 t9_isOver ml_9_196 h1 rfl rfl (Nat.le_of_ble_eq_true rfl) rfl hdp (Nat.zero_le _) (Nat.zero_le _) ((k1 c1) _ (fun z m' h => h))
  · refine X_aload_n dX9_say_52 rfl rfl ?_
    refine Y_bipush dX9_say_53 (by omega) ?_
    exact X_callV (As := [iV (59)]) (rest := []) (a' := 0) (b' := 0) dX9_say_55 t9_writes ml_9_321 h1 rfl rfl (Nat.le_of_ble_eq_true rfl) rfl hdp (Nat.zero_le _) (Nat.zero_le _) ((k2 c1) _ (fun m' h => h))

theorem s9_say_58 {G : am_G} {dp a b : Nat} {m : am_M} {Q : am_Q} {i1 : Int} {r0 : Nat}  (k1 : X G dp a b M9_say 74 [some (rV (some r0)), some (iV (i1))] [] m Q)  : X G dp a b M9_say 58 [some (rV (some r0)), some (iV (i1))] [] m Q := by
  refine X_goto (tgt := 74) dX9_say_58 (by decide) ?_
  exact k1

theorem s9_say_65 {G : am_G} {dp a b : Nat} {m : am_M} {Q : am_Q} {i1 i90 : Int} {r0 : Nat} (hdp : 1 ≤ dp) (h1 : am_ob m r0 8) (k1 : ¬ (i90 = 0) → X G dp a b M9_say 74 [some (rV (some r0)), some (iV (i1))] [] m Q) (k2 : (i90 = 0) → ∀ Q' : am_Q, (∀ (m' : am_M), X G dp a b M9_say 74 [some (rV (some r0)), some (iV (i1))] [] m' Q → Q' (.inl none) m') → T G (dp - 1) 0 0 M9_writes [rV (some r0), iV (63)] m Q')  : X G dp a b M9_say 65 [some (rV (some r0)), some (iV (i1))] [iV (i90)] m Q := by
  refine X_if_ne (tgt := 74) dX9_say_65 (by decide) (fun c1 => ?_) (fun c1 => ?_)
  · exact (k1 c1)
  · refine X_aload_n dX9_say_68 rfl rfl ?_
    refine Y_bipush dX9_say_69 (by omega) ?_
    exact X_callV (As := [iV (63)]) (rest := []) (a' := 0) (b' := 0) dX9_say_71 t9_writes ml_9_321 h1 rfl rfl (Nat.le_of_ble_eq_true rfl) rfl hdp (Nat.zero_le _) (Nat.zero_le _) ((k2 c1) _ (fun m' h => h))

theorem s9_say_74 {G : am_G} {dp a b : Nat} {m : am_M} {Q : am_Q} {i1 : Int} {r0 : Nat} (h1 : am_ob m r0 8) (k1 : Q (.inl (some (iV (m.1 r0 22)))) m)  : X G dp a b M9_say 74 [some (rV (some r0)), some (iV (i1))] [] m Q := by
  refine X_aload_n dX9_say_74 rfl rfl ?_
  refine X_getI dX9_say_75 fl_9_308 (by decide) h1 ?_
  exact X_iret dX9_say_78 rfl k1

theorem s9_saysRace_0 {G : am_G} {dp a b : Nat} {m : am_M} {Q : am_Q} {i1 : Int} {r0 : Nat} (hdp : 1 ≤ dp) (h1 : am_ob m r0 8) (k1 : ∀ Q' : am_Q, (∀ (z : Int) (m' : am_M), X G dp a b M9_saysRace 6 [some (rV (some r0)), some (iV (i1))] [iV (z), rV (some r0)] m' Q → Q' (.inl (some (iV (z)))) m') → T G (dp - 1) 0 0 M9_wayOf [rV (some r0), iV (i1)] m Q')  : X G dp a b M9_saysRace 0 [some (rV (some r0)), some (iV (i1))] [] m Q := by
  refine X_aload_n dX9_saysRace_0 rfl rfl ?_
  refine X_aload_n dX9_saysRace_1 rfl rfl ?_
  refine X_iload_n dX9_saysRace_2 rfl rfl ?_
  exact X_callV (As := [iV (i1)]) (rest := [rV (some r0)]) (a' := 0) (b' := 0) dX9_saysRace_3 t9_wayOf ml_9_141 h1 rfl rfl (Nat.le_of_ble_eq_true rfl) rfl hdp (Nat.zero_le _) (Nat.zero_le _) (k1 _ (fun z m' h => h))

theorem s9_saysRace_6 {G : am_G} {dp a b : Nat} {m : am_M} {Q : am_Q} {i1 i90 : Int} {r0 r91 : Nat} (hdp : 1 ≤ dp) (h1 : am_ob m r91 8) (k1 : ¬ (i90 = 0) → ∀ Q' : am_Q, (∀ (m' : am_M), X G dp a b M9_saysRace 19 [some (rV (some r0)), some (iV (i1))] [] m' Q → Q' (.inl none) m') → T G (dp - 1) 0 0 M9_writes [rV (some r91), iV (112)] m Q') (k2 : (i90 = 0) → ∀ Q' : am_Q, (∀ (m' : am_M), X G dp a b M9_saysRace 19 [some (rV (some r0)), some (iV (i1))] [] m' Q → Q' (.inl none) m') → T G (dp - 1) 0 0 M9_writes [rV (some r91), iV (99)] m Q')  : X G dp a b M9_saysRace 6 [some (rV (some r0)), some (iV (i1))] [iV (i90), rV (some r91)] m Q := by
  refine X_if_ne (tgt := 14) dX9_saysRace_6 (by decide) (fun c1 => ?_) (fun c1 => ?_)
  · refine Y_bipush dX9_saysRace_14 (by omega) ?_
    exact X_callV (As := [iV (112)]) (rest := []) (a' := 0) (b' := 0) dX9_saysRace_16 t9_writes ml_9_321 h1 rfl rfl (Nat.le_of_ble_eq_true rfl) rfl hdp (Nat.zero_le _) (Nat.zero_le _) ((k1 c1) _ (fun m' h => h))
  · refine Y_bipush dX9_saysRace_9 (by omega) ?_
    refine X_goto (tgt := 16) dX9_saysRace_11 (by decide) ?_
    exact X_callV (As := [iV (99)]) (rest := []) (a' := 0) (b' := 0) dX9_saysRace_16 t9_writes ml_9_321 h1 rfl rfl (Nat.le_of_ble_eq_true rfl) rfl hdp (Nat.zero_le _) (Nat.zero_le _) ((k2 c1) _ (fun m' h => h))

theorem s9_saysRace_19 {G : am_G} {dp a b : Nat} {m : am_M} {Q : am_Q} {i1 : Int} {r0 p1 : Nat} {n_p1 : Nat} (hdp : 1 ≤ dp) (h1 : am_ob m r0 8) (h2 : m.2.1 r0 10 = some p1) (h3 : am_ar m p1 100 n_p1) (k1 : ∀ Q' : am_Q, (∀ (m' : am_M), X G dp a b M9_saysRace 32 [some (rV (some r0)), some (iV (i1))] [] m' Q → Q' (.inl none) m') → T G (dp - 1) 0 0 M9_writes [rV (some r0), iV (wr (97 + (m.1 p1 (i1).toNat)))] m Q') (h4 : 0 ≤ i1 := by intros; first | omega | (dsimp only at *; omega)) (h5 : i1 < (n_p1 : Int) := by intros; first | omega | (dsimp only at *; omega)) : X G dp a b M9_saysRace 19 [some (rV (some r0)), some (iV (i1))] [] m Q := by
  refine X_aload_n dX9_saysRace_19 rfl rfl ?_
  refine Y_bipush dX9_saysRace_20 (by omega) ?_
  refine X_aload_n dX9_saysRace_22 rfl rfl ?_
  refine X_getP dX9_saysRace_23 fl_9_31 rfl h1 ?_
  refine am_ptr h2 ?_
  refine X_iload_n dX9_saysRace_26 rfl rfl ?_
  refine X_iald dX9_saysRace_27 h3 h4 h5 ?_
  refine X_iadd dX9_saysRace_28  ?_
  exact X_callV (As := [iV (wr (97 + (m.1 p1 (i1).toNat)))]) (rest := []) (a' := 0) (b' := 0) dX9_saysRace_29 t9_writes ml_9_321 h1 rfl rfl (Nat.le_of_ble_eq_true rfl) rfl hdp (Nat.zero_le _) (Nat.zero_le _) (k1 _ (fun m' h => h))

theorem s9_saysRace_32 {G : am_G} {dp a b : Nat} {m : am_M} {Q : am_Q} {i1 : Int} {r0 p1 : Nat} {n_p1 : Nat} (hdp : 1 ≤ dp) (h1 : am_ob m r0 8) (h2 : m.2.1 r0 15 = some p1) (h3 : am_ar m p1 100 n_p1) (k1 : ¬ ((m.1 p1 (i1).toNat) = (-1)) → ∀ Q' : am_Q, (∀ (m' : am_M), X G dp a b M9_saysRace 68 [some (rV (some r0)), some (iV (i1))] [] m' Q → Q' (.inl none) m') → T G (dp - 1) 0 0 M9_writes [rV (some r0), iV (33)] m Q') (k2 : ((m.1 p1 (i1).toNat) = (-1)) → ∀ Q' : am_Q, (∀ (m' : am_M), X G dp a b M9_saysRace 48 [some (rV (some r0)), some (iV (i1))] [] m' Q → Q' (.inl none) m') → T G (dp - 1) 0 0 M9_writes [rV (some r0), iV (58)] m Q') (h4 : 0 ≤ i1 := by intros; first | omega | (dsimp only at *; omega)) (h5 : i1 < (n_p1 : Int) := by intros; first | omega | (dsimp only at *; omega)) : X G dp a b M9_saysRace 32 [some (rV (some r0)), some (iV (i1))] [] m Q := by
  refine X_aload_n dX9_saysRace_32 rfl rfl ?_
  refine X_getP dX9_saysRace_33 fl_9_47 rfl h1 ?_
  refine am_ptr h2 ?_
  refine X_iload_n dX9_saysRace_36 rfl rfl ?_
  refine X_iald dX9_saysRace_37 h3 h4 h5 ?_
  refine Y_iconst dX9_saysRace_38 (by unfold i32; omega) ?_
  refine X_icmp_ne (tgt := 62) dX9_saysRace_39 (by decide) (fun c1 => ?_) (fun c1 => ?_)
  · refine X_aload_n dX9_saysRace_62 rfl rfl ?_
    refine Y_bipush dX9_saysRace_63 (by omega) ?_
    exact X_callV (As := [iV (33)]) (rest := []) (a' := 0) (b' := 0) dX9_saysRace_65 t9_writes ml_9_321 h1 rfl rfl (Nat.le_of_ble_eq_true rfl) rfl hdp (Nat.zero_le _) (Nat.zero_le _) ((k1 c1) _ (fun m' h => h))
  · refine X_aload_n dX9_saysRace_42 rfl rfl ?_
    refine Y_bipush dX9_saysRace_43 (by omega) ?_
    exact X_callV (As := [iV (58)]) (rest := []) (a' := 0) (b' := 0) dX9_saysRace_45 t9_writes ml_9_321 h1 rfl rfl (Nat.le_of_ble_eq_true rfl) rfl hdp (Nat.zero_le _) (Nat.zero_le _) ((k2 c1) _ (fun m' h => h))

theorem s9_saysRace_48 {G : am_G} {dp a b : Nat} {m : am_M} {Q : am_Q} {i1 : Int} {r0 : Nat} (hdp : 1 ≤ dp) (h1 : am_ob m r0 8) (k1 : ∀ Q' : am_Q, (∀ (z : Int) (m' : am_M), X G dp a b M9_saysRace 54 [some (rV (some r0)), some (iV (i1))] [lV (z), rV (some r0)] m' Q → Q' (.inl (some (lV (z)))) m') → T G (dp - 1) 0 0 M9_riskNow [rV (some r0), iV (i1)] m Q')  : X G dp a b M9_saysRace 48 [some (rV (some r0)), some (iV (i1))] [] m Q := by
  refine X_aload_n dX9_saysRace_48 rfl rfl ?_
  refine X_aload_n dX9_saysRace_49 rfl rfl ?_
  refine X_iload_n dX9_saysRace_50 rfl rfl ?_
  exact X_callV (As := [iV (i1)]) (rest := [rV (some r0)]) (a' := 0) (b' := 0) dX9_saysRace_51 t9_riskNow ml_9_169 h1 rfl rfl (Nat.le_of_ble_eq_true rfl) rfl hdp (Nat.zero_le _) (Nat.zero_le _) (k1 _ (fun z m' h => h))

theorem s9_saysRace_54 {G : am_G} {dp a b : Nat} {m : am_M} {Q : am_Q} {i1 l90 : Int} {r0 r91 : Nat} (hdp : 1 ≤ dp) (h1 : am_ob m r91 8) (k1 : ∀ Q' : am_Q, (∀ (m' : am_M), X G dp a b M9_saysRace 61 [some (rV (some r0)), some (iV (i1))] [] m' Q → Q' (.inl none) m') → T G (dp - 1) 0 0 M9_writesNumber [rV (some r91), lV (wrl (Int.tdiv l90 1000000))] m Q')  : X G dp a b M9_saysRace 54 [some (rV (some r0)), some (iV (i1))] [lV (l90), rV (some r91)] m Q := by
  refine X_ldc2 dX9_saysRace_54 kc_9_151 (by unfold i64; omega) ?_
  refine X_ldiv dX9_saysRace_57 (by decide) ?_
  exact X_callV (As := [lV (wrl (Int.tdiv l90 1000000))]) (rest := []) (a' := 0) (b' := 0) dX9_saysRace_58 t9_writesNumber ml_9_315 h1 rfl rfl (Nat.le_of_ble_eq_true rfl) rfl hdp (Nat.zero_le _) (Nat.zero_le _) (k1 _ (fun m' h => h))

theorem s9_saysRace_61 {G : am_G} {dp a b : Nat} {m : am_M} {Q : am_Q} {i1 : Int} {r0 : Nat}  (k1 : Q (.inl none) m)  : X G dp a b M9_saysRace 61 [some (rV (some r0)), some (iV (i1))] [] m Q := by
  exact X_vret dX9_saysRace_61 rfl k1

theorem s9_saysRace_68 {G : am_G} {dp a b : Nat} {m : am_M} {Q : am_Q} {i1 : Int} {r0 p1 : Nat} {n_p1 : Nat} (hdp : 1 ≤ dp) (h1 : am_ob m r0 8) (h2 : m.2.1 r0 15 = some p1) (h3 : am_ar m p1 100 n_p1) (k1 : ∀ Q' : am_Q, (∀ (m' : am_M), X G dp a b M9_saysRace 79 [some (rV (some r0)), some (iV (i1))] [] m' Q → Q' (.inl none) m') → T G (dp - 1) 0 0 M9_writesNumber [rV (some r0), lV (m.1 p1 (i1).toNat)] m Q') (h4 : 0 ≤ i1 := by intros; first | omega | (dsimp only at *; omega)) (h5 : i1 < (n_p1 : Int) := by intros; first | omega | (dsimp only at *; omega)) : X G dp a b M9_saysRace 68 [some (rV (some r0)), some (iV (i1))] [] m Q := by
  refine X_aload_n dX9_saysRace_68 rfl rfl ?_
  refine X_aload_n dX9_saysRace_69 rfl rfl ?_
  refine X_getP dX9_saysRace_70 fl_9_47 rfl h1 ?_
  refine am_ptr h2 ?_
  refine X_iload_n dX9_saysRace_73 rfl rfl ?_
  refine X_iald dX9_saysRace_74 h3 h4 h5 ?_
  refine X_i2l dX9_saysRace_75 ?_
  exact X_callV (As := [lV (m.1 p1 (i1).toNat)]) (rest := []) (a' := 0) (b' := 0) dX9_saysRace_76 t9_writesNumber ml_9_315 h1 rfl rfl (Nat.le_of_ble_eq_true rfl) rfl hdp (Nat.zero_le _) (Nat.zero_le _) (k1 _ (fun m' h => h))

theorem s9_saysRace_79 {G : am_G} {dp a b : Nat} {m : am_M} {Q : am_Q} {i1 : Int} {r0 : Nat}  (k1 : Q (.inl none) m)  : X G dp a b M9_saysRace 79 [some (rV (some r0)), some (iV (i1))] [] m Q := by
  exact X_vret dX9_saysRace_79 rfl k1

theorem s9_said_0 {G : am_G} {dp a b : Nat} {m : am_M} {Q : am_Q} {i1 : Int} {r0 : Nat} (hdp : 1 ≤ dp) (h1 : am_obw m r0 8) (k1 : ∀ Q' : am_Q, (∀ (z : Int) (m' : am_M), X G dp a b M9_said 16 [some (rV (some r0)), some (iV (i1))] [iV (z)] m' Q → Q' (.inl (some (iV (z)))) m') → T G (dp - 1) 0 0 M9_isIn [iV (i1), iV (0), iV (wr (((u2 m.1 r0 7 (0)) r0 22) - 1))] ((u2 m.1 r0 7 (0)), m.2.1, m.2.2) Q')  : X G dp a b M9_said 0 [some (rV (some r0)), some (iV (i1))] [] m Q := by
  refine X_aload_n dX9_said_0 rfl rfl ?_
  refine Y_iconst dX9_said_1 (by unfold i32; omega) ?_
  refine X_putI dX9_said_2 fw_9_73 rfl h1 ?_
  refine X_iload_n dX9_said_5 rfl rfl ?_
  refine Y_iconst dX9_said_6 (by unfold i32; omega) ?_
  refine X_aload_n dX9_said_7 rfl rfl ?_
  refine X_getI dX9_said_8 fl_9_308 (by decide) (am_ow h1) ?_
  refine Y_iconst dX9_said_11 (by unfold i32; omega) ?_
  refine X_isub dX9_said_12  ?_
  exact X_callS (As := [iV (i1), iV (0), iV (wr (((u2 m.1 r0 7 (0)) r0 22) - 1))]) (rest := []) (a' := 0) (b' := 0) dX9_said_13 t9_isIn ml_9_80 rfl rfl (Nat.le_of_ble_eq_true rfl) rfl hdp (Nat.zero_le _) (Nat.zero_le _) (k1 _ (fun z m' h => h))

theorem s9_said_16 {G : am_G} {dp a b : Nat} {m : am_M} {Q : am_Q} {i1 i90 : Int} {r0 p1 : Nat} {n_p1 : Nat} (h1 : am_ob m r0 8) (h2 : m.2.1 r0 21 = some p1) (h3 : am_ar m p1 100 n_p1) (k1 : (i90 = 0) → Q (.inl (some (iV ((-1))))) m) (k2 : ¬ (i90 = 0) → Q (.inl (some (iV (m.1 p1 (i1).toNat)))) m) (h4 : ¬ (i90 = 0) → 0 ≤ i1 := by intros; first | omega | (dsimp only at *; omega)) (h5 : ¬ (i90 = 0) → i1 < (n_p1 : Int) := by intros; first | omega | (dsimp only at *; omega)) : X G dp a b M9_said 16 [some (rV (some r0)), some (iV (i1))] [iV (i90)] m Q := by
  refine X_if_eq (tgt := 28) dX9_said_16 (by decide) (fun c1 => ?_) (fun c1 => ?_)
  · refine Y_iconst dX9_said_28 (by unfold i32; omega) ?_
    exact X_iret dX9_said_29 rfl (k1 c1)
  · refine X_aload_n dX9_said_19 rfl rfl ?_
    refine X_getP dX9_said_20 fl_9_59 rfl h1 ?_
    refine am_ptr h2 ?_
    refine X_iload_n dX9_said_23 rfl rfl ?_
    refine X_iald dX9_said_24 h3 (h4 c1) (h5 c1) ?_
    refine X_goto (tgt := 29) dX9_said_25 (by decide) ?_
    exact X_iret dX9_said_29 rfl (k2 c1)

theorem s9_feed_0 {G : am_G} {dp a b : Nat} {m : am_M} {Q : am_Q} {i1 i2 i3 i4 i5 : Int} {r0 : Nat} {o6 o7 : Option am_V} (h1 : am_obw m r0 8) (k1 : ((wr (((u2 m.1 r0 7 (0)) r0 24) + 20)) ≤ 600) → X G dp a b M9_feed 23 [some (rV (some r0)), some (iV (i1)), some (iV (i2)), some (iV (i3)), some (iV (i4)), some (iV (i5)), some (iV (0)), o7] [] ((u2 m.1 r0 7 (0)), m.2.1, m.2.2) Q) (k2 : ¬ ((wr (((u2 m.1 r0 7 (0)) r0 24) + 20)) ≤ 600) → Q (.inl (some (iV ((-1))))) ((u2 m.1 r0 7 (0)), m.2.1, m.2.2))  : X G dp a b M9_feed 0 [some (rV (some r0)), some (iV (i1)), some (iV (i2)), some (iV (i3)), some (iV (i4)), some (iV (i5)), o6, o7] [] m Q := by
  refine X_aload_n dX9_feed_0 rfl rfl ?_
  refine Y_iconst dX9_feed_1 (by unfold i32; omega) ?_
  refine X_putI dX9_feed_2 fw_9_73 rfl h1 ?_
  refine X_aload_n dX9_feed_5 rfl rfl ?_
  refine X_getI dX9_feed_6 fl_9_237 (by decide) (am_ow h1) ?_
  refine Y_bipush dX9_feed_9 (by omega) ?_
  refine X_iadd dX9_feed_11  ?_
  refine Y_sipush dX9_feed_12 (by omega) ?_
  refine X_icmp_le (tgt := 20) dX9_feed_15 (by decide) (fun c1 => ?_) (fun c1 => ?_)
  · refine Y_iconst dX9_feed_20 (by unfold i32; omega) ?_
    refine X_istore dX9_feed_21 (Nat.le_of_ble_eq_true rfl) ?_
    exact (k1 c1)
  · refine Y_iconst dX9_feed_18 (by unfold i32; omega) ?_
    exact X_iret dX9_feed_19 rfl (k2 c1)

theorem s9_feed_23 {G : am_G} {dp a b : Nat} {m : am_M} {Q : am_Q} {i1 i2 i3 i4 i5 i6 : Int} {r0 : Nat} {o7 : Option am_V} (h1 : am_ob m r0 8) (k1 : (20 ≤ i6) → Q (.inl (some (iV (m.1 r0 24)))) m) (k2 : ¬ (20 ≤ i6) → (4 ≤ i6) → (8 ≤ i6) → (12 ≤ i6) → (16 ≤ i6) → X G dp a b M9_feed 76 [some (rV (some r0)), some (iV (i1)), some (iV (i2)), some (iV (i3)), some (iV (i4)), some (iV (i5)), some (iV (i6)), o7] [iV (i5)] m Q) (k3 : ¬ (20 ≤ i6) → (4 ≤ i6) → (8 ≤ i6) → (12 ≤ i6) → ¬ (16 ≤ i6) → X G dp a b M9_feed 76 [some (rV (some r0)), some (iV (i1)), some (iV (i2)), some (iV (i3)), some (iV (i4)), some (iV (i5)), some (iV (i6)), o7] [iV (i4)] m Q) (k4 : ¬ (20 ≤ i6) → (4 ≤ i6) → (8 ≤ i6) → ¬ (12 ≤ i6) → X G dp a b M9_feed 76 [some (rV (some r0)), some (iV (i1)), some (iV (i2)), some (iV (i3)), some (iV (i4)), some (iV (i5)), some (iV (i6)), o7] [iV (i3)] m Q) (k5 : ¬ (20 ≤ i6) → (4 ≤ i6) → ¬ (8 ≤ i6) → X G dp a b M9_feed 76 [some (rV (some r0)), some (iV (i1)), some (iV (i2)), some (iV (i3)), some (iV (i4)), some (iV (i5)), some (iV (i6)), o7] [iV (i2)] m Q) (k6 : ¬ (20 ≤ i6) → ¬ (4 ≤ i6) → X G dp a b M9_feed 76 [some (rV (some r0)), some (iV (i1)), some (iV (i2)), some (iV (i3)), some (iV (i4)), some (iV (i5)), some (iV (i6)), o7] [iV (i1)] m Q)  : X G dp a b M9_feed 23 [some (rV (some r0)), some (iV (i1)), some (iV (i2)), some (iV (i3)), some (iV (i4)), some (iV (i5)), some (iV (i6)), o7] [] m Q := by
  refine X_iload dX9_feed_23 rfl ?_
  refine Y_bipush dX9_feed_25 (by omega) ?_
  refine X_icmp_ge (tgt := 120) dX9_feed_27 (by decide) (fun c1 => ?_) (fun c1 => ?_)
  · refine X_aload_n dX9_feed_120 rfl rfl ?_
    refine X_getI dX9_feed_121 fl_9_237 (by decide) h1 ?_
    exact X_iret dX9_feed_124 rfl (k1 c1)
  · refine X_iload dX9_feed_30 rfl ?_
    refine Y_iconst dX9_feed_32 (by unfold i32; omega) ?_
    refine X_icmp_ge (tgt := 40) dX9_feed_33 (by decide) (fun c2 => ?_) (fun c2 => ?_)
    · refine X_iload dX9_feed_40 rfl ?_
      refine Y_bipush dX9_feed_42 (by omega) ?_
      refine X_icmp_ge (tgt := 51) dX9_feed_44 (by decide) (fun c3 => ?_) (fun c3 => ?_)
      · refine X_iload dX9_feed_51 rfl ?_
        refine Y_bipush dX9_feed_53 (by omega) ?_
        refine X_icmp_ge (tgt := 62) dX9_feed_55 (by decide) (fun c4 => ?_) (fun c4 => ?_)
        · refine X_iload dX9_feed_62 rfl ?_
          refine Y_bipush dX9_feed_64 (by omega) ?_
          refine X_icmp_ge (tgt := 74) dX9_feed_66 (by decide) (fun c5 => ?_) (fun c5 => ?_)
          · refine X_iload dX9_feed_74 rfl ?_
            exact (k2 c1 c2 c3 c4 c5)
          · refine X_iload dX9_feed_69 rfl ?_
            refine X_goto (tgt := 76) dX9_feed_71 (by decide) ?_
            exact (k3 c1 c2 c3 c4 c5)
        · refine X_iload_n dX9_feed_58 rfl rfl ?_
          refine X_goto (tgt := 76) dX9_feed_59 (by decide) ?_
          exact (k4 c1 c2 c3 c4)
      · refine X_iload_n dX9_feed_47 rfl rfl ?_
        refine X_goto (tgt := 76) dX9_feed_48 (by decide) ?_
        exact (k5 c1 c2 c3)
    · refine X_iload_n dX9_feed_36 rfl rfl ?_
      refine X_goto (tgt := 76) dX9_feed_37 (by decide) ?_
      exact (k6 c1 c2)

theorem s9_feed_76 {G : am_G} {dp a b : Nat} {m : am_M} {Q : am_Q} {i1 i2 i3 i4 i5 i6 i90 : Int} {r0 p1 : Nat} {o7 : Option am_V} {n_p1 : Nat} (h2 : m.2.1 r0 23 = some p1) (h3 : am_arw m p1 100 n_p1) (h6 : am_obw m r0 8) (k1 : X G dp a b M9_feed 23 [some (rV (some r0)), some (iV (i1)), some (iV (i2)), some (iV (i3)), some (iV (i4)), some (iV (i5)), some (iV (wr (i6 + 1))), some (iV (i90))] [] ((u2 (u2 m.1 p1 (m.1 r0 24).toNat (ian (ishx i90 (wr (24 - (wr (8 * (Int.tmod i6 4)))))) 255)) r0 24 (wr (((u2 m.1 p1 (m.1 r0 24).toNat (ian (ishx i90 (wr (24 - (wr (8 * (Int.tmod i6 4)))))) 255)) r0 24) + 1))), m.2.1, m.2.2) Q) (h4 : 0 ≤ m.1 r0 24 := by intros; first | omega | (dsimp only at *; omega)) (h5 : m.1 r0 24 < (n_p1 : Int) := by intros; first | omega | (dsimp only at *; omega)) : X G dp a b M9_feed 76 [some (rV (some r0)), some (iV (i1)), some (iV (i2)), some (iV (i3)), some (iV (i4)), some (iV (i5)), some (iV (i6)), o7] [iV (i90)] m Q := by
  refine X_istore dX9_feed_76 (Nat.le_of_ble_eq_true rfl) ?_
  refine X_aload_n dX9_feed_78 rfl rfl ?_
  refine X_getP dX9_feed_79 fl_9_62 rfl (am_ow h6) ?_
  refine am_ptr h2 ?_
  refine X_aload_n dX9_feed_82 rfl rfl ?_
  refine X_getI dX9_feed_83 fl_9_237 (by decide) (am_ow h6) ?_
  refine X_iload dX9_feed_86 rfl ?_
  refine Y_bipush dX9_feed_88 (by omega) ?_
  refine Y_bipush dX9_feed_90 (by omega) ?_
  refine X_iload dX9_feed_92 rfl ?_
  refine Y_iconst dX9_feed_94 (by unfold i32; omega) ?_
  refine X_irem dX9_feed_95 (by decide) ?_
  refine X_imul dX9_feed_96  ?_
  refine X_isub dX9_feed_97  ?_
  refine X_ishr dX9_feed_98  ?_
  refine Y_sipush dX9_feed_99 (by omega) ?_
  refine X_iand dX9_feed_102  ?_
  refine X_iast dX9_feed_103 h3 h4 h5 ?_
  refine X_aload_n dX9_feed_104 rfl rfl ?_
  refine X_dup dX9_feed_105 rfl ?_
  refine X_getI dX9_feed_106 fl_9_237 (by decide) (am_ow h6) ?_
  refine Y_iconst dX9_feed_109 (by unfold i32; omega) ?_
  refine X_iadd dX9_feed_110  ?_
  refine X_putI dX9_feed_111 fw_9_237 rfl h6 ?_
  refine X_iinc dX9_feed_114 rfl ?_
  refine X_goto (tgt := 23) dX9_feed_117 (by decide) ?_
  exact k1

theorem s9_fault_0 {G : am_G} {dp a b : Nat} {m : am_M} {Q : am_Q} {r0 : Nat} (h1 : am_obw m r0 8) (k1 : Q (.inl (some (iV ((u2 m.1 r0 7 (0)) r0 32)))) ((u2 m.1 r0 7 (0)), m.2.1, m.2.2))  : X G dp a b M9_fault 0 [some (rV (some r0))] [] m Q := by
  refine X_aload_n dX9_fault_0 rfl rfl ?_
  refine Y_iconst dX9_fault_1 (by unfold i32; omega) ?_
  refine X_putI dX9_fault_2 fw_9_73 rfl h1 ?_
  refine X_aload_n dX9_fault_5 rfl rfl ?_
  refine X_getI dX9_fault_6 fl_9_65 (by decide) (am_ow h1) ?_
  exact X_iret dX9_fault_9 rfl k1

theorem s9_byteAt_0 {G : am_G} {dp a b : Nat} {m : am_M} {Q : am_Q} {i1 : Int} {r0 p1 : Nat} {n_p1 : Nat} (h1 : am_ob m r0 8) (h2 : m.2.1 r0 23 = some p1) (h3 : am_ar m p1 100 n_p1) (k1 : ((m.1 r0 25) ≤ i1) → Q (.inl (some (iV ((-1))))) m) (k2 : ¬ ((m.1 r0 25) ≤ i1) → Q (.inl (some (iV (m.1 p1 (i1).toNat)))) m) (h4 : ¬ ((m.1 r0 25) ≤ i1) → 0 ≤ i1 := by intros; first | omega | (dsimp only at *; omega)) (h5 : ¬ ((m.1 r0 25) ≤ i1) → i1 < (n_p1 : Int) := by intros; first | omega | (dsimp only at *; omega)) : X G dp a b M9_byteAt 0 [some (rV (some r0)), some (iV (i1))] [] m Q := by
  refine X_iload_n dX9_byteAt_0 rfl rfl ?_
  refine X_aload_n dX9_byteAt_1 rfl rfl ?_
  refine X_getI dX9_byteAt_2 fl_9_327 (by decide) h1 ?_
  refine X_icmp_ge (tgt := 17) dX9_byteAt_5 (by decide) (fun c1 => ?_) (fun c1 => ?_)
  · refine Y_iconst dX9_byteAt_17 (by unfold i32; omega) ?_
    exact X_iret dX9_byteAt_18 rfl (k1 c1)
  · refine X_aload_n dX9_byteAt_8 rfl rfl ?_
    refine X_getP dX9_byteAt_9 fl_9_62 rfl h1 ?_
    refine am_ptr h2 ?_
    refine X_iload_n dX9_byteAt_12 rfl rfl ?_
    refine X_iald dX9_byteAt_13 h3 (h4 c1) (h5 c1) ?_
    refine X_goto (tgt := 18) dX9_byteAt_14 (by decide) ?_
    exact X_iret dX9_byteAt_18 rfl (k2 c1)

theorem s9_isSmall_0 {G : am_G} {dp a b : Nat} {m : am_M} {Q : am_Q} {i0 : Int}  (k1 : (i0 < 97) → Q (.inl (some (iV (0)))) m) (k2 : ¬ (i0 < 97) → (122 < i0) → Q (.inl (some (iV (0)))) m) (k3 : ¬ (i0 < 97) → ¬ (122 < i0) → Q (.inl (some (iV (1)))) m)  : X G dp a b M9_isSmall 0 [some (iV (i0))] [] m Q := by
  refine X_iload_n dX9_isSmall_0 rfl rfl ?_
  refine Y_bipush dX9_isSmall_1 (by omega) ?_
  refine X_icmp_lt (tgt := 16) dX9_isSmall_3 (by decide) (fun c1 => ?_) (fun c1 => ?_)
  · refine Y_iconst dX9_isSmall_16 (by unfold i32; omega) ?_
    exact X_zret dX9_isSmall_17 rfl (by decide) (k1 c1)
  · refine X_iload_n dX9_isSmall_6 rfl rfl ?_
    refine Y_bipush dX9_isSmall_7 (by omega) ?_
    refine X_icmp_gt (tgt := 16) dX9_isSmall_9 (by decide) (fun c2 => ?_) (fun c2 => ?_)
    · refine Y_iconst dX9_isSmall_16 (by unfold i32; omega) ?_
      exact X_zret dX9_isSmall_17 rfl (by decide) (k2 c1 c2)
    · refine Y_iconst dX9_isSmall_12 (by unfold i32; omega) ?_
      refine X_goto (tgt := 17) dX9_isSmall_13 (by decide) ?_
      exact X_zret dX9_isSmall_17 rfl (by decide) (k3 c1 c2)

theorem s9_isFigure_0 {G : am_G} {dp a b : Nat} {m : am_M} {Q : am_Q} {i0 : Int}  (k1 : (i0 < 48) → Q (.inl (some (iV (0)))) m) (k2 : ¬ (i0 < 48) → (57 < i0) → Q (.inl (some (iV (0)))) m) (k3 : ¬ (i0 < 48) → ¬ (57 < i0) → Q (.inl (some (iV (1)))) m)  : X G dp a b M9_isFigure 0 [some (iV (i0))] [] m Q := by
  refine X_iload_n dX9_isFigure_0 rfl rfl ?_
  refine Y_bipush dX9_isFigure_1 (by omega) ?_
  refine X_icmp_lt (tgt := 16) dX9_isFigure_3 (by decide) (fun c1 => ?_) (fun c1 => ?_)
  · refine Y_iconst dX9_isFigure_16 (by unfold i32; omega) ?_
    exact X_zret dX9_isFigure_17 rfl (by decide) (k1 c1)
  · refine X_iload_n dX9_isFigure_6 rfl rfl ?_
    refine Y_bipush dX9_isFigure_7 (by omega) ?_
    refine X_icmp_gt (tgt := 16) dX9_isFigure_9 (by decide) (fun c2 => ?_) (fun c2 => ?_)
    · refine Y_iconst dX9_isFigure_16 (by unfold i32; omega) ?_
      exact X_zret dX9_isFigure_17 rfl (by decide) (k2 c1 c2)
    · refine Y_iconst dX9_isFigure_12 (by unfold i32; omega) ?_
      refine X_goto (tgt := 17) dX9_isFigure_13 (by decide) ?_
      exact X_zret dX9_isFigure_17 rfl (by decide) (k3 c1 c2)

theorem s9_step_0 {G : am_G} {dp a b : Nat} {m : am_M} {Q : am_Q} {r0 : Nat} {o1 : Option am_V} (hdp : 1 ≤ dp) (h1 : am_ob m r0 8) (k1 : ∀ Q' : am_Q, (∀ (z : Int) (m' : am_M), X G dp a b M9_step 8 [some (rV (some r0)), o1] [iV (z)] m' Q → Q' (.inl (some (iV (z)))) m') → T G (dp - 1) 0 0 M9_byteAt [rV (some r0), iV (m.1 r0 26)] m Q')  : X G dp a b M9_step 0 [some (rV (some r0)), o1] [] m Q := by
  refine X_aload_n dX9_step_0 rfl rfl ?_
  refine X_aload_n dX9_step_1 rfl rfl ?_
  refine X_getI dX9_step_2 fl_9_330 (by decide) h1 ?_
  exact X_callV (As := [iV (m.1 r0 26)]) (rest := []) (a' := 0) (b' := 0) dX9_step_5 t9_byteAt ml_9_333 h1 rfl rfl (Nat.le_of_ble_eq_true rfl) rfl hdp (Nat.zero_le _) (Nat.zero_le _) (k1 _ (fun z m' h => h))

theorem s9_step_8 {G : am_G} {dp a b : Nat} {m : am_M} {Q : am_Q} {i90 : Int} {r0 : Nat} {o1 : Option am_V} (hdp : 1 ≤ dp) (h2 : am_obw m r0 8) (k1 : (i90 = 32) → X G dp a b M9_step 0 [some (rV (some r0)), o1] [] ((u2 m.1 r0 26 (wr ((m.1 r0 26) + 1))), m.2.1, m.2.2) Q) (k2 : ¬ (i90 = 32) → ∀ Q' : am_Q, (∀ (z : Int) (m' : am_M), X G dp a b M9_step 21 [some (rV (some r0)), o1] [iV (z)] m' Q → Q' (.inl (some (iV (z)))) m') → T G (dp - 1) 0 0 M9_byteAt [rV (some r0), iV (m.1 r0 26)] m Q')  : X G dp a b M9_step 8 [some (rV (some r0)), o1] [iV (i90)] m Q := by
  refine Y_bipush dX9_step_8 (by omega) ?_
  refine X_icmp_eq (tgt := 26) dX9_step_10 (by decide) (fun c1 => ?_) (fun c1 => ?_)
  · refine X_aload_n dX9_step_26 rfl rfl ?_
    refine X_dup dX9_step_27 rfl ?_
    refine X_getI dX9_step_28 fl_9_330 (by decide) (am_ow h2) ?_
    refine Y_iconst dX9_step_31 (by unfold i32; omega) ?_
    refine X_iadd dX9_step_32  ?_
    refine X_putI dX9_step_33 fw_9_330 rfl h2 ?_
    refine X_goto (tgt := 0) dX9_step_36 (by decide) ?_
    exact (k1 c1)
  · refine X_aload_n dX9_step_13 rfl rfl ?_
    refine X_aload_n dX9_step_14 rfl rfl ?_
    refine X_getI dX9_step_15 fl_9_330 (by decide) (am_ow h2) ?_
    exact X_callV (As := [iV (m.1 r0 26)]) (rest := []) (a' := 0) (b' := 0) dX9_step_18 t9_byteAt ml_9_333 (am_ow h2) rfl rfl (Nat.le_of_ble_eq_true rfl) rfl hdp (Nat.zero_le _) (Nat.zero_le _) ((k2 c1) _ (fun z m' h => h))

theorem s9_step_21 {G : am_G} {dp a b : Nat} {m : am_M} {Q : am_Q} {i90 : Int} {r0 : Nat} {o1 : Option am_V} (hdp : 1 ≤ dp) (h2 : am_obw m r0 8) (k1 : ¬ (i90 = 10) → ∀ Q' : am_Q, (∀ (z : Int) (m' : am_M), X G dp a b M9_step 55 [some (rV (some r0)), o1] [iV (z)] m' Q → Q' (.inl (some (iV (z)))) m') → T G (dp - 1) 0 0 M9_byteAt [rV (some r0), iV ((u2 m.1 r0 28 (m.1 r0 26)) r0 26)] ((u2 m.1 r0 28 (m.1 r0 26)), m.2.1, m.2.2) Q') (k2 : (i90 = 10) → X G dp a b M9_step 0 [some (rV (some r0)), o1] [] ((u2 m.1 r0 26 (wr ((m.1 r0 26) + 1))), m.2.1, m.2.2) Q)  : X G dp a b M9_step 21 [some (rV (some r0)), o1] [iV (i90)] m Q := by
  refine Y_bipush dX9_step_21 (by omega) ?_
  refine X_icmp_ne (tgt := 39) dX9_step_23 (by decide) (fun c1 => ?_) (fun c1 => ?_)
  · refine X_aload_n dX9_step_39 rfl rfl ?_
    refine X_aload_n dX9_step_40 rfl rfl ?_
    refine X_getI dX9_step_41 fl_9_330 (by decide) (am_ow h2) ?_
    refine X_putI dX9_step_44 fw_9_336 rfl h2 ?_
    refine X_aload_n dX9_step_47 rfl rfl ?_
    refine X_aload_n dX9_step_48 rfl rfl ?_
    refine X_getI dX9_step_49 fl_9_330 (by decide) (am_ow h2) ?_
    exact X_callV (As := [iV ((u2 m.1 r0 28 (m.1 r0 26)) r0 26)]) (rest := []) (a' := 0) (b' := 0) dX9_step_52 t9_byteAt ml_9_333 (am_ow h2) rfl rfl (Nat.le_of_ble_eq_true rfl) rfl hdp (Nat.zero_le _) (Nat.zero_le _) ((k1 c1) _ (fun z m' h => h))
  · refine X_aload_n dX9_step_26 rfl rfl ?_
    refine X_dup dX9_step_27 rfl ?_
    refine X_getI dX9_step_28 fl_9_330 (by decide) (am_ow h2) ?_
    refine Y_iconst dX9_step_31 (by unfold i32; omega) ?_
    refine X_iadd dX9_step_32  ?_
    refine X_putI dX9_step_33 fw_9_330 rfl h2 ?_
    refine X_goto (tgt := 0) dX9_step_36 (by decide) ?_
    exact (k2 c1)

theorem s9_step_55 {G : am_G} {dp a b : Nat} {m : am_M} {Q : am_Q} {i90 : Int} {r0 : Nat} {o1 : Option am_V} (hdp : 1 ≤ dp) (h1 : am_obw m r0 8) (k1 : ¬ (i90 = (-1)) → ∀ Q' : am_Q, (∀ (z : Int) (m' : am_M), X G dp a b M9_step 73 [some (rV (some r0)), some (iV (i90))] [iV (z)] m' Q → Q' (.inl (some (iV (z)))) m') → T G (dp - 1) 0 0 M9_isSmall [iV (i90)] m Q') (k2 : (i90 = (-1)) → Q (.inl none) ((u2 (u2 m.1 r0 27 (0)) r0 29 ((u2 m.1 r0 27 (0)) r0 26)), m.2.1, m.2.2))  : X G dp a b M9_step 55 [some (rV (some r0)), o1] [iV (i90)] m Q := by
  refine X_istore_n dX9_step_55 rfl (Nat.le_of_ble_eq_true rfl) ?_
  refine X_iload_n dX9_step_56 rfl rfl ?_
  refine Y_iconst dX9_step_57 (by unfold i32; omega) ?_
  refine X_icmp_ne (tgt := 69) dX9_step_58 (by decide) (fun c1 => ?_) (fun c1 => ?_)
  · refine X_iload_n dX9_step_69 rfl rfl ?_
    exact X_callS (As := [iV (i90)]) (rest := []) (a' := 0) (b' := 0) dX9_step_70 t9_isSmall ml_9_341 rfl rfl (Nat.le_of_ble_eq_true rfl) rfl hdp (Nat.zero_le _) (Nat.zero_le _) ((k1 c1) _ (fun z m' h => h))
  · refine X_aload_n dX9_step_61 rfl rfl ?_
    refine Y_iconst dX9_step_62 (by unfold i32; omega) ?_
    refine X_putI dX9_step_63 fw_9_338 rfl h1 ?_
    refine X_goto (tgt := 168) dX9_step_66 (by decide) ?_
    refine X_aload_n dX9_step_168 rfl rfl ?_
    refine X_aload_n dX9_step_169 rfl rfl ?_
    refine X_getI dX9_step_170 fl_9_330 (by decide) (am_ow h1) ?_
    refine X_putI dX9_step_173 fw_9_347 rfl h1 ?_
    exact X_vret dX9_step_176 rfl (k2 c1)

theorem s9_step_73 {G : am_G} {dp a b : Nat} {m : am_M} {Q : am_Q} {i1 i90 : Int} {r0 : Nat} (hdp : 1 ≤ dp)  (k1 : (i90 = 0) → ∀ Q' : am_Q, (∀ (z : Int) (m' : am_M), X G dp a b M9_step 115 [some (rV (some r0)), some (iV (i1))] [iV (z)] m' Q → Q' (.inl (some (iV (z)))) m') → T G (dp - 1) 0 0 M9_isFigure [iV (i1)] m Q') (k2 : ¬ (i90 = 0) → X G dp a b M9_step 76 [some (rV (some r0)), some (iV (i1))] [] m Q)  : X G dp a b M9_step 73 [some (rV (some r0)), some (iV (i1))] [iV (i90)] m Q := by
  refine X_if_eq (tgt := 111) dX9_step_73 (by decide) (fun c1 => ?_) (fun c1 => ?_)
  · refine X_iload_n dX9_step_111 rfl rfl ?_
    exact X_callS (As := [iV (i1)]) (rest := []) (a' := 0) (b' := 0) dX9_step_112 t9_isFigure ml_9_344 rfl rfl (Nat.le_of_ble_eq_true rfl) rfl hdp (Nat.zero_le _) (Nat.zero_le _) ((k1 c1) _ (fun z m' h => h))
  · exact (k2 c1)

theorem s9_step_76 {G : am_G} {dp a b : Nat} {m : am_M} {Q : am_Q} {i1 : Int} {r0 : Nat} (hdp : 1 ≤ dp) (h1 : am_ob m r0 8) (k1 : ∀ Q' : am_Q, (∀ (z : Int) (m' : am_M), X G dp a b M9_step 84 [some (rV (some r0)), some (iV (i1))] [iV (z)] m' Q → Q' (.inl (some (iV (z)))) m') → T G (dp - 1) 0 0 M9_byteAt [rV (some r0), iV (m.1 r0 26)] m Q')  : X G dp a b M9_step 76 [some (rV (some r0)), some (iV (i1))] [] m Q := by
  refine X_aload_n dX9_step_76 rfl rfl ?_
  refine X_aload_n dX9_step_77 rfl rfl ?_
  refine X_getI dX9_step_78 fl_9_330 (by decide) h1 ?_
  exact X_callV (As := [iV (m.1 r0 26)]) (rest := []) (a' := 0) (b' := 0) dX9_step_81 t9_byteAt ml_9_333 h1 rfl rfl (Nat.le_of_ble_eq_true rfl) rfl hdp (Nat.zero_le _) (Nat.zero_le _) (k1 _ (fun z m' h => h))

theorem s9_step_84 {G : am_G} {dp a b : Nat} {m : am_M} {Q : am_Q} {i1 i90 : Int} {r0 : Nat} (hdp : 1 ≤ dp)  (k1 : ∀ Q' : am_Q, (∀ (z : Int) (m' : am_M), X G dp a b M9_step 87 [some (rV (some r0)), some (iV (i1))] [iV (z)] m' Q → Q' (.inl (some (iV (z)))) m') → T G (dp - 1) 0 0 M9_isSmall [iV (i90)] m Q')  : X G dp a b M9_step 84 [some (rV (some r0)), some (iV (i1))] [iV (i90)] m Q := by
  exact X_callS (As := [iV (i90)]) (rest := []) (a' := 0) (b' := 0) dX9_step_84 t9_isSmall ml_9_341 rfl rfl (Nat.le_of_ble_eq_true rfl) rfl hdp (Nat.zero_le _) (Nat.zero_le _) (k1 _ (fun z m' h => h))

theorem s9_step_87 {G : am_G} {dp a b : Nat} {m : am_M} {Q : am_Q} {i1 i90 : Int} {r0 : Nat} (h1 : am_obw m r0 8) (k1 : (i90 = 0) → Q (.inl none) ((u2 (u2 m.1 r0 27 (1)) r0 29 ((u2 m.1 r0 27 (1)) r0 26)), m.2.1, m.2.2)) (k2 : ¬ (i90 = 0) → X G dp a b M9_step 76 [some (rV (some r0)), some (iV (i1))] [] ((u2 m.1 r0 26 (wr ((m.1 r0 26) + 1))), m.2.1, m.2.2) Q)  : X G dp a b M9_step 87 [some (rV (some r0)), some (iV (i1))] [iV (i90)] m Q := by
  refine X_if_eq (tgt := 103) dX9_step_87 (by decide) (fun c1 => ?_) (fun c1 => ?_)
  · refine X_aload_n dX9_step_103 rfl rfl ?_
    refine Y_iconst dX9_step_104 (by unfold i32; omega) ?_
    refine X_putI dX9_step_105 fw_9_338 rfl h1 ?_
    refine X_goto (tgt := 168) dX9_step_108 (by decide) ?_
    refine X_aload_n dX9_step_168 rfl rfl ?_
    refine X_aload_n dX9_step_169 rfl rfl ?_
    refine X_getI dX9_step_170 fl_9_330 (by decide) (am_ow h1) ?_
    refine X_putI dX9_step_173 fw_9_347 rfl h1 ?_
    exact X_vret dX9_step_176 rfl (k1 c1)
  · refine X_aload_n dX9_step_90 rfl rfl ?_
    refine X_dup dX9_step_91 rfl ?_
    refine X_getI dX9_step_92 fl_9_330 (by decide) (am_ow h1) ?_
    refine Y_iconst dX9_step_95 (by unfold i32; omega) ?_
    refine X_iadd dX9_step_96  ?_
    refine X_putI dX9_step_97 fw_9_330 rfl h1 ?_
    refine X_goto (tgt := 76) dX9_step_100 (by decide) ?_
    exact (k2 c1)

theorem s9_step_115 {G : am_G} {dp a b : Nat} {m : am_M} {Q : am_Q} {i1 i90 : Int} {r0 : Nat} (h2 : am_obw m r0 8) (k1 : (i90 = 0) → Q (.inl none) ((u2 (u2 (u2 m.1 r0 26 (wr ((m.1 r0 26) + 1))) r0 27 (3)) r0 29 ((u2 (u2 m.1 r0 26 (wr ((m.1 r0 26) + 1))) r0 27 (3)) r0 26)), m.2.1, m.2.2)) (k2 : ¬ (i90 = 0) → X G dp a b M9_step 118 [some (rV (some r0)), some (iV (i1))] [] m Q)  : X G dp a b M9_step 115 [some (rV (some r0)), some (iV (i1))] [iV (i90)] m Q := by
  refine X_if_eq (tgt := 153) dX9_step_115 (by decide) (fun c1 => ?_) (fun c1 => ?_)
  · refine X_aload_n dX9_step_153 rfl rfl ?_
    refine X_dup dX9_step_154 rfl ?_
    refine X_getI dX9_step_155 fl_9_330 (by decide) (am_ow h2) ?_
    refine Y_iconst dX9_step_158 (by unfold i32; omega) ?_
    refine X_iadd dX9_step_159  ?_
    refine X_putI dX9_step_160 fw_9_330 rfl h2 ?_
    refine X_aload_n dX9_step_163 rfl rfl ?_
    refine Y_iconst dX9_step_164 (by unfold i32; omega) ?_
    refine X_putI dX9_step_165 fw_9_338 rfl h2 ?_
    refine X_aload_n dX9_step_168 rfl rfl ?_
    refine X_aload_n dX9_step_169 rfl rfl ?_
    refine X_getI dX9_step_170 fl_9_330 (by decide) (am_ow h2) ?_
    refine X_putI dX9_step_173 fw_9_347 rfl h2 ?_
    exact X_vret dX9_step_176 rfl (k1 c1)
  · exact (k2 c1)

theorem s9_step_118 {G : am_G} {dp a b : Nat} {m : am_M} {Q : am_Q} {i1 : Int} {r0 : Nat} (hdp : 1 ≤ dp) (h1 : am_ob m r0 8) (k1 : ∀ Q' : am_Q, (∀ (z : Int) (m' : am_M), X G dp a b M9_step 126 [some (rV (some r0)), some (iV (i1))] [iV (z)] m' Q → Q' (.inl (some (iV (z)))) m') → T G (dp - 1) 0 0 M9_byteAt [rV (some r0), iV (m.1 r0 26)] m Q')  : X G dp a b M9_step 118 [some (rV (some r0)), some (iV (i1))] [] m Q := by
  refine X_aload_n dX9_step_118 rfl rfl ?_
  refine X_aload_n dX9_step_119 rfl rfl ?_
  refine X_getI dX9_step_120 fl_9_330 (by decide) h1 ?_
  exact X_callV (As := [iV (m.1 r0 26)]) (rest := []) (a' := 0) (b' := 0) dX9_step_123 t9_byteAt ml_9_333 h1 rfl rfl (Nat.le_of_ble_eq_true rfl) rfl hdp (Nat.zero_le _) (Nat.zero_le _) (k1 _ (fun z m' h => h))

theorem s9_step_126 {G : am_G} {dp a b : Nat} {m : am_M} {Q : am_Q} {i1 i90 : Int} {r0 : Nat} (hdp : 1 ≤ dp)  (k1 : ∀ Q' : am_Q, (∀ (z : Int) (m' : am_M), X G dp a b M9_step 129 [some (rV (some r0)), some (iV (i1))] [iV (z)] m' Q → Q' (.inl (some (iV (z)))) m') → T G (dp - 1) 0 0 M9_isFigure [iV (i90)] m Q')  : X G dp a b M9_step 126 [some (rV (some r0)), some (iV (i1))] [iV (i90)] m Q := by
  exact X_callS (As := [iV (i90)]) (rest := []) (a' := 0) (b' := 0) dX9_step_126 t9_isFigure ml_9_344 rfl rfl (Nat.le_of_ble_eq_true rfl) rfl hdp (Nat.zero_le _) (Nat.zero_le _) (k1 _ (fun z m' h => h))

theorem s9_step_129 {G : am_G} {dp a b : Nat} {m : am_M} {Q : am_Q} {i1 i90 : Int} {r0 : Nat} (h1 : am_obw m r0 8) (k1 : (i90 = 0) → Q (.inl none) ((u2 (u2 m.1 r0 27 (2)) r0 29 ((u2 m.1 r0 27 (2)) r0 26)), m.2.1, m.2.2)) (k2 : ¬ (i90 = 0) → X G dp a b M9_step 118 [some (rV (some r0)), some (iV (i1))] [] ((u2 m.1 r0 26 (wr ((m.1 r0 26) + 1))), m.2.1, m.2.2) Q)  : X G dp a b M9_step 129 [some (rV (some r0)), some (iV (i1))] [iV (i90)] m Q := by
  refine X_if_eq (tgt := 145) dX9_step_129 (by decide) (fun c1 => ?_) (fun c1 => ?_)
  · refine X_aload_n dX9_step_145 rfl rfl ?_
    refine Y_iconst dX9_step_146 (by unfold i32; omega) ?_
    refine X_putI dX9_step_147 fw_9_338 rfl h1 ?_
    refine X_goto (tgt := 168) dX9_step_150 (by decide) ?_
    refine X_aload_n dX9_step_168 rfl rfl ?_
    refine X_aload_n dX9_step_169 rfl rfl ?_
    refine X_getI dX9_step_170 fl_9_330 (by decide) (am_ow h1) ?_
    refine X_putI dX9_step_173 fw_9_347 rfl h1 ?_
    exact X_vret dX9_step_176 rfl (k1 c1)
  · refine X_aload_n dX9_step_132 rfl rfl ?_
    refine X_dup dX9_step_133 rfl ?_
    refine X_getI dX9_step_134 fl_9_330 (by decide) (am_ow h1) ?_
    refine Y_iconst dX9_step_137 (by unfold i32; omega) ?_
    refine X_iadd dX9_step_138  ?_
    refine X_putI dX9_step_139 fw_9_330 rfl h1 ?_
    refine X_goto (tgt := 118) dX9_step_142 (by decide) ?_
    exact (k2 c1)

theorem s9_opens_0 {G : am_G} {dp a b : Nat} {m : am_M} {Q : am_Q} {i1 : Int} {r0 : Nat} (hdp : 1 ≤ dp) (h1 : am_obw m r0 8) (k1 : ∀ Q' : am_Q, (∀ (m' : am_M), X G dp a b M9_opens 24 [some (rV (some r0)), some (iV (i1))] [] m' Q → Q' (.inl none) m') → T G (dp - 1) 0 0 M9_step [rV (some r0)] ((u2 (u2 (u2 (u2 m.1 r0 25 (i1)) r0 26 (0)) r0 30 (0)) r0 33 (0)), m.2.1, m.2.2) Q')  : X G dp a b M9_opens 0 [some (rV (some r0)), some (iV (i1))] [] m Q := by
  refine X_aload_n dX9_opens_0 rfl rfl ?_
  refine X_iload_n dX9_opens_1 rfl rfl ?_
  refine X_putI dX9_opens_2 fw_9_327 rfl h1 ?_
  refine X_aload_n dX9_opens_5 rfl rfl ?_
  refine Y_iconst dX9_opens_6 (by unfold i32; omega) ?_
  refine X_putI dX9_opens_7 fw_9_330 rfl h1 ?_
  refine X_aload_n dX9_opens_10 rfl rfl ?_
  refine Y_iconst dX9_opens_11 (by unfold i32; omega) ?_
  refine X_putI dX9_opens_12 fw_9_350 rfl h1 ?_
  refine X_aload_n dX9_opens_15 rfl rfl ?_
  refine Y_iconst dX9_opens_16 (by unfold i32; omega) ?_
  refine X_putI dX9_opens_17 fw_9_353 rfl h1 ?_
  refine X_aload_n dX9_opens_20 rfl rfl ?_
  exact X_callV (As := []) (rest := []) (a' := 0) (b' := 0) dX9_opens_21 t9_step ml_9_356 (am_ow h1) rfl rfl (Nat.le_of_ble_eq_true rfl) rfl hdp (Nat.zero_le _) (Nat.zero_le _) (k1 _ (fun m' h => h))

theorem s9_opens_24 {G : am_G} {dp a b : Nat} {m : am_M} {Q : am_Q} {i1 : Int} {r0 : Nat}  (k1 : Q (.inl none) m)  : X G dp a b M9_opens 24 [some (rV (some r0)), some (iV (i1))] [] m Q := by
  exact X_vret dX9_opens_24 rfl k1

theorem s9_wrong_0 {G : am_G} {dp a b : Nat} {m : am_M} {Q : am_Q} {i1 : Int} {r0 : Nat} (h2 : am_obw m r0 8) (k1 : ((m.1 r0 30) = 0) → Q (.inl none) ((u2 (u2 m.1 r0 30 (i1)) r0 31 ((u2 m.1 r0 30 (i1)) r0 28)), m.2.1, m.2.2)) (k2 : ¬ ((m.1 r0 30) = 0) → Q (.inl none) m)  : X G dp a b M9_wrong 0 [some (rV (some r0)), some (iV (i1))] [] m Q := by
  refine X_aload_n dX9_wrong_0 rfl rfl ?_
  refine X_getI dX9_wrong_1 fl_9_350 (by decide) (am_ow h2) ?_
  refine X_if_eq (tgt := 8) dX9_wrong_4 (by decide) (fun c1 => ?_) (fun c1 => ?_)
  · refine X_aload_n dX9_wrong_8 rfl rfl ?_
    refine X_iload_n dX9_wrong_9 rfl rfl ?_
    refine X_putI dX9_wrong_10 fw_9_350 rfl h2 ?_
    refine X_aload_n dX9_wrong_13 rfl rfl ?_
    refine X_aload_n dX9_wrong_14 rfl rfl ?_
    refine X_getI dX9_wrong_15 fl_9_336 (by decide) (am_ow h2) ?_
    refine X_putI dX9_wrong_18 fw_9_359 rfl h2 ?_
    exact X_vret dX9_wrong_21 rfl (k1 c1)
  · exact X_vret dX9_wrong_7 rfl (k2 c1)

theorem s9_pass_0 {G : am_G} {dp a b : Nat} {m : am_M} {Q : am_Q} {r0 : Nat} (hdp : 1 ≤ dp) (h1 : am_ob m r0 8) (k1 : ¬ ((m.1 r0 30) = 0) → X G dp a b M9_pass 11 [some (rV (some r0))] [] m Q) (k2 : ((m.1 r0 30) = 0) → ∀ Q' : am_Q, (∀ (m' : am_M), X G dp a b M9_pass 11 [some (rV (some r0))] [] m' Q → Q' (.inl none) m') → T G (dp - 1) 0 0 M9_step [rV (some r0)] m Q')  : X G dp a b M9_pass 0 [some (rV (some r0))] [] m Q := by
  refine X_aload_n dX9_pass_0 rfl rfl ?_
  refine X_getI dX9_pass_1 fl_9_350 (by decide) h1 ?_
  refine X_if_ne (tgt := 11) dX9_pass_4 (by decide) (fun c1 => ?_) (fun c1 => ?_)
  · exact (k1 c1)
  · refine X_aload_n dX9_pass_7 rfl rfl ?_
    exact X_callV (As := []) (rest := []) (a' := 0) (b' := 0) dX9_pass_8 t9_step ml_9_356 h1 rfl rfl (Nat.le_of_ble_eq_true rfl) rfl hdp (Nat.zero_le _) (Nat.zero_le _) ((k2 c1) _ (fun m' h => h))

theorem s9_pass_11 {G : am_G} {dp a b : Nat} {m : am_M} {Q : am_Q} {r0 : Nat}  (k1 : Q (.inl none) m)  : X G dp a b M9_pass 11 [some (rV (some r0))] [] m Q := by
  exact X_vret dX9_pass_11 rfl k1

theorem s9_isSign_0 {G : am_G} {dp a b : Nat} {m : am_M} {Q : am_Q} {i1 : Int} {r0 p1 : Nat} {n_p1 : Nat} (h1 : am_ob m r0 8) (h2 : m.2.1 r0 23 = some p1) (h3 : am_ar m p1 100 n_p1) (k1 : ¬ ((m.1 r0 30) = 0) → Q (.inl (some (iV (0)))) m) (k2 : ((m.1 r0 30) = 0) → ¬ ((m.1 r0 27) = 3) → Q (.inl (some (iV (0)))) m) (k3 : ((m.1 r0 30) = 0) → ((m.1 r0 27) = 3) → ¬ ((m.1 p1 (m.1 r0 28).toNat) = i1) → Q (.inl (some (iV (0)))) m) (k4 : ((m.1 r0 30) = 0) → ((m.1 r0 27) = 3) → ((m.1 p1 (m.1 r0 28).toNat) = i1) → Q (.inl (some (iV (1)))) m) (h4 : (m.1 r0 30) = 0 → (m.1 r0 27) = 3 → 0 ≤ m.1 r0 28 := by intros; first | omega | (dsimp only at *; omega)) (h5 : (m.1 r0 30) = 0 → (m.1 r0 27) = 3 → m.1 r0 28 < (n_p1 : Int) := by intros; first | omega | (dsimp only at *; omega)) : X G dp a b M9_isSign 0 [some (rV (some r0)), some (iV (i1))] [] m Q := by
  refine X_aload_n dX9_isSign_0 rfl rfl ?_
  refine X_getI dX9_isSign_1 fl_9_350 (by decide) h1 ?_
  refine X_if_ne (tgt := 32) dX9_isSign_4 (by decide) (fun c1 => ?_) (fun c1 => ?_)
  · refine Y_iconst dX9_isSign_32 (by unfold i32; omega) ?_
    exact X_zret dX9_isSign_33 rfl (by decide) (k1 c1)
  · refine X_aload_n dX9_isSign_7 rfl rfl ?_
    refine X_getI dX9_isSign_8 fl_9_338 (by decide) h1 ?_
    refine Y_iconst dX9_isSign_11 (by unfold i32; omega) ?_
    refine X_icmp_ne (tgt := 32) dX9_isSign_12 (by decide) (fun c2 => ?_) (fun c2 => ?_)
    · refine Y_iconst dX9_isSign_32 (by unfold i32; omega) ?_
      exact X_zret dX9_isSign_33 rfl (by decide) (k2 c1 c2)
    · refine X_aload_n dX9_isSign_15 rfl rfl ?_
      refine X_getP dX9_isSign_16 fl_9_62 rfl h1 ?_
      refine am_ptr h2 ?_
      refine X_aload_n dX9_isSign_19 rfl rfl ?_
      refine X_getI dX9_isSign_20 fl_9_336 (by decide) h1 ?_
      refine X_iald dX9_isSign_23 h3 (h4 c1 c2) (h5 c1 c2) ?_
      refine X_iload_n dX9_isSign_24 rfl rfl ?_
      refine X_icmp_ne (tgt := 32) dX9_isSign_25 (by decide) (fun c3 => ?_) (fun c3 => ?_)
      · refine Y_iconst dX9_isSign_32 (by unfold i32; omega) ?_
        exact X_zret dX9_isSign_33 rfl (by decide) (k3 c1 c2 c3)
      · refine Y_iconst dX9_isSign_28 (by unfold i32; omega) ?_
        refine X_goto (tgt := 33) dX9_isSign_29 (by decide) ?_
        exact X_zret dX9_isSign_33 rfl (by decide) (k4 c1 c2 c3)

theorem s9_must_0 {G : am_G} {dp a b : Nat} {m : am_M} {Q : am_Q} {i1 : Int} {r0 : Nat} (hdp : 1 ≤ dp) (h1 : am_ob m r0 8) (k1 : ∀ Q' : am_Q, (∀ (z : Int) (m' : am_M), X G dp a b M9_must 5 [some (rV (some r0)), some (iV (i1))] [iV (z)] m' Q → Q' (.inl (some (iV (z)))) m') → T G (dp - 1) 0 0 M9_isSign [rV (some r0), iV (i1)] m Q')  : X G dp a b M9_must 0 [some (rV (some r0)), some (iV (i1))] [] m Q := by
  refine X_aload_n dX9_must_0 rfl rfl ?_
  refine X_iload_n dX9_must_1 rfl rfl ?_
  exact X_callV (As := [iV (i1)]) (rest := []) (a' := 0) (b' := 0) dX9_must_2 t9_isSign ml_9_371 h1 rfl rfl (Nat.le_of_ble_eq_true rfl) rfl hdp (Nat.zero_le _) (Nat.zero_le _) (k1 _ (fun z m' h => h))

theorem s9_must_5 {G : am_G} {dp a b : Nat} {m : am_M} {Q : am_Q} {i1 i90 : Int} {r0 : Nat} (hdp : 1 ≤ dp) (h1 : am_ob m r0 8) (k1 : ¬ (i90 = 0) → X G dp a b M9_must 13 [some (rV (some r0)), some (iV (i1))] [] m Q) (k2 : (i90 = 0) → ∀ Q' : am_Q, (∀ (m' : am_M), X G dp a b M9_must 13 [some (rV (some r0)), some (iV (i1))] [] m' Q → Q' (.inl none) m') → T G (dp - 1) 0 0 M9_wrong [rV (some r0), iV (1)] m Q')  : X G dp a b M9_must 5 [some (rV (some r0)), some (iV (i1))] [iV (i90)] m Q := by
  refine X_if_ne (tgt := 13) dX9_must_5 (by decide) (fun c1 => ?_) (fun c1 => ?_)
  · exact (k1 c1)
  · refine X_aload_n dX9_must_8 rfl rfl ?_
    refine Y_iconst dX9_must_9 (by unfold i32; omega) ?_
    exact X_callV (As := [iV (1)]) (rest := []) (a' := 0) (b' := 0) dX9_must_10 t9_wrong ml_9_374 h1 rfl rfl (Nat.le_of_ble_eq_true rfl) rfl hdp (Nat.zero_le _) (Nat.zero_le _) ((k2 c1) _ (fun m' h => h))

theorem s9_must_13 {G : am_G} {dp a b : Nat} {m : am_M} {Q : am_Q} {i1 : Int} {r0 : Nat} (hdp : 1 ≤ dp) (h1 : am_ob m r0 8) (k1 : ∀ Q' : am_Q, (∀ (m' : am_M), X G dp a b M9_must 17 [some (rV (some r0)), some (iV (i1))] [] m' Q → Q' (.inl none) m') → T G (dp - 1) 0 0 M9_pass [rV (some r0)] m Q')  : X G dp a b M9_must 13 [some (rV (some r0)), some (iV (i1))] [] m Q := by
  refine X_aload_n dX9_must_13 rfl rfl ?_
  exact X_callV (As := []) (rest := []) (a' := 0) (b' := 0) dX9_must_14 t9_pass ml_9_377 h1 rfl rfl (Nat.le_of_ble_eq_true rfl) rfl hdp (Nat.zero_le _) (Nat.zero_le _) (k1 _ (fun m' h => h))

theorem s9_must_17 {G : am_G} {dp a b : Nat} {m : am_M} {Q : am_Q} {i1 : Int} {r0 : Nat}  (k1 : Q (.inl none) m)  : X G dp a b M9_must 17 [some (rV (some r0)), some (iV (i1))] [] m Q := by
  exact X_vret dX9_must_17 rfl k1

theorem s9_numberHere_0 {G : am_G} {dp a b : Nat} {m : am_M} {Q : am_Q} {i1 i2 : Int} {r0 : Nat} {o3 o4 : Option am_V} (hdp : 1 ≤ dp) (h1 : am_ob m r0 8) (k1 : ¬ ((m.1 r0 30) = 0) → X G dp a b M9_numberHere 20 [some (rV (some r0)), some (iV (i1)), some (iV (i2)), o3, o4] [] m Q) (k2 : ((m.1 r0 30) = 0) → ((m.1 r0 27) = 2) → X G dp a b M9_numberHere 20 [some (rV (some r0)), some (iV (i1)), some (iV (i2)), o3, o4] [] m Q) (k3 : ((m.1 r0 30) = 0) → ¬ ((m.1 r0 27) = 2) → ∀ Q' : am_Q, (∀ (m' : am_M), X G dp a b M9_numberHere 20 [some (rV (some r0)), some (iV (i1)), some (iV (i2)), o3, o4] [] m' Q → Q' (.inl none) m') → T G (dp - 1) 0 0 M9_wrong [rV (some r0), iV (1)] m Q')  : X G dp a b M9_numberHere 0 [some (rV (some r0)), some (iV (i1)), some (iV (i2)), o3, o4] [] m Q := by
  refine X_aload_n dX9_numberHere_0 rfl rfl ?_
  refine X_getI dX9_numberHere_1 fl_9_350 (by decide) h1 ?_
  refine X_if_ne (tgt := 20) dX9_numberHere_4 (by decide) (fun c1 => ?_) (fun c1 => ?_)
  · exact (k1 c1)
  · refine X_aload_n dX9_numberHere_7 rfl rfl ?_
    refine X_getI dX9_numberHere_8 fl_9_338 (by decide) h1 ?_
    refine Y_iconst dX9_numberHere_11 (by unfold i32; omega) ?_
    refine X_icmp_eq (tgt := 20) dX9_numberHere_12 (by decide) (fun c2 => ?_) (fun c2 => ?_)
    · exact (k2 c1 c2)
    · refine X_aload_n dX9_numberHere_15 rfl rfl ?_
      refine Y_iconst dX9_numberHere_16 (by unfold i32; omega) ?_
      exact X_callV (As := [iV (1)]) (rest := []) (a' := 0) (b' := 0) dX9_numberHere_17 t9_wrong ml_9_374 h1 rfl rfl (Nat.le_of_ble_eq_true rfl) rfl hdp (Nat.zero_le _) (Nat.zero_le _) ((k3 c1 c2) _ (fun m' h => h))

theorem s9_numberHere_20 {G : am_G} {dp a b : Nat} {m : am_M} {Q : am_Q} {i1 i2 : Int} {r0 : Nat} {o3 o4 : Option am_V} (h1 : am_ob m r0 8) (k1 : X G dp a b M9_numberHere 28 [some (rV (some r0)), some (iV (i1)), some (iV (i2)), some (iV (0)), some (iV (m.1 r0 28))] [] m Q)  : X G dp a b M9_numberHere 20 [some (rV (some r0)), some (iV (i1)), some (iV (i2)), o3, o4] [] m Q := by
  refine Y_iconst dX9_numberHere_20 (by unfold i32; omega) ?_
  refine X_istore_n dX9_numberHere_21 rfl (Nat.le_of_ble_eq_true rfl) ?_
  refine X_aload_n dX9_numberHere_22 rfl rfl ?_
  refine X_getI dX9_numberHere_23 fl_9_336 (by decide) h1 ?_
  refine X_istore dX9_numberHere_26 (Nat.le_of_ble_eq_true rfl) ?_
  exact k1

theorem s9_numberHere_28 {G : am_G} {dp a b : Nat} {m : am_M} {Q : am_Q} {i1 i2 i3 i4 : Int} {r0 p1 : Nat} {n_p1 : Nat} (hdp : 1 ≤ dp) (h1 : am_ob m r0 8) (h2 : m.2.1 r0 23 = some p1) (h3 : am_ar m p1 100 n_p1) (k1 : ¬ ((m.1 r0 30) = 0) → ¬ ((m.1 r0 30) = 0) → X G dp a b M9_numberHere 93 [some (rV (some r0)), some (iV (i1)), some (iV (i2)), some (iV (i3)), some (iV (i4))] [] m Q) (k2 : ¬ ((m.1 r0 30) = 0) → ((m.1 r0 30) = 0) → ∀ Q' : am_Q, (∀ (z : Int) (m' : am_M), X G dp a b M9_numberHere 85 [some (rV (some r0)), some (iV (i1)), some (iV (i2)), some (iV (i3)), some (iV (i4))] [iV (z)] m' Q → Q' (.inl (some (iV (z)))) m') → T G (dp - 1) 0 0 M9_isIn [iV (i3), iV (i1), iV (i2)] m Q') (k3 : ((m.1 r0 30) = 0) → ((m.1 r0 29) ≤ i4) → ¬ ((m.1 r0 30) = 0) → X G dp a b M9_numberHere 93 [some (rV (some r0)), some (iV (i1)), some (iV (i2)), some (iV (i3)), some (iV (i4))] [] m Q) (k4 : ((m.1 r0 30) = 0) → ((m.1 r0 29) ≤ i4) → ((m.1 r0 30) = 0) → ∀ Q' : am_Q, (∀ (z : Int) (m' : am_M), X G dp a b M9_numberHere 85 [some (rV (some r0)), some (iV (i1)), some (iV (i2)), some (iV (i3)), some (iV (i4))] [iV (z)] m' Q → Q' (.inl (some (iV (z)))) m') → T G (dp - 1) 0 0 M9_isIn [iV (i3), iV (i1), iV (i2)] m Q') (k5 : ((m.1 r0 30) = 0) → ¬ ((m.1 r0 29) ≤ i4) → X G dp a b M9_numberHere 28 [some (rV (some r0)), some (iV (i1)), some (iV (i2)), some (iV (min 10000000 (wr ((wr ((wr (10 * i3)) + (m.1 p1 (i4).toNat))) - 48)))), some (iV (wr (i4 + 1)))] [] m Q) (h4 : (m.1 r0 30) = 0 → ¬ ((m.1 r0 29) ≤ i4) → 0 ≤ i4 := by intros; first | omega | (dsimp only at *; omega)) (h5 : (m.1 r0 30) = 0 → ¬ ((m.1 r0 29) ≤ i4) → i4 < (n_p1 : Int) := by intros; first | omega | (dsimp only at *; omega)) : X G dp a b M9_numberHere 28 [some (rV (some r0)), some (iV (i1)), some (iV (i2)), some (iV (i3)), some (iV (i4))] [] m Q := by
  refine X_aload_n dX9_numberHere_28 rfl rfl ?_
  refine X_getI dX9_numberHere_29 fl_9_350 (by decide) h1 ?_
  refine X_if_ne (tgt := 72) dX9_numberHere_32 (by decide) (fun c1 => ?_) (fun c1 => ?_)
  · refine X_aload_n dX9_numberHere_72 rfl rfl ?_
    refine X_getI dX9_numberHere_73 fl_9_350 (by decide) h1 ?_
    refine X_if_ne (tgt := 93) dX9_numberHere_76 (by decide) (fun c2 => ?_) (fun c2 => ?_)
    · exact (k1 c1 c2)
    · refine X_iload_n dX9_numberHere_79 rfl rfl ?_
      refine X_iload_n dX9_numberHere_80 rfl rfl ?_
      refine X_iload_n dX9_numberHere_81 rfl rfl ?_
      exact X_callS (As := [iV (i3), iV (i1), iV (i2)]) (rest := []) (a' := 0) (b' := 0) dX9_numberHere_82 t9_isIn ml_9_80 rfl rfl (Nat.le_of_ble_eq_true rfl) rfl hdp (Nat.zero_le _) (Nat.zero_le _) ((k2 c1 c2) _ (fun z m' h => h))
  · refine X_iload dX9_numberHere_35 rfl ?_
    refine X_aload_n dX9_numberHere_37 rfl rfl ?_
    refine X_getI dX9_numberHere_38 fl_9_347 (by decide) h1 ?_
    refine X_icmp_ge (tgt := 72) dX9_numberHere_41 (by decide) (fun c3 => ?_) (fun c3 => ?_)
    · refine X_aload_n dX9_numberHere_72 rfl rfl ?_
      refine X_getI dX9_numberHere_73 fl_9_350 (by decide) h1 ?_
      refine X_if_ne (tgt := 93) dX9_numberHere_76 (by decide) (fun c4 => ?_) (fun c4 => ?_)
      · exact (k3 c1 c3 c4)
      · refine X_iload_n dX9_numberHere_79 rfl rfl ?_
        refine X_iload_n dX9_numberHere_80 rfl rfl ?_
        refine X_iload_n dX9_numberHere_81 rfl rfl ?_
        exact X_callS (As := [iV (i3), iV (i1), iV (i2)]) (rest := []) (a' := 0) (b' := 0) dX9_numberHere_82 t9_isIn ml_9_80 rfl rfl (Nat.le_of_ble_eq_true rfl) rfl hdp (Nat.zero_le _) (Nat.zero_le _) ((k4 c1 c3 c4) _ (fun z m' h => h))
    · refine X_ldcwI dX9_numberHere_44 kc_9_380 (by unfold i32; omega) ?_
      refine Y_bipush dX9_numberHere_47 (by omega) ?_
      refine X_iload_n dX9_numberHere_49 rfl rfl ?_
      refine X_imul dX9_numberHere_50  ?_
      refine X_aload_n dX9_numberHere_51 rfl rfl ?_
      refine X_getP dX9_numberHere_52 fl_9_62 rfl h1 ?_
      refine am_ptr h2 ?_
      refine X_iload dX9_numberHere_55 rfl ?_
      refine X_iald dX9_numberHere_57 h3 (h4 c1 c3) (h5 c1 c3) ?_
      refine X_iadd dX9_numberHere_58  ?_
      refine Y_bipush dX9_numberHere_59 (by omega) ?_
      refine X_isub dX9_numberHere_61  ?_
      refine X_minI dX9_numberHere_62 ml_9_381 (Nat.le_of_ble_eq_true rfl) ?_
      refine X_istore_n dX9_numberHere_65 rfl (Nat.le_of_ble_eq_true rfl) ?_
      refine X_iinc dX9_numberHere_66 rfl ?_
      refine X_goto (tgt := 28) dX9_numberHere_69 (by decide) ?_
      exact (k5 c1 c3)

theorem s9_numberHere_85 {G : am_G} {dp a b : Nat} {m : am_M} {Q : am_Q} {i1 i2 i3 i4 i90 : Int} {r0 : Nat} (hdp : 1 ≤ dp) (h1 : am_ob m r0 8) (k1 : ¬ (i90 = 0) → X G dp a b M9_numberHere 93 [some (rV (some r0)), some (iV (i1)), some (iV (i2)), some (iV (i3)), some (iV (i4))] [] m Q) (k2 : (i90 = 0) → ∀ Q' : am_Q, (∀ (m' : am_M), X G dp a b M9_numberHere 93 [some (rV (some r0)), some (iV (i1)), some (iV (i2)), some (iV (i3)), some (iV (i4))] [] m' Q → Q' (.inl none) m') → T G (dp - 1) 0 0 M9_wrong [rV (some r0), iV (2)] m Q')  : X G dp a b M9_numberHere 85 [some (rV (some r0)), some (iV (i1)), some (iV (i2)), some (iV (i3)), some (iV (i4))] [iV (i90)] m Q := by
  refine X_if_ne (tgt := 93) dX9_numberHere_85 (by decide) (fun c1 => ?_) (fun c1 => ?_)
  · exact (k1 c1)
  · refine X_aload_n dX9_numberHere_88 rfl rfl ?_
    refine Y_iconst dX9_numberHere_89 (by unfold i32; omega) ?_
    exact X_callV (As := [iV (2)]) (rest := []) (a' := 0) (b' := 0) dX9_numberHere_90 t9_wrong ml_9_374 h1 rfl rfl (Nat.le_of_ble_eq_true rfl) rfl hdp (Nat.zero_le _) (Nat.zero_le _) ((k2 c1) _ (fun m' h => h))

theorem s9_numberHere_93 {G : am_G} {dp a b : Nat} {m : am_M} {Q : am_Q} {i1 i2 i3 i4 : Int} {r0 : Nat}  (k1 : Q (.inl (some (iV (i3)))) m)  : X G dp a b M9_numberHere 93 [some (rV (some r0)), some (iV (i1)), some (iV (i2)), some (iV (i3)), some (iV (i4))] [] m Q := by
  refine X_iload_n dX9_numberHere_93 rfl rfl ?_
  exact X_iret dX9_numberHere_94 rfl k1

theorem s9_number_0 {G : am_G} {dp a b : Nat} {m : am_M} {Q : am_Q} {i1 i2 : Int} {r0 : Nat} {o3 : Option am_V} (hdp : 1 ≤ dp) (h1 : am_ob m r0 8) (k1 : ∀ Q' : am_Q, (∀ (z : Int) (m' : am_M), X G dp a b M9_number 6 [some (rV (some r0)), some (iV (i1)), some (iV (i2)), o3] [iV (z)] m' Q → Q' (.inl (some (iV (z)))) m') → T G (dp - 1) 0 0 M9_numberHere [rV (some r0), iV (i1), iV (i2)] m Q')  : X G dp a b M9_number 0 [some (rV (some r0)), some (iV (i1)), some (iV (i2)), o3] [] m Q := by
  refine X_aload_n dX9_number_0 rfl rfl ?_
  refine X_iload_n dX9_number_1 rfl rfl ?_
  refine X_iload_n dX9_number_2 rfl rfl ?_
  exact X_callV (As := [iV (i1), iV (i2)]) (rest := []) (a' := 0) (b' := 0) dX9_number_3 t9_numberHere ml_9_384 h1 rfl rfl (Nat.le_of_ble_eq_true rfl) rfl hdp (Nat.zero_le _) (Nat.zero_le _) (k1 _ (fun z m' h => h))

theorem s9_number_6 {G : am_G} {dp a b : Nat} {m : am_M} {Q : am_Q} {i1 i2 i90 : Int} {r0 : Nat} {o3 : Option am_V} (hdp : 1 ≤ dp) (h1 : am_ob m r0 8) (k1 : ∀ Q' : am_Q, (∀ (m' : am_M), X G dp a b M9_number 11 [some (rV (some r0)), some (iV (i1)), some (iV (i2)), some (iV (i90))] [] m' Q → Q' (.inl none) m') → T G (dp - 1) 0 0 M9_pass [rV (some r0)] m Q')  : X G dp a b M9_number 6 [some (rV (some r0)), some (iV (i1)), some (iV (i2)), o3] [iV (i90)] m Q := by
  refine X_istore_n dX9_number_6 rfl (Nat.le_of_ble_eq_true rfl) ?_
  refine X_aload_n dX9_number_7 rfl rfl ?_
  exact X_callV (As := []) (rest := []) (a' := 0) (b' := 0) dX9_number_8 t9_pass ml_9_377 h1 rfl rfl (Nat.le_of_ble_eq_true rfl) rfl hdp (Nat.zero_le _) (Nat.zero_le _) (k1 _ (fun m' h => h))

theorem s9_number_11 {G : am_G} {dp a b : Nat} {m : am_M} {Q : am_Q} {i1 i2 i3 : Int} {r0 : Nat}  (k1 : Q (.inl (some (iV (i3)))) m)  : X G dp a b M9_number 11 [some (rV (some r0)), some (iV (i1)), some (iV (i2)), some (iV (i3))] [] m Q := by
  refine X_iload_n dX9_number_11 rfl rfl ?_
  exact X_iret dX9_number_12 rfl k1

theorem s9_ends_0 {G : am_G} {dp a b : Nat} {m : am_M} {Q : am_Q} {r0 : Nat} (h1 : am_obw m r0 8) (k1 : ¬ (((u2 m.1 r0 24 (0)) r0 30) = 0) → Q (.inl (some (iV ((u2 (u2 m.1 r0 24 (0)) r0 32 ((u2 m.1 r0 24 (0)) r0 31)) r0 30)))) ((u2 (u2 m.1 r0 24 (0)) r0 32 ((u2 m.1 r0 24 (0)) r0 31)), m.2.1, m.2.2)) (k2 : (((u2 m.1 r0 24 (0)) r0 30) = 0) → Q (.inl (some (iV ((u2 (u2 m.1 r0 24 (0)) r0 32 ((-1))) r0 30)))) ((u2 (u2 m.1 r0 24 (0)) r0 32 ((-1))), m.2.1, m.2.2))  : X G dp a b M9_ends 0 [some (rV (some r0))] [] m Q := by
  refine X_aload_n dX9_ends_0 rfl rfl ?_
  refine Y_iconst dX9_ends_1 (by unfold i32; omega) ?_
  refine X_putI dX9_ends_2 fw_9_237 rfl h1 ?_
  refine X_aload_n dX9_ends_5 rfl rfl ?_
  refine X_aload_n dX9_ends_6 rfl rfl ?_
  refine X_getI dX9_ends_7 fl_9_350 (by decide) (am_ow h1) ?_
  refine X_if_ne (tgt := 17) dX9_ends_10 (by decide) (fun c1 => ?_) (fun c1 => ?_)
  · refine X_aload_n dX9_ends_17 rfl rfl ?_
    refine X_getI dX9_ends_18 fl_9_359 (by decide) (am_ow h1) ?_
    refine X_putI dX9_ends_21 fw_9_65 rfl h1 ?_
    refine X_aload_n dX9_ends_24 rfl rfl ?_
    refine X_getI dX9_ends_25 fl_9_350 (by decide) (am_ow h1) ?_
    exact X_iret dX9_ends_28 rfl (k1 c1)
  · refine Y_iconst dX9_ends_13 (by unfold i32; omega) ?_
    refine X_goto (tgt := 21) dX9_ends_14 (by decide) ?_
    refine X_putI dX9_ends_21 fw_9_65 rfl h1 ?_
    refine X_aload_n dX9_ends_24 rfl rfl ?_
    refine X_getI dX9_ends_25 fl_9_350 (by decide) (am_ow h1) ?_
    exact X_iret dX9_ends_28 rfl (k2 c1)

theorem s9_readRace_0 {G : am_G} {dp a b : Nat} {m : am_M} {Q : am_Q} {r0 p1 : Nat} {o1 o2 : Option am_V} {n_p1 : Nat} (hdp : 1 ≤ dp) (h1 : am_ob m r0 8) (h2 : m.2.1 r0 1 = some p1) (h3 : am_ar m p1 100 n_p1) (k1 : ¬ ((m.1 p1 ((0 : Int)).toNat) = 3) → X G dp a b M9_readRace 15 [some (rV (some r0)), o1, o2] [] m Q) (k2 : ((m.1 p1 ((0 : Int)).toNat) = 3) → ∀ Q' : am_Q, (∀ (m' : am_M), X G dp a b M9_readRace 15 [some (rV (some r0)), o1, o2] [] m' Q → Q' (.inl none) m') → T G (dp - 1) 0 0 M9_wrong [rV (some r0), iV (3)] m Q') (h4 : 0 < (n_p1 : Int) := by intros; first | omega | (dsimp only at *; omega)) : X G dp a b M9_readRace 0 [some (rV (some r0)), o1, o2] [] m Q := by
  refine X_aload_n dX9_readRace_0 rfl rfl ?_
  refine X_getP dX9_readRace_1 fl_9_13 rfl h1 ?_
  refine am_ptr h2 ?_
  refine Y_iconst dX9_readRace_4 (by unfold i32; omega) ?_
  refine X_iald dX9_readRace_5 h3 (by decide) h4 ?_
  refine Y_iconst dX9_readRace_6 (by unfold i32; omega) ?_
  refine X_icmp_ne (tgt := 15) dX9_readRace_7 (by decide) (fun c1 => ?_) (fun c1 => ?_)
  · exact (k1 c1)
  · refine X_aload_n dX9_readRace_10 rfl rfl ?_
    refine Y_iconst dX9_readRace_11 (by unfold i32; omega) ?_
    exact X_callV (As := [iV (3)]) (rest := []) (a' := 0) (b' := 0) dX9_readRace_12 t9_wrong ml_9_374 h1 rfl rfl (Nat.le_of_ble_eq_true rfl) rfl hdp (Nat.zero_le _) (Nat.zero_le _) ((k2 c1) _ (fun m' h => h))

theorem s9_readRace_15 {G : am_G} {dp a b : Nat} {m : am_M} {Q : am_Q} {r0 : Nat} {o1 o2 : Option am_V} (hdp : 1 ≤ dp) (h1 : am_ob m r0 8) (k1 : ∀ Q' : am_Q, (∀ (m' : am_M), X G dp a b M9_readRace 19 [some (rV (some r0)), o1, o2] [] m' Q → Q' (.inl none) m') → T G (dp - 1) 0 0 M9_pass [rV (some r0)] m Q')  : X G dp a b M9_readRace 15 [some (rV (some r0)), o1, o2] [] m Q := by
  refine X_aload_n dX9_readRace_15 rfl rfl ?_
  exact X_callV (As := []) (rest := []) (a' := 0) (b' := 0) dX9_readRace_16 t9_pass ml_9_377 h1 rfl rfl (Nat.le_of_ble_eq_true rfl) rfl hdp (Nat.zero_le _) (Nat.zero_le _) (k1 _ (fun m' h => h))

theorem s9_readRace_19 {G : am_G} {dp a b : Nat} {m : am_M} {Q : am_Q} {r0 : Nat} {o1 o2 : Option am_V} (hdp : 1 ≤ dp) (h1 : am_ob m r0 8) (k1 : ∀ Q' : am_Q, (∀ (z : Int) (m' : am_M), X G dp a b M9_readRace 25 [some (rV (some r0)), o1, o2] [iV (z)] m' Q → Q' (.inl (some (iV (z)))) m') → T G (dp - 1) 0 0 M9_number [rV (some r0), iV (2), iV (4)] m Q')  : X G dp a b M9_readRace 19 [some (rV (some r0)), o1, o2] [] m Q := by
  refine X_aload_n dX9_readRace_19 rfl rfl ?_
  refine Y_iconst dX9_readRace_20 (by unfold i32; omega) ?_
  refine Y_iconst dX9_readRace_21 (by unfold i32; omega) ?_
  exact X_callV (As := [iV (2), iV (4)]) (rest := []) (a' := 0) (b' := 0) dX9_readRace_22 t9_number ml_9_387 h1 rfl rfl (Nat.le_of_ble_eq_true rfl) rfl hdp (Nat.zero_le _) (Nat.zero_le _) (k1 _ (fun z m' h => h))

theorem s9_readRace_25 {G : am_G} {dp a b : Nat} {m : am_M} {Q : am_Q} {i90 : Int} {r0 : Nat} {o1 o2 : Option am_V} (hdp : 1 ≤ dp) (h1 : am_ob m r0 8) (k1 : ∀ Q' : am_Q, (∀ (z : Int) (m' : am_M), X G dp a b M9_readRace 30 [some (rV (some r0)), some (iV (i90)), o2] [iV (z)] m' Q → Q' (.inl (some (iV (z)))) m') → T G (dp - 1) 0 0 M9_readWay [rV (some r0)] m Q')  : X G dp a b M9_readRace 25 [some (rV (some r0)), o1, o2] [iV (i90)] m Q := by
  refine X_istore_n dX9_readRace_25 rfl (Nat.le_of_ble_eq_true rfl) ?_
  refine X_aload_n dX9_readRace_26 rfl rfl ?_
  exact X_callV (As := []) (rest := []) (a' := 0) (b' := 0) dX9_readRace_27 t9_readWay ml_9_390 h1 rfl rfl (Nat.le_of_ble_eq_true rfl) rfl hdp (Nat.zero_le _) (Nat.zero_le _) (k1 _ (fun z m' h => h))

theorem s9_readRace_30 {G : am_G} {dp a b : Nat} {m : am_M} {Q : am_Q} {i1 i90 : Int} {r0 : Nat} {o2 : Option am_V} (hdp : 1 ≤ dp) (h1 : am_ob m r0 8) (k1 : ∀ Q' : am_Q, (∀ (m' : am_M), X G dp a b M9_readRace 37 [some (rV (some r0)), some (iV (i1)), some (iV (i90))] [] m' Q → Q' (.inl none) m') → T G (dp - 1) 0 0 M9_must [rV (some r0), iV (59)] m Q')  : X G dp a b M9_readRace 30 [some (rV (some r0)), some (iV (i1)), o2] [iV (i90)] m Q := by
  refine X_istore_n dX9_readRace_30 rfl (Nat.le_of_ble_eq_true rfl) ?_
  refine X_aload_n dX9_readRace_31 rfl rfl ?_
  refine Y_bipush dX9_readRace_32 (by omega) ?_
  exact X_callV (As := [iV (59)]) (rest := []) (a' := 0) (b' := 0) dX9_readRace_34 t9_must ml_9_393 h1 rfl rfl (Nat.le_of_ble_eq_true rfl) rfl hdp (Nat.zero_le _) (Nat.zero_le _) (k1 _ (fun m' h => h))

theorem s9_readRace_37 {G : am_G} {dp a b : Nat} {m : am_M} {Q : am_Q} {i1 i2 : Int} {r0 p1 : Nat} {n_p1 : Nat} (h1 : am_ob m r0 8) (h2 : m.2.1 r0 1 = some p1) (h5 : am_arw m p1 100 n_p1) (k1 : ((m.1 r0 30) = 0) → Q (.inl none) ((u2 (u2 (u2 m.1 p1 (wr (8 + (wr (2 * (m.1 p1 ((0 : Int)).toNat))))).toNat (i1)) p1 (wr ((wr (8 + (wr (2 * ((u2 m.1 p1 (wr (8 + (wr (2 * (m.1 p1 ((0 : Int)).toNat))))).toNat (i1)) p1 ((0 : Int)).toNat))))) + 1)).toNat (i2)) p1 ((0 : Int)).toNat (wr (((u2 (u2 m.1 p1 (wr (8 + (wr (2 * (m.1 p1 ((0 : Int)).toNat))))).toNat (i1)) p1 (wr ((wr (8 + (wr (2 * ((u2 m.1 p1 (wr (8 + (wr (2 * (m.1 p1 ((0 : Int)).toNat))))).toNat (i1)) p1 ((0 : Int)).toNat))))) + 1)).toNat (i2)) p1 ((0 : Int)).toNat) + 1))), m.2.1, m.2.2)) (k2 : ¬ ((m.1 r0 30) = 0) → Q (.inl none) m) (h4 : (m.1 r0 30) = 0 → 0 < (n_p1 : Int) := by intros; first | omega | (dsimp only at *; omega)) (h6 : (m.1 r0 30) = 0 → 0 ≤ wr (8 + (wr (2 * (m.1 p1 ((0 : Int)).toNat)))) := by intros; first | omega | (dsimp only at *; omega)) (h7 : (m.1 r0 30) = 0 → wr (8 + (wr (2 * (m.1 p1 ((0 : Int)).toNat)))) < (n_p1 : Int) := by intros; first | omega | (dsimp only at *; omega)) (h8 : (m.1 r0 30) = 0 → 0 ≤ wr ((wr (8 + (wr (2 * ((u2 m.1 p1 (wr (8 + (wr (2 * (m.1 p1 ((0 : Int)).toNat))))).toNat (i1)) p1 ((0 : Int)).toNat))))) + 1) := by intros; first | omega | (dsimp only at *; omega)) (h9 : (m.1 r0 30) = 0 → wr ((wr (8 + (wr (2 * ((u2 m.1 p1 (wr (8 + (wr (2 * (m.1 p1 ((0 : Int)).toNat))))).toNat (i1)) p1 ((0 : Int)).toNat))))) + 1) < (n_p1 : Int) := by intros; first | omega | (dsimp only at *; omega)) : X G dp a b M9_readRace 37 [some (rV (some r0)), some (iV (i1)), some (iV (i2))] [] m Q := by
  refine X_aload_n dX9_readRace_37 rfl rfl ?_
  refine X_getI dX9_readRace_38 fl_9_350 (by decide) h1 ?_
  refine X_if_eq (tgt := 45) dX9_readRace_41 (by decide) (fun c1 => ?_) (fun c1 => ?_)
  · refine X_aload_n dX9_readRace_45 rfl rfl ?_
    refine X_getP dX9_readRace_46 fl_9_13 rfl h1 ?_
    refine am_ptr h2 ?_
    refine Y_bipush dX9_readRace_49 (by omega) ?_
    refine Y_iconst dX9_readRace_51 (by unfold i32; omega) ?_
    refine X_aload_n dX9_readRace_52 rfl rfl ?_
    refine X_getP dX9_readRace_53 fl_9_13 rfl h1 ?_
    refine am_ptr h2 ?_
    refine Y_iconst dX9_readRace_56 (by unfold i32; omega) ?_
    refine X_iald dX9_readRace_57 (am_rw h5) (by decide) (h4 c1) ?_
    refine X_imul dX9_readRace_58  ?_
    refine X_iadd dX9_readRace_59  ?_
    refine X_iload_n dX9_readRace_60 rfl rfl ?_
    refine X_iast dX9_readRace_61 h5 (h6 c1) (h7 c1) ?_
    refine X_aload_n dX9_readRace_62 rfl rfl ?_
    refine X_getP dX9_readRace_63 fl_9_13 rfl h1 ?_
    refine am_ptr h2 ?_
    refine Y_bipush dX9_readRace_66 (by omega) ?_
    refine Y_iconst dX9_readRace_68 (by unfold i32; omega) ?_
    refine X_aload_n dX9_readRace_69 rfl rfl ?_
    refine X_getP dX9_readRace_70 fl_9_13 rfl h1 ?_
    refine am_ptr h2 ?_
    refine Y_iconst dX9_readRace_73 (by unfold i32; omega) ?_
    refine X_iald dX9_readRace_74 (am_rw h5) (by decide) (h4 c1) ?_
    refine X_imul dX9_readRace_75  ?_
    refine X_iadd dX9_readRace_76  ?_
    refine Y_iconst dX9_readRace_77 (by unfold i32; omega) ?_
    refine X_iadd dX9_readRace_78  ?_
    refine X_iload_n dX9_readRace_79 rfl rfl ?_
    refine X_iast dX9_readRace_80 h5 (h8 c1) (h9 c1) ?_
    refine X_aload_n dX9_readRace_81 rfl rfl ?_
    refine X_getP dX9_readRace_82 fl_9_13 rfl h1 ?_
    refine am_ptr h2 ?_
    refine Y_iconst dX9_readRace_85 (by unfold i32; omega) ?_
    refine X_dup2 dX9_readRace_86 rfl rfl ?_
    refine X_iald dX9_readRace_87 (am_rw h5) (by decide) (h4 c1) ?_
    refine Y_iconst dX9_readRace_88 (by unfold i32; omega) ?_
    refine X_iadd dX9_readRace_89  ?_
    refine X_iast dX9_readRace_90 h5 (by decide) (h4 c1) ?_
    exact X_vret dX9_readRace_91 rfl (k1 c1)
  · exact X_vret dX9_readRace_44 rfl (k2 c1)

theorem s9_readWay_0 {G : am_G} {dp a b : Nat} {m : am_M} {Q : am_Q} {r0 : Nat} {o1 : Option am_V} (hdp : 1 ≤ dp) (h1 : am_ob m r0 8) (k1 : ∀ Q' : am_Q, (∀ (z : Int) (m' : am_M), X G dp a b M9_readWay 7 [some (rV (some r0)), o1] [iV (z)] m' Q → Q' (.inl (some (iV (z)))) m') → T G (dp - 1) 0 0 M9_isWord [rV (some r0), sV (45)] m Q')  : X G dp a b M9_readWay 0 [some (rV (some r0)), o1] [] m Q := by
  refine X_aload_n dX9_readWay_0 rfl rfl ?_
  refine X_ldcSw (j := 45) (tx := "poll") dX9_readWay_1 rfl ?_
  exact X_callV (As := [sV (45)]) (rest := []) (a' := 0) (b' := 0) dX9_readWay_4 t9_isWord ml_9_398 h1 rfl rfl (Nat.le_of_ble_eq_true rfl) rfl hdp (Nat.zero_le _) (Nat.zero_le _) (k1 _ (fun z m' h => h))

theorem s9_readWay_7 {G : am_G} {dp a b : Nat} {m : am_M} {Q : am_Q} {i90 : Int} {r0 : Nat} {o1 : Option am_V} (hdp : 1 ≤ dp) (h1 : am_ob m r0 8) (k1 : (i90 = 0) → ∀ Q' : am_Q, (∀ (z : Int) (m' : am_M), X G dp a b M9_readWay 27 [some (rV (some r0)), some (iV (0))] [iV (z)] m' Q → Q' (.inl (some (iV (z)))) m') → T G (dp - 1) 0 0 M9_isWord [rV (some r0), sV (46)] m Q') (k2 : ¬ (i90 = 0) → X G dp a b M9_readWay 35 [some (rV (some r0)), some (iV (1))] [] m Q)  : X G dp a b M9_readWay 7 [some (rV (some r0)), o1] [iV (i90)] m Q := by
  refine X_if_eq (tgt := 14) dX9_readWay_7 (by decide) (fun c1 => ?_) (fun c1 => ?_)
  · refine Y_iconst dX9_readWay_14 (by unfold i32; omega) ?_
    refine X_istore_n dX9_readWay_15 rfl (Nat.le_of_ble_eq_true rfl) ?_
    refine X_iload_n dX9_readWay_16 rfl rfl ?_
    refine X_if_ne (tgt := 35) dX9_readWay_17 (by decide) (fun c => False.elim (by revert c; decide)) (fun _ => ?_)
    refine X_aload_n dX9_readWay_20 rfl rfl ?_
    refine X_ldcSw (j := 46) (tx := "compare") dX9_readWay_21 rfl ?_
    exact X_callV (As := [sV (46)]) (rest := []) (a' := 0) (b' := 0) dX9_readWay_24 t9_isWord ml_9_398 h1 rfl rfl (Nat.le_of_ble_eq_true rfl) rfl hdp (Nat.zero_le _) (Nat.zero_le _) ((k1 c1) _ (fun z m' h => h))
  · refine Y_iconst dX9_readWay_10 (by unfold i32; omega) ?_
    refine X_goto (tgt := 15) dX9_readWay_11 (by decide) ?_
    refine X_istore_n dX9_readWay_15 rfl (Nat.le_of_ble_eq_true rfl) ?_
    refine X_iload_n dX9_readWay_16 rfl rfl ?_
    refine X_if_ne (tgt := 35) dX9_readWay_17 (by decide) (fun _ => ?_) (fun c => False.elim (by revert c; decide))
    exact (k2 c1)

theorem s9_readWay_27 {G : am_G} {dp a b : Nat} {m : am_M} {Q : am_Q} {i1 i90 : Int} {r0 : Nat} (hdp : 1 ≤ dp) (h1 : am_ob m r0 8) (k1 : ¬ (i90 = 0) → X G dp a b M9_readWay 35 [some (rV (some r0)), some (iV (i1))] [] m Q) (k2 : (i90 = 0) → ∀ Q' : am_Q, (∀ (m' : am_M), X G dp a b M9_readWay 35 [some (rV (some r0)), some (iV (i1))] [] m' Q → Q' (.inl none) m') → T G (dp - 1) 0 0 M9_wrong [rV (some r0), iV (1)] m Q')  : X G dp a b M9_readWay 27 [some (rV (some r0)), some (iV (i1))] [iV (i90)] m Q := by
  refine X_if_ne (tgt := 35) dX9_readWay_27 (by decide) (fun c1 => ?_) (fun c1 => ?_)
  · exact (k1 c1)
  · refine X_aload_n dX9_readWay_30 rfl rfl ?_
    refine Y_iconst dX9_readWay_31 (by unfold i32; omega) ?_
    exact X_callV (As := [iV (1)]) (rest := []) (a' := 0) (b' := 0) dX9_readWay_32 t9_wrong ml_9_374 h1 rfl rfl (Nat.le_of_ble_eq_true rfl) rfl hdp (Nat.zero_le _) (Nat.zero_le _) ((k2 c1) _ (fun m' h => h))

theorem s9_readWay_35 {G : am_G} {dp a b : Nat} {m : am_M} {Q : am_Q} {i1 : Int} {r0 : Nat} (hdp : 1 ≤ dp) (h1 : am_ob m r0 8) (k1 : ∀ Q' : am_Q, (∀ (m' : am_M), X G dp a b M9_readWay 39 [some (rV (some r0)), some (iV (i1))] [] m' Q → Q' (.inl none) m') → T G (dp - 1) 0 0 M9_pass [rV (some r0)] m Q')  : X G dp a b M9_readWay 35 [some (rV (some r0)), some (iV (i1))] [] m Q := by
  refine X_aload_n dX9_readWay_35 rfl rfl ?_
  exact X_callV (As := []) (rest := []) (a' := 0) (b' := 0) dX9_readWay_36 t9_pass ml_9_377 h1 rfl rfl (Nat.le_of_ble_eq_true rfl) rfl hdp (Nat.zero_le _) (Nat.zero_le _) (k1 _ (fun m' h => h))

theorem s9_readWay_39 {G : am_G} {dp a b : Nat} {m : am_M} {Q : am_Q} {i1 : Int} {r0 : Nat}  (k1 : Q (.inl (some (iV (i1)))) m)  : X G dp a b M9_readWay 39 [some (rV (some r0)), some (iV (i1))] [] m Q := by
  refine X_iload_n dX9_readWay_39 rfl rfl ?_
  exact X_iret dX9_readWay_40 rfl k1

theorem s9_choice_0 {G : am_G} {dp a b : Nat} {m : am_M} {Q : am_Q} {i1 : Int} {r0 : Nat} {o2 : Option am_V} (hdp : 1 ≤ dp) (h1 : am_ob m r0 8) (k1 : ∀ Q' : am_Q, (∀ (z : Int) (m' : am_M), X G dp a b M9_choice 7 [some (rV (some r0)), some (iV (i1)), o2] [iV (z)] m' Q → Q' (.inl (some (iV (z)))) m') → T G (dp - 1) 0 0 M9_isWord [rV (some r0), sV (48)] m Q')  : X G dp a b M9_choice 0 [some (rV (some r0)), some (iV (i1)), o2] [] m Q := by
  refine X_aload_n dX9_choice_0 rfl rfl ?_
  refine X_ldcSw (j := 48) (tx := "blank") dX9_choice_1 rfl ?_
  exact X_callV (As := [sV (48)]) (rest := []) (a' := 0) (b' := 0) dX9_choice_4 t9_isWord ml_9_398 h1 rfl rfl (Nat.le_of_ble_eq_true rfl) rfl hdp (Nat.zero_le _) (Nat.zero_le _) (k1 _ (fun z m' h => h))

theorem s9_choice_7 {G : am_G} {dp a b : Nat} {m : am_M} {Q : am_Q} {i1 i90 : Int} {r0 : Nat} {o2 : Option am_V} (hdp : 1 ≤ dp) (h1 : am_ob m r0 8) (k1 : (i90 = 0) → ∀ Q' : am_Q, (∀ (z : Int) (m' : am_M), X G dp a b M9_choice 24 [some (rV (some r0)), some (iV (i1)), some (iV ((-2)))] [iV (z)] m' Q → Q' (.inl (some (iV (z)))) m') → T G (dp - 1) 0 0 M9_isWord [rV (some r0), sV (48)] m Q') (k2 : ¬ (i90 = 0) → ∀ Q' : am_Q, (∀ (z : Int) (m' : am_M), X G dp a b M9_choice 24 [some (rV (some r0)), some (iV (i1)), some (iV ((-1)))] [iV (z)] m' Q → Q' (.inl (some (iV (z)))) m') → T G (dp - 1) 0 0 M9_isWord [rV (some r0), sV (48)] m Q')  : X G dp a b M9_choice 7 [some (rV (some r0)), some (iV (i1)), o2] [iV (i90)] m Q := by
  refine X_if_eq (tgt := 14) dX9_choice_7 (by decide) (fun c1 => ?_) (fun c1 => ?_)
  · refine Y_bipush dX9_choice_14 (by omega) ?_
    refine X_istore_n dX9_choice_16 rfl (Nat.le_of_ble_eq_true rfl) ?_
    refine X_aload_n dX9_choice_17 rfl rfl ?_
    refine X_ldcSw (j := 48) (tx := "blank") dX9_choice_18 rfl ?_
    exact X_callV (As := [sV (48)]) (rest := []) (a' := 0) (b' := 0) dX9_choice_21 t9_isWord ml_9_398 h1 rfl rfl (Nat.le_of_ble_eq_true rfl) rfl hdp (Nat.zero_le _) (Nat.zero_le _) ((k1 c1) _ (fun z m' h => h))
  · refine Y_iconst dX9_choice_10 (by unfold i32; omega) ?_
    refine X_goto (tgt := 16) dX9_choice_11 (by decide) ?_
    refine X_istore_n dX9_choice_16 rfl (Nat.le_of_ble_eq_true rfl) ?_
    refine X_aload_n dX9_choice_17 rfl rfl ?_
    refine X_ldcSw (j := 48) (tx := "blank") dX9_choice_18 rfl ?_
    exact X_callV (As := [sV (48)]) (rest := []) (a' := 0) (b' := 0) dX9_choice_21 t9_isWord ml_9_398 h1 rfl rfl (Nat.le_of_ble_eq_true rfl) rfl hdp (Nat.zero_le _) (Nat.zero_le _) ((k2 c1) _ (fun z m' h => h))

theorem s9_choice_24 {G : am_G} {dp a b : Nat} {m : am_M} {Q : am_Q} {i1 i2 i90 : Int} {r0 : Nat} (hdp : 1 ≤ dp) (h1 : am_ob m r0 8) (k1 : ¬ (i90 = 0) → ∀ Q' : am_Q, (∀ (m' : am_M), X G dp a b M9_choice 41 [some (rV (some r0)), some (iV (i1)), some (iV (i2))] [] m' Q → Q' (.inl none) m') → T G (dp - 1) 0 0 M9_pass [rV (some r0)] m Q') (k2 : (i90 = 0) → ∀ Q' : am_Q, (∀ (z : Int) (m' : am_M), X G dp a b M9_choice 34 [some (rV (some r0)), some (iV (i1)), some (iV (i2))] [iV (z)] m' Q → Q' (.inl (some (iV (z)))) m') → T G (dp - 1) 0 0 M9_isWord [rV (some r0), sV (49)] m Q')  : X G dp a b M9_choice 24 [some (rV (some r0)), some (iV (i1)), some (iV (i2))] [iV (i90)] m Q := by
  refine X_if_ne (tgt := 37) dX9_choice_24 (by decide) (fun c1 => ?_) (fun c1 => ?_)
  · refine X_aload_n dX9_choice_37 rfl rfl ?_
    exact X_callV (As := []) (rest := []) (a' := 0) (b' := 0) dX9_choice_38 t9_pass ml_9_377 h1 rfl rfl (Nat.le_of_ble_eq_true rfl) rfl hdp (Nat.zero_le _) (Nat.zero_le _) ((k1 c1) _ (fun m' h => h))
  · refine X_aload_n dX9_choice_27 rfl rfl ?_
    refine X_ldcSw (j := 49) (tx := "off") dX9_choice_28 rfl ?_
    exact X_callV (As := [sV (49)]) (rest := []) (a' := 0) (b' := 0) dX9_choice_31 t9_isWord ml_9_398 h1 rfl rfl (Nat.le_of_ble_eq_true rfl) rfl hdp (Nat.zero_le _) (Nat.zero_le _) ((k2 c1) _ (fun z m' h => h))

theorem s9_choice_34 {G : am_G} {dp a b : Nat} {m : am_M} {Q : am_Q} {i1 i2 i90 : Int} {r0 p1 : Nat} {n_p1 : Nat} (hdp : 1 ≤ dp) (h1 : am_ob m r0 8) (h2 : m.2.1 r0 1 = some p1) (h3 : am_ar m p1 100 n_p1) (k1 : (i90 = 0) → ∀ Q' : am_Q, (∀ (z : Int) (m' : am_M), X G dp a b M9_choice 61 [some (rV (some r0)), some (iV (i1)), some (iV (i2))] [iV (z)] m' Q → Q' (.inl (some (iV (z)))) m') → T G (dp - 1) 0 0 M9_number [rV (some r0), iV (0), iV (wr ((m.1 p1 (wr (8 + (wr (2 * i1)))).toNat) - 1))] m Q') (k2 : ¬ (i90 = 0) → ∀ Q' : am_Q, (∀ (m' : am_M), X G dp a b M9_choice 41 [some (rV (some r0)), some (iV (i1)), some (iV (i2))] [] m' Q → Q' (.inl none) m') → T G (dp - 1) 0 0 M9_pass [rV (some r0)] m Q') (h4 : i90 = 0 → 0 ≤ wr (8 + (wr (2 * i1))) := by intros; first | omega | (dsimp only at *; omega)) (h5 : i90 = 0 → wr (8 + (wr (2 * i1))) < (n_p1 : Int) := by intros; first | omega | (dsimp only at *; omega)) : X G dp a b M9_choice 34 [some (rV (some r0)), some (iV (i1)), some (iV (i2))] [iV (i90)] m Q := by
  refine X_if_eq (tgt := 43) dX9_choice_34 (by decide) (fun c1 => ?_) (fun c1 => ?_)
  · refine X_aload_n dX9_choice_43 rfl rfl ?_
    refine Y_iconst dX9_choice_44 (by unfold i32; omega) ?_
    refine X_aload_n dX9_choice_45 rfl rfl ?_
    refine X_getP dX9_choice_46 fl_9_13 rfl h1 ?_
    refine am_ptr h2 ?_
    refine Y_bipush dX9_choice_49 (by omega) ?_
    refine Y_iconst dX9_choice_51 (by unfold i32; omega) ?_
    refine X_iload_n dX9_choice_52 rfl rfl ?_
    refine X_imul dX9_choice_53  ?_
    refine X_iadd dX9_choice_54  ?_
    refine X_iald dX9_choice_55 h3 (h4 c1) (h5 c1) ?_
    refine Y_iconst dX9_choice_56 (by unfold i32; omega) ?_
    refine X_isub dX9_choice_57  ?_
    exact X_callV (As := [iV (0), iV (wr ((m.1 p1 (wr (8 + (wr (2 * i1)))).toNat) - 1))]) (rest := []) (a' := 0) (b' := 0) dX9_choice_58 t9_number ml_9_387 h1 rfl rfl (Nat.le_of_ble_eq_true rfl) rfl hdp (Nat.zero_le _) (Nat.zero_le _) ((k1 c1) _ (fun z m' h => h))
  · refine X_aload_n dX9_choice_37 rfl rfl ?_
    exact X_callV (As := []) (rest := []) (a' := 0) (b' := 0) dX9_choice_38 t9_pass ml_9_377 h1 rfl rfl (Nat.le_of_ble_eq_true rfl) rfl hdp (Nat.zero_le _) (Nat.zero_le _) ((k2 c1) _ (fun m' h => h))

theorem s9_choice_41 {G : am_G} {dp a b : Nat} {m : am_M} {Q : am_Q} {i1 i2 : Int} {r0 : Nat}  (k1 : Q (.inl (some (iV (i2)))) m)  : X G dp a b M9_choice 41 [some (rV (some r0)), some (iV (i1)), some (iV (i2))] [] m Q := by
  refine X_iload_n dX9_choice_41 rfl rfl ?_
  exact X_iret dX9_choice_42 rfl k1

theorem s9_choice_61 {G : am_G} {dp a b : Nat} {m : am_M} {Q : am_Q} {i1 i2 i90 : Int} {r0 : Nat}  (k1 : Q (.inl (some (iV (i90)))) m)  : X G dp a b M9_choice 61 [some (rV (some r0)), some (iV (i1)), some (iV (i2))] [iV (i90)] m Q := by
  exact X_iret dX9_choice_61 rfl k1

theorem s9_readBallots_0 {G : am_G} {dp a b : Nat} {m : am_M} {Q : am_Q} {r0 : Nat} {o1 o2 o3 o4 : Option am_V} (hdp : 1 ≤ dp) (h1 : am_ob m r0 8) (k1 : ∀ Q' : am_Q, (∀ (m' : am_M), X G dp a b M9_readBallots 4 [some (rV (some r0)), o1, o2, o3, o4] [] m' Q → Q' (.inl none) m') → T G (dp - 1) 0 0 M9_pass [rV (some r0)] m Q')  : X G dp a b M9_readBallots 0 [some (rV (some r0)), o1, o2, o3, o4] [] m Q := by
  refine X_aload_n dX9_readBallots_0 rfl rfl ?_
  exact X_callV (As := []) (rest := []) (a' := 0) (b' := 0) dX9_readBallots_1 t9_pass ml_9_377 h1 rfl rfl (Nat.le_of_ble_eq_true rfl) rfl hdp (Nat.zero_le _) (Nat.zero_le _) (k1 _ (fun m' h => h))

theorem s9_readBallots_4 {G : am_G} {dp a b : Nat} {m : am_M} {Q : am_Q} {r0 : Nat} {o1 o2 o3 o4 : Option am_V} (hdp : 1 ≤ dp) (h1 : am_ob m r0 8) (k1 : ∀ Q' : am_Q, (∀ (z : Int) (m' : am_M), X G dp a b M9_readBallots 11 [some (rV (some r0)), o1, o2, o3, o4] [iV (z)] m' Q → Q' (.inl (some (iV (z)))) m') → T G (dp - 1) 0 0 M9_numberHere [rV (some r0), iV (1), iV (99)] m Q')  : X G dp a b M9_readBallots 4 [some (rV (some r0)), o1, o2, o3, o4] [] m Q := by
  refine X_aload_n dX9_readBallots_4 rfl rfl ?_
  refine Y_iconst dX9_readBallots_5 (by unfold i32; omega) ?_
  refine Y_bipush dX9_readBallots_6 (by omega) ?_
  exact X_callV (As := [iV (1), iV (99)]) (rest := []) (a' := 0) (b' := 0) dX9_readBallots_8 t9_numberHere ml_9_384 h1 rfl rfl (Nat.le_of_ble_eq_true rfl) rfl hdp (Nat.zero_le _) (Nat.zero_le _) (k1 _ (fun z m' h => h))

theorem s9_readBallots_11 {G : am_G} {dp a b : Nat} {m : am_M} {Q : am_Q} {i90 : Int} {r0 p1 : Nat} {o1 o2 o3 o4 : Option am_V} {n_p1 : Nat} (hdp : 1 ≤ dp) (h1 : am_ob m r0 8) (h2 : m.2.1 r0 1 = some p1) (h3 : am_ar m p1 100 n_p1) (k1 : ¬ ((m.1 r0 30) = 0) → X G dp a b M9_readBallots 38 [some (rV (some r0)), some (iV (i90)), o2, o3, o4] [] m Q) (k2 : ((m.1 r0 30) = 0) → ((wr ((m.1 p1 ((1 : Int)).toNat) + i90)) ≤ 200) → X G dp a b M9_readBallots 38 [some (rV (some r0)), some (iV (i90)), o2, o3, o4] [] m Q) (k3 : ((m.1 r0 30) = 0) → ¬ ((wr ((m.1 p1 ((1 : Int)).toNat) + i90)) ≤ 200) → ∀ Q' : am_Q, (∀ (m' : am_M), X G dp a b M9_readBallots 38 [some (rV (some r0)), some (iV (i90)), o2, o3, o4] [] m' Q → Q' (.inl none) m') → T G (dp - 1) 0 0 M9_wrong [rV (some r0), iV (3)] m Q') (h4 : (m.1 r0 30) = 0 → 1 < (n_p1 : Int) := by intros; first | omega | (dsimp only at *; omega)) : X G dp a b M9_readBallots 11 [some (rV (some r0)), o1, o2, o3, o4] [iV (i90)] m Q := by
  refine X_istore_n dX9_readBallots_11 rfl (Nat.le_of_ble_eq_true rfl) ?_
  refine X_aload_n dX9_readBallots_12 rfl rfl ?_
  refine X_getI dX9_readBallots_13 fl_9_350 (by decide) h1 ?_
  refine X_if_ne (tgt := 38) dX9_readBallots_16 (by decide) (fun c1 => ?_) (fun c1 => ?_)
  · exact (k1 c1)
  · refine X_aload_n dX9_readBallots_19 rfl rfl ?_
    refine X_getP dX9_readBallots_20 fl_9_13 rfl h1 ?_
    refine am_ptr h2 ?_
    refine Y_iconst dX9_readBallots_23 (by unfold i32; omega) ?_
    refine X_iald dX9_readBallots_24 h3 (by decide) (h4 c1) ?_
    refine X_iload_n dX9_readBallots_25 rfl rfl ?_
    refine X_iadd dX9_readBallots_26  ?_
    refine Y_sipush dX9_readBallots_27 (by omega) ?_
    refine X_icmp_le (tgt := 38) dX9_readBallots_30 (by decide) (fun c2 => ?_) (fun c2 => ?_)
    · exact (k2 c1 c2)
    · refine X_aload_n dX9_readBallots_33 rfl rfl ?_
      refine Y_iconst dX9_readBallots_34 (by unfold i32; omega) ?_
      exact X_callV (As := [iV (3)]) (rest := []) (a' := 0) (b' := 0) dX9_readBallots_35 t9_wrong ml_9_374 h1 rfl rfl (Nat.le_of_ble_eq_true rfl) rfl hdp (Nat.zero_le _) (Nat.zero_le _) ((k3 c1 c2) _ (fun m' h => h))

theorem s9_readBallots_38 {G : am_G} {dp a b : Nat} {m : am_M} {Q : am_Q} {i1 : Int} {r0 : Nat} {o2 o3 o4 : Option am_V} (hdp : 1 ≤ dp) (h1 : am_ob m r0 8) (k1 : ∀ Q' : am_Q, (∀ (m' : am_M), X G dp a b M9_readBallots 42 [some (rV (some r0)), some (iV (i1)), o2, o3, o4] [] m' Q → Q' (.inl none) m') → T G (dp - 1) 0 0 M9_pass [rV (some r0)] m Q')  : X G dp a b M9_readBallots 38 [some (rV (some r0)), some (iV (i1)), o2, o3, o4] [] m Q := by
  refine X_aload_n dX9_readBallots_38 rfl rfl ?_
  exact X_callV (As := []) (rest := []) (a' := 0) (b' := 0) dX9_readBallots_39 t9_pass ml_9_377 h1 rfl rfl (Nat.le_of_ble_eq_true rfl) rfl hdp (Nat.zero_le _) (Nat.zero_le _) (k1 _ (fun m' h => h))

theorem s9_readBallots_42 {G : am_G} {dp a b : Nat} {m : am_M} {Q : am_Q} {i1 : Int} {r0 : Nat} {o2 o3 o4 : Option am_V}  (k1 : X G dp a b M9_readBallots 44 [some (rV (some r0)), some (iV (i1)), some (iV (0)), o3, o4] [] m Q)  : X G dp a b M9_readBallots 42 [some (rV (some r0)), some (iV (i1)), o2, o3, o4] [] m Q := by
  refine Y_iconst dX9_readBallots_42 (by unfold i32; omega) ?_
  refine X_istore_n dX9_readBallots_43 rfl (Nat.le_of_ble_eq_true rfl) ?_
  exact k1

theorem s9_readBallots_44 {G : am_G} {dp a b : Nat} {m : am_M} {Q : am_Q} {i1 i2 : Int} {r0 p1 : Nat} {o3 o4 : Option am_V} {n_p1 : Nat} (hdp : 1 ≤ dp) (h1 : am_ob m r0 8) (h2 : m.2.1 r0 1 = some p1) (h3 : am_ar m p1 100 n_p1) (k1 : ((m.1 p1 ((0 : Int)).toNat) ≤ i2) → ∀ Q' : am_Q, (∀ (m' : am_M), X G dp a b M9_readBallots 135 [some (rV (some r0)), some (iV (i1)), some (iV (i2)), o3, o4] [] m' Q → Q' (.inl none) m') → T G (dp - 1) 0 0 M9_must [rV (some r0), iV (59)] m Q') (k2 : ¬ ((m.1 p1 ((0 : Int)).toNat) ≤ i2) → ∀ Q' : am_Q, (∀ (z : Int) (m' : am_M), X G dp a b M9_readBallots 59 [some (rV (some r0)), some (iV (i1)), some (iV (i2)), o3, o4] [iV (z)] m' Q → Q' (.inl (some (iV (z)))) m') → T G (dp - 1) 0 0 M9_choice [rV (some r0), iV (i2)] m Q') (h4 : 0 < (n_p1 : Int) := by intros; first | omega | (dsimp only at *; omega)) : X G dp a b M9_readBallots 44 [some (rV (some r0)), some (iV (i1)), some (iV (i2)), o3, o4] [] m Q := by
  refine X_iload_n dX9_readBallots_44 rfl rfl ?_
  refine X_aload_n dX9_readBallots_45 rfl rfl ?_
  refine X_getP dX9_readBallots_46 fl_9_13 rfl h1 ?_
  refine am_ptr h2 ?_
  refine Y_iconst dX9_readBallots_49 (by unfold i32; omega) ?_
  refine X_iald dX9_readBallots_50 h3 (by decide) h4 ?_
  refine X_icmp_ge (tgt := 129) dX9_readBallots_51 (by decide) (fun c1 => ?_) (fun c1 => ?_)
  · refine X_aload_n dX9_readBallots_129 rfl rfl ?_
    refine Y_bipush dX9_readBallots_130 (by omega) ?_
    exact X_callV (As := [iV (59)]) (rest := []) (a' := 0) (b' := 0) dX9_readBallots_132 t9_must ml_9_393 h1 rfl rfl (Nat.le_of_ble_eq_true rfl) rfl hdp (Nat.zero_le _) (Nat.zero_le _) ((k1 c1) _ (fun m' h => h))
  · refine X_aload_n dX9_readBallots_54 rfl rfl ?_
    refine X_iload_n dX9_readBallots_55 rfl rfl ?_
    exact X_callV (As := [iV (i2)]) (rest := []) (a' := 0) (b' := 0) dX9_readBallots_56 t9_choice ml_9_408 h1 rfl rfl (Nat.le_of_ble_eq_true rfl) rfl hdp (Nat.zero_le _) (Nat.zero_le _) ((k2 c1) _ (fun z m' h => h))

theorem s9_readBallots_59 {G : am_G} {dp a b : Nat} {m : am_M} {Q : am_Q} {i1 i2 i90 : Int} {r0 p1 : Nat} {o3 o4 : Option am_V} {n_p1 : Nat} (h1 : am_ob m r0 8) (h2 : m.2.1 r0 1 = some p1) (h3 : am_ar m p1 100 n_p1) (k1 : X G dp a b M9_readBallots 68 [some (rV (some r0)), some (iV (i1)), some (iV (i2)), some (iV (i90)), some (iV (m.1 p1 ((1 : Int)).toNat))] [] m Q) (h4 : 1 < (n_p1 : Int) := by intros; first | omega | (dsimp only at *; omega)) : X G dp a b M9_readBallots 59 [some (rV (some r0)), some (iV (i1)), some (iV (i2)), o3, o4] [iV (i90)] m Q := by
  refine X_istore_n dX9_readBallots_59 rfl (Nat.le_of_ble_eq_true rfl) ?_
  refine X_aload_n dX9_readBallots_60 rfl rfl ?_
  refine X_getP dX9_readBallots_61 fl_9_13 rfl h1 ?_
  refine am_ptr h2 ?_
  refine Y_iconst dX9_readBallots_64 (by unfold i32; omega) ?_
  refine X_iald dX9_readBallots_65 h3 (by decide) h4 ?_
  refine X_istore dX9_readBallots_66 (Nat.le_of_ble_eq_true rfl) ?_
  exact k1

theorem s9_readBallots_68 {G : am_G} {dp a b : Nat} {m : am_M} {Q : am_Q} {i1 i2 i3 i4 : Int} {r0 p1 : Nat} {n_p1 : Nat} (hdp : 1 ≤ dp) (h1 : am_ob m r0 8) (h2 : m.2.1 r0 1 = some p1) (h3 : am_ar m p1 100 n_p1) (k1 : ((wr ((m.1 p1 ((1 : Int)).toNat) + i1)) ≤ i4) → X G dp a b M9_readBallots 44 [some (rV (some r0)), some (iV (i1)), some (iV (wr (i2 + 1))), some (iV (i3)), some (iV (i4))] [] m Q) (k2 : ¬ ((wr ((m.1 p1 ((1 : Int)).toNat) + i1)) ≤ i4) → ¬ ((m.1 r0 30) = 0) → X G dp a b M9_readBallots 44 [some (rV (some r0)), some (iV (i1)), some (iV (wr (i2 + 1))), some (iV (i3)), some (iV (i4))] [] m Q) (k3 : ¬ ((wr ((m.1 p1 ((1 : Int)).toNat) + i1)) ≤ i4) → ((m.1 r0 30) = 0) → ∀ Q' : am_Q, (∀ (z : Int) (m' : am_M), X G dp a b M9_readBallots 100 [some (rV (some r0)), some (iV (i1)), some (iV (i2)), some (iV (i3)), some (iV (i4))] [iV (z), rV (some p1)] m' Q → Q' (.inl (some (iV (z)))) m') → T G (dp - 1) 0 0 M9_at [iV (14), iV (i4), iV (i2)] m Q') (h4 : 1 < (n_p1 : Int) := by intros; first | omega | (dsimp only at *; omega)) : X G dp a b M9_readBallots 68 [some (rV (some r0)), some (iV (i1)), some (iV (i2)), some (iV (i3)), some (iV (i4))] [] m Q := by
  refine X_iload dX9_readBallots_68 rfl ?_
  refine X_aload_n dX9_readBallots_70 rfl rfl ?_
  refine X_getP dX9_readBallots_71 fl_9_13 rfl h1 ?_
  refine am_ptr h2 ?_
  refine Y_iconst dX9_readBallots_74 (by unfold i32; omega) ?_
  refine X_iald dX9_readBallots_75 h3 (by decide) h4 ?_
  refine X_iload_n dX9_readBallots_76 rfl rfl ?_
  refine X_iadd dX9_readBallots_77  ?_
  refine X_icmp_ge (tgt := 123) dX9_readBallots_78 (by decide) (fun c1 => ?_) (fun c1 => ?_)
  · refine X_iinc dX9_readBallots_123 rfl ?_
    refine X_goto (tgt := 44) dX9_readBallots_126 (by decide) ?_
    exact (k1 c1)
  · refine X_aload_n dX9_readBallots_81 rfl rfl ?_
    refine X_getI dX9_readBallots_82 fl_9_350 (by decide) h1 ?_
    refine X_if_ne (tgt := 123) dX9_readBallots_85 (by decide) (fun c2 => ?_) (fun c2 => ?_)
    · refine X_iinc dX9_readBallots_123 rfl ?_
      refine X_goto (tgt := 44) dX9_readBallots_126 (by decide) ?_
      exact (k2 c1 c2)
    · refine X_aload_n dX9_readBallots_88 rfl rfl ?_
      refine X_getP dX9_readBallots_89 fl_9_13 rfl h1 ?_
      refine am_ptr h2 ?_
      refine Y_bipush dX9_readBallots_92 (by omega) ?_
      refine X_iload dX9_readBallots_94 rfl ?_
      refine X_iload_n dX9_readBallots_96 rfl rfl ?_
      exact X_callS (As := [iV (14), iV (i4), iV (i2)]) (rest := [rV (some p1)]) (a' := 0) (b' := 0) dX9_readBallots_97 t9_at ml_9_91 rfl rfl (Nat.le_of_ble_eq_true rfl) rfl hdp (Nat.zero_le _) (Nat.zero_le _) ((k3 c1 c2) _ (fun z m' h => h))

theorem s9_readBallots_100 {G : am_G} {dp a b : Nat} {m : am_M} {Q : am_Q} {i1 i2 i3 i4 i90 : Int} {r0 r91 p1 : Nat} {n_r91 : Nat} (hdp : 1 ≤ dp) (h1 : am_arw m r91 100 n_r91) (h4 : am_ob m r0 8) (h5 : m.2.1 r0 1 = some p1) (k1 : ∀ Q' : am_Q, (∀ (z : Int) (m' : am_M), X G dp a b M9_readBallots 115 [some (rV (some r0)), some (iV (i1)), some (iV (i2)), some (iV (i3)), some (iV (i4))] [iV (z), rV (some p1)] m' Q → Q' (.inl (some (iV (z)))) m') → T G (dp - 1) 0 0 M9_at [iV (614), iV (i4), iV (i2)] ((u2 m.1 r91 (i90).toNat (i3)), m.2.1, m.2.2) Q') (h2 : 0 ≤ i90 := by intros; first | omega | (dsimp only at *; omega)) (h3 : i90 < (n_r91 : Int) := by intros; first | omega | (dsimp only at *; omega)) : X G dp a b M9_readBallots 100 [some (rV (some r0)), some (iV (i1)), some (iV (i2)), some (iV (i3)), some (iV (i4))] [iV (i90), rV (some r91)] m Q := by
  refine X_iload_n dX9_readBallots_100 rfl rfl ?_
  refine X_iast dX9_readBallots_101 h1 h2 h3 ?_
  refine X_aload_n dX9_readBallots_102 rfl rfl ?_
  refine X_getP dX9_readBallots_103 fl_9_13 rfl h4 ?_
  refine am_ptr h5 ?_
  refine Y_sipush dX9_readBallots_106 (by omega) ?_
  refine X_iload dX9_readBallots_109 rfl ?_
  refine X_iload_n dX9_readBallots_111 rfl rfl ?_
  exact X_callS (As := [iV (614), iV (i4), iV (i2)]) (rest := [rV (some p1)]) (a' := 0) (b' := 0) dX9_readBallots_112 t9_at ml_9_91 rfl rfl (Nat.le_of_ble_eq_true rfl) rfl hdp (Nat.zero_le _) (Nat.zero_le _) (k1 _ (fun z m' h => h))

theorem s9_readBallots_115 {G : am_G} {dp a b : Nat} {m : am_M} {Q : am_Q} {i1 i2 i3 i4 i90 : Int} {r0 r91 : Nat} {n_r91 : Nat} (h1 : am_arw m r91 100 n_r91) (k1 : X G dp a b M9_readBallots 68 [some (rV (some r0)), some (iV (i1)), some (iV (i2)), some (iV (i3)), some (iV (wr (i4 + 1)))] [] ((u2 m.1 r91 (i90).toNat (i3)), m.2.1, m.2.2) Q) (h2 : 0 ≤ i90 := by intros; first | omega | (dsimp only at *; omega)) (h3 : i90 < (n_r91 : Int) := by intros; first | omega | (dsimp only at *; omega)) : X G dp a b M9_readBallots 115 [some (rV (some r0)), some (iV (i1)), some (iV (i2)), some (iV (i3)), some (iV (i4))] [iV (i90), rV (some r91)] m Q := by
  refine X_iload_n dX9_readBallots_115 rfl rfl ?_
  refine X_iast dX9_readBallots_116 h1 h2 h3 ?_
  refine X_iinc dX9_readBallots_117 rfl ?_
  refine X_goto (tgt := 68) dX9_readBallots_120 (by decide) ?_
  exact k1

theorem s9_readBallots_135 {G : am_G} {dp a b : Nat} {m : am_M} {Q : am_Q} {i1 i2 : Int} {r0 p1 : Nat} {o3 o4 : Option am_V} {n_p1 : Nat} (h1 : am_ob m r0 8) (h2 : m.2.1 r0 1 = some p1) (h5 : am_arw m p1 100 n_p1) (k1 : ¬ ((m.1 r0 30) = 0) → Q (.inl none) ((u2 m.1 p1 ((1 : Int)).toNat (wr ((m.1 p1 ((1 : Int)).toNat) + 0))), m.2.1, m.2.2)) (k2 : ((m.1 r0 30) = 0) → Q (.inl none) ((u2 m.1 p1 ((1 : Int)).toNat (wr ((m.1 p1 ((1 : Int)).toNat) + i1))), m.2.1, m.2.2)) (h4 : 1 < (n_p1 : Int) := by intros; first | omega | (dsimp only at *; omega)) : X G dp a b M9_readBallots 135 [some (rV (some r0)), some (iV (i1)), some (iV (i2)), o3, o4] [] m Q := by
  refine X_aload_n dX9_readBallots_135 rfl rfl ?_
  refine X_getP dX9_readBallots_136 fl_9_13 rfl h1 ?_
  refine am_ptr h2 ?_
  refine Y_iconst dX9_readBallots_139 (by unfold i32; omega) ?_
  refine X_dup2 dX9_readBallots_140 rfl rfl ?_
  refine X_iald dX9_readBallots_141 (am_rw h5) (by decide) h4 ?_
  refine X_aload_n dX9_readBallots_142 rfl rfl ?_
  refine X_getI dX9_readBallots_143 fl_9_350 (by decide) h1 ?_
  refine X_if_ne (tgt := 153) dX9_readBallots_146 (by decide) (fun c1 => ?_) (fun c1 => ?_)
  · refine Y_iconst dX9_readBallots_153 (by unfold i32; omega) ?_
    refine X_iadd dX9_readBallots_154  ?_
    refine X_iast dX9_readBallots_155 h5 (by decide) h4 ?_
    exact X_vret dX9_readBallots_156 rfl (k1 c1)
  · refine X_iload_n dX9_readBallots_149 rfl rfl ?_
    refine X_goto (tgt := 154) dX9_readBallots_150 (by decide) ?_
    refine X_iadd dX9_readBallots_154  ?_
    refine X_iast dX9_readBallots_155 h5 (by decide) h4 ?_
    exact X_vret dX9_readBallots_156 rfl (k2 c1)

theorem s9_readPaper_0 {G : am_G} {dp a b : Nat} {m : am_M} {Q : am_Q} {r0 : Nat} {o1 o2 o3 : Option am_V} (hdp : 1 ≤ dp) (h1 : am_ob m r0 8) (k1 : ∀ Q' : am_Q, (∀ (m' : am_M), X G dp a b M9_readPaper 4 [some (rV (some r0)), o1, o2, o3] [] m' Q → Q' (.inl none) m') → T G (dp - 1) 0 0 M9_pass [rV (some r0)] m Q')  : X G dp a b M9_readPaper 0 [some (rV (some r0)), o1, o2, o3] [] m Q := by
  refine X_aload_n dX9_readPaper_0 rfl rfl ?_
  exact X_callV (As := []) (rest := []) (a' := 0) (b' := 0) dX9_readPaper_1 t9_pass ml_9_377 h1 rfl rfl (Nat.le_of_ble_eq_true rfl) rfl hdp (Nat.zero_le _) (Nat.zero_le _) (k1 _ (fun m' h => h))

theorem s9_readPaper_4 {G : am_G} {dp a b : Nat} {m : am_M} {Q : am_Q} {r0 p1 : Nat} {o1 o2 o3 : Option am_V} {n_p1 : Nat} (hdp : 1 ≤ dp) (h1 : am_ob m r0 8) (h2 : m.2.1 r0 1 = some p1) (h3 : am_ar m p1 100 n_p1) (k1 : ∀ Q' : am_Q, (∀ (z : Int) (m' : am_M), X G dp a b M9_readPaper 17 [some (rV (some r0)), o1, o2, o3] [iV (z)] m' Q → Q' (.inl (some (iV (z)))) m') → T G (dp - 1) 0 0 M9_number [rV (some r0), iV (0), iV (wr ((m.1 p1 ((1 : Int)).toNat) - 1))] m Q') (h4 : 1 < (n_p1 : Int) := by intros; first | omega | (dsimp only at *; omega)) : X G dp a b M9_readPaper 4 [some (rV (some r0)), o1, o2, o3] [] m Q := by
  refine X_aload_n dX9_readPaper_4 rfl rfl ?_
  refine Y_iconst dX9_readPaper_5 (by unfold i32; omega) ?_
  refine X_aload_n dX9_readPaper_6 rfl rfl ?_
  refine X_getP dX9_readPaper_7 fl_9_13 rfl h1 ?_
  refine am_ptr h2 ?_
  refine Y_iconst dX9_readPaper_10 (by unfold i32; omega) ?_
  refine X_iald dX9_readPaper_11 h3 (by decide) h4 ?_
  refine Y_iconst dX9_readPaper_12 (by unfold i32; omega) ?_
  refine X_isub dX9_readPaper_13  ?_
  exact X_callV (As := [iV (0), iV (wr ((m.1 p1 ((1 : Int)).toNat) - 1))]) (rest := []) (a' := 0) (b' := 0) dX9_readPaper_14 t9_number ml_9_387 h1 rfl rfl (Nat.le_of_ble_eq_true rfl) rfl hdp (Nat.zero_le _) (Nat.zero_le _) (k1 _ (fun z m' h => h))

theorem s9_readPaper_17 {G : am_G} {dp a b : Nat} {m : am_M} {Q : am_Q} {i90 : Int} {r0 p1 : Nat} {o1 o2 o3 : Option am_V} {n_p1 : Nat} (hdp : 1 ≤ dp) (h1 : am_ob m r0 8) (h2 : m.2.1 r0 1 = some p1) (h3 : am_ar m p1 100 n_p1) (k1 : ∀ Q' : am_Q, (∀ (z : Int) (m' : am_M), X G dp a b M9_readPaper 31 [some (rV (some r0)), some (iV (i90)), o2, o3] [iV (z)] m' Q → Q' (.inl (some (iV (z)))) m') → T G (dp - 1) 0 0 M9_number [rV (some r0), iV (0), iV (wr ((m.1 p1 ((0 : Int)).toNat) - 1))] m Q') (h4 : 0 < (n_p1 : Int) := by intros; first | omega | (dsimp only at *; omega)) : X G dp a b M9_readPaper 17 [some (rV (some r0)), o1, o2, o3] [iV (i90)] m Q := by
  refine X_istore_n dX9_readPaper_17 rfl (Nat.le_of_ble_eq_true rfl) ?_
  refine X_aload_n dX9_readPaper_18 rfl rfl ?_
  refine Y_iconst dX9_readPaper_19 (by unfold i32; omega) ?_
  refine X_aload_n dX9_readPaper_20 rfl rfl ?_
  refine X_getP dX9_readPaper_21 fl_9_13 rfl h1 ?_
  refine am_ptr h2 ?_
  refine Y_iconst dX9_readPaper_24 (by unfold i32; omega) ?_
  refine X_iald dX9_readPaper_25 h3 (by decide) h4 ?_
  refine Y_iconst dX9_readPaper_26 (by unfold i32; omega) ?_
  refine X_isub dX9_readPaper_27  ?_
  exact X_callV (As := [iV (0), iV (wr ((m.1 p1 ((0 : Int)).toNat) - 1))]) (rest := []) (a' := 0) (b' := 0) dX9_readPaper_28 t9_number ml_9_387 h1 rfl rfl (Nat.le_of_ble_eq_true rfl) rfl hdp (Nat.zero_le _) (Nat.zero_le _) (k1 _ (fun z m' h => h))

theorem s9_readPaper_31 {G : am_G} {dp a b : Nat} {m : am_M} {Q : am_Q} {i1 i90 : Int} {r0 p1 : Nat} {o2 o3 : Option am_V} (hdp : 1 ≤ dp) (h1 : am_ob m r0 8) (h2 : m.2.1 r0 1 = some p1) (k1 : ¬ ((m.1 r0 30) = 0) → ¬ ((m.1 r0 30) = 0) → ∀ Q' : am_Q, (∀ (m' : am_M), X G dp a b M9_readPaper 76 [some (rV (some r0)), some (iV (i1)), some (iV (i90)), some (iV (0))] [] m' Q → Q' (.inl none) m') → T G (dp - 1) 0 0 M9_must [rV (some r0), iV (59)] m Q') (k2 : ¬ ((m.1 r0 30) = 0) → ((m.1 r0 30) = 0) → ∀ Q' : am_Q, (∀ (z : Int) (m' : am_M), X G dp a b M9_readPaper 68 [some (rV (some r0)), some (iV (i1)), some (iV (i90)), some (iV (0))] [iV (z), rV (some p1)] m' Q → Q' (.inl (some (iV (z)))) m') → T G (dp - 1) 0 0 M9_at [iV (614), iV (i1), iV (i90)] m Q') (k3 : ((m.1 r0 30) = 0) → ∀ Q' : am_Q, (∀ (z : Int) (m' : am_M), X G dp a b M9_readPaper 44 [some (rV (some r0)), some (iV (i1)), some (iV (i90)), o3] [iV (z)] m' Q → Q' (.inl (some (iV (z)))) m') → T G (dp - 1) 0 0 M9_choice [rV (some r0), iV (i90)] m Q')  : X G dp a b M9_readPaper 31 [some (rV (some r0)), some (iV (i1)), o2, o3] [iV (i90)] m Q := by
  refine X_istore_n dX9_readPaper_31 rfl (Nat.le_of_ble_eq_true rfl) ?_
  refine X_aload_n dX9_readPaper_32 rfl rfl ?_
  refine X_getI dX9_readPaper_33 fl_9_350 (by decide) h1 ?_
  refine X_if_ne (tgt := 47) dX9_readPaper_36 (by decide) (fun c1 => ?_) (fun c1 => ?_)
  · refine Y_iconst dX9_readPaper_47 (by unfold i32; omega) ?_
    refine X_istore_n dX9_readPaper_48 rfl (Nat.le_of_ble_eq_true rfl) ?_
    refine X_aload_n dX9_readPaper_49 rfl rfl ?_
    refine X_getI dX9_readPaper_50 fl_9_350 (by decide) h1 ?_
    refine X_if_ne (tgt := 70) dX9_readPaper_53 (by decide) (fun c2 => ?_) (fun c2 => ?_)
    · refine X_aload_n dX9_readPaper_70 rfl rfl ?_
      refine Y_bipush dX9_readPaper_71 (by omega) ?_
      exact X_callV (As := [iV (59)]) (rest := []) (a' := 0) (b' := 0) dX9_readPaper_73 t9_must ml_9_393 h1 rfl rfl (Nat.le_of_ble_eq_true rfl) rfl hdp (Nat.zero_le _) (Nat.zero_le _) ((k1 c1 c2) _ (fun m' h => h))
    · refine X_aload_n dX9_readPaper_56 rfl rfl ?_
      refine X_getP dX9_readPaper_57 fl_9_13 rfl h1 ?_
      refine am_ptr h2 ?_
      refine Y_sipush dX9_readPaper_60 (by omega) ?_
      refine X_iload_n dX9_readPaper_63 rfl rfl ?_
      refine X_iload_n dX9_readPaper_64 rfl rfl ?_
      exact X_callS (As := [iV (614), iV (i1), iV (i90)]) (rest := [rV (some p1)]) (a' := 0) (b' := 0) dX9_readPaper_65 t9_at ml_9_91 rfl rfl (Nat.le_of_ble_eq_true rfl) rfl hdp (Nat.zero_le _) (Nat.zero_le _) ((k2 c1 c2) _ (fun z m' h => h))
  · refine X_aload_n dX9_readPaper_39 rfl rfl ?_
    refine X_iload_n dX9_readPaper_40 rfl rfl ?_
    exact X_callV (As := [iV (i90)]) (rest := []) (a' := 0) (b' := 0) dX9_readPaper_41 t9_choice ml_9_408 h1 rfl rfl (Nat.le_of_ble_eq_true rfl) rfl hdp (Nat.zero_le _) (Nat.zero_le _) ((k3 c1) _ (fun z m' h => h))

theorem s9_readPaper_44 {G : am_G} {dp a b : Nat} {m : am_M} {Q : am_Q} {i1 i2 i90 : Int} {r0 p1 : Nat} {o3 : Option am_V} (hdp : 1 ≤ dp) (h1 : am_ob m r0 8) (h2 : m.2.1 r0 1 = some p1) (k1 : ¬ ((m.1 r0 30) = 0) → ∀ Q' : am_Q, (∀ (m' : am_M), X G dp a b M9_readPaper 76 [some (rV (some r0)), some (iV (i1)), some (iV (i2)), some (iV (i90))] [] m' Q → Q' (.inl none) m') → T G (dp - 1) 0 0 M9_must [rV (some r0), iV (59)] m Q') (k2 : ((m.1 r0 30) = 0) → ∀ Q' : am_Q, (∀ (z : Int) (m' : am_M), X G dp a b M9_readPaper 68 [some (rV (some r0)), some (iV (i1)), some (iV (i2)), some (iV (i90))] [iV (z), rV (some p1)] m' Q → Q' (.inl (some (iV (z)))) m') → T G (dp - 1) 0 0 M9_at [iV (614), iV (i1), iV (i2)] m Q')  : X G dp a b M9_readPaper 44 [some (rV (some r0)), some (iV (i1)), some (iV (i2)), o3] [iV (i90)] m Q := by
  refine X_goto (tgt := 48) dX9_readPaper_44 (by decide) ?_
  refine X_istore_n dX9_readPaper_48 rfl (Nat.le_of_ble_eq_true rfl) ?_
  refine X_aload_n dX9_readPaper_49 rfl rfl ?_
  refine X_getI dX9_readPaper_50 fl_9_350 (by decide) h1 ?_
  refine X_if_ne (tgt := 70) dX9_readPaper_53 (by decide) (fun c1 => ?_) (fun c1 => ?_)
  · refine X_aload_n dX9_readPaper_70 rfl rfl ?_
    refine Y_bipush dX9_readPaper_71 (by omega) ?_
    exact X_callV (As := [iV (59)]) (rest := []) (a' := 0) (b' := 0) dX9_readPaper_73 t9_must ml_9_393 h1 rfl rfl (Nat.le_of_ble_eq_true rfl) rfl hdp (Nat.zero_le _) (Nat.zero_le _) ((k1 c1) _ (fun m' h => h))
  · refine X_aload_n dX9_readPaper_56 rfl rfl ?_
    refine X_getP dX9_readPaper_57 fl_9_13 rfl h1 ?_
    refine am_ptr h2 ?_
    refine Y_sipush dX9_readPaper_60 (by omega) ?_
    refine X_iload_n dX9_readPaper_63 rfl rfl ?_
    refine X_iload_n dX9_readPaper_64 rfl rfl ?_
    exact X_callS (As := [iV (614), iV (i1), iV (i2)]) (rest := [rV (some p1)]) (a' := 0) (b' := 0) dX9_readPaper_65 t9_at ml_9_91 rfl rfl (Nat.le_of_ble_eq_true rfl) rfl hdp (Nat.zero_le _) (Nat.zero_le _) ((k2 c1) _ (fun z m' h => h))

theorem s9_readPaper_68 {G : am_G} {dp a b : Nat} {m : am_M} {Q : am_Q} {i1 i2 i3 i90 : Int} {r0 r91 : Nat} {n_r91 : Nat} (hdp : 1 ≤ dp) (h1 : am_arw m r91 100 n_r91) (h4 : am_ob m r0 8) (k1 : ∀ Q' : am_Q, (∀ (m' : am_M), X G dp a b M9_readPaper 76 [some (rV (some r0)), some (iV (i1)), some (iV (i2)), some (iV (i3))] [] m' Q → Q' (.inl none) m') → T G (dp - 1) 0 0 M9_must [rV (some r0), iV (59)] ((u2 m.1 r91 (i90).toNat (i3)), m.2.1, m.2.2) Q') (h2 : 0 ≤ i90 := by intros; first | omega | (dsimp only at *; omega)) (h3 : i90 < (n_r91 : Int) := by intros; first | omega | (dsimp only at *; omega)) : X G dp a b M9_readPaper 68 [some (rV (some r0)), some (iV (i1)), some (iV (i2)), some (iV (i3))] [iV (i90), rV (some r91)] m Q := by
  refine X_iload_n dX9_readPaper_68 rfl rfl ?_
  refine X_iast dX9_readPaper_69 h1 h2 h3 ?_
  refine X_aload_n dX9_readPaper_70 rfl rfl ?_
  refine Y_bipush dX9_readPaper_71 (by omega) ?_
  exact X_callV (As := [iV (59)]) (rest := []) (a' := 0) (b' := 0) dX9_readPaper_73 t9_must ml_9_393 h4 rfl rfl (Nat.le_of_ble_eq_true rfl) rfl hdp (Nat.zero_le _) (Nat.zero_le _) (k1 _ (fun m' h => h))

theorem s9_readPaper_76 {G : am_G} {dp a b : Nat} {m : am_M} {Q : am_Q} {i1 i2 i3 : Int} {r0 : Nat}  (k1 : Q (.inl none) m)  : X G dp a b M9_readPaper 76 [some (rV (some r0)), some (iV (i1)), some (iV (i2)), some (iV (i3))] [] m Q := by
  exact X_vret dX9_readPaper_76 rfl k1

theorem s9_readRule_0 {G : am_G} {dp a b : Nat} {m : am_M} {Q : am_Q} {i1 i2 i3 : Int} {r0 : Nat} (hdp : 1 ≤ dp) (h1 : am_ob m r0 8) (k1 : ∀ Q' : am_Q, (∀ (m' : am_M), X G dp a b M9_readRule 4 [some (rV (some r0)), some (iV (i1)), some (iV (i2)), some (iV (i3))] [] m' Q → Q' (.inl none) m') → T G (dp - 1) 0 0 M9_pass [rV (some r0)] m Q')  : X G dp a b M9_readRule 0 [some (rV (some r0)), some (iV (i1)), some (iV (i2)), some (iV (i3))] [] m Q := by
  refine X_aload_n dX9_readRule_0 rfl rfl ?_
  exact X_callV (As := []) (rest := []) (a' := 0) (b' := 0) dX9_readRule_1 t9_pass ml_9_377 h1 rfl rfl (Nat.le_of_ble_eq_true rfl) rfl hdp (Nat.zero_le _) (Nat.zero_le _) (k1 _ (fun m' h => h))

theorem s9_readRule_4 {G : am_G} {dp a b : Nat} {m : am_M} {Q : am_Q} {i1 i2 i3 : Int} {r0 p1 : Nat} (hdp : 1 ≤ dp) (h1 : am_ob m r0 8) (h2 : m.2.1 r0 1 = some p1) (k1 : ∀ Q' : am_Q, (∀ (z : Int) (m' : am_M), X G dp a b M9_readRule 15 [some (rV (some r0)), some (iV (i1)), some (iV (i2)), some (iV (i3))] [iV (z), iV (i1), rV (some p1)] m' Q → Q' (.inl (some (iV (z)))) m') → T G (dp - 1) 0 0 M9_number [rV (some r0), iV (i2), iV (i3)] m Q')  : X G dp a b M9_readRule 4 [some (rV (some r0)), some (iV (i1)), some (iV (i2)), some (iV (i3))] [] m Q := by
  refine X_aload_n dX9_readRule_4 rfl rfl ?_
  refine X_getP dX9_readRule_5 fl_9_13 rfl h1 ?_
  refine am_ptr h2 ?_
  refine X_iload_n dX9_readRule_8 rfl rfl ?_
  refine X_aload_n dX9_readRule_9 rfl rfl ?_
  refine X_iload_n dX9_readRule_10 rfl rfl ?_
  refine X_iload_n dX9_readRule_11 rfl rfl ?_
  exact X_callV (As := [iV (i2), iV (i3)]) (rest := [iV (i1), rV (some p1)]) (a' := 0) (b' := 0) dX9_readRule_12 t9_number ml_9_387 h1 rfl rfl (Nat.le_of_ble_eq_true rfl) rfl hdp (Nat.zero_le _) (Nat.zero_le _) (k1 _ (fun z m' h => h))

theorem s9_readRule_15 {G : am_G} {dp a b : Nat} {m : am_M} {Q : am_Q} {i1 i2 i3 i90 i91 : Int} {r0 r92 : Nat} {n_r92 : Nat} (hdp : 1 ≤ dp) (h1 : am_arw m r92 100 n_r92) (h4 : am_ob m r0 8) (k1 : ∀ Q' : am_Q, (∀ (m' : am_M), X G dp a b M9_readRule 22 [some (rV (some r0)), some (iV (i1)), some (iV (i2)), some (iV (i3))] [] m' Q → Q' (.inl none) m') → T G (dp - 1) 0 0 M9_must [rV (some r0), iV (59)] ((u2 m.1 r92 (i91).toNat (i90)), m.2.1, m.2.2) Q') (h2 : 0 ≤ i91 := by intros; first | omega | (dsimp only at *; omega)) (h3 : i91 < (n_r92 : Int) := by intros; first | omega | (dsimp only at *; omega)) : X G dp a b M9_readRule 15 [some (rV (some r0)), some (iV (i1)), some (iV (i2)), some (iV (i3))] [iV (i90), iV (i91), rV (some r92)] m Q := by
  refine X_iast dX9_readRule_15 h1 h2 h3 ?_
  refine X_aload_n dX9_readRule_16 rfl rfl ?_
  refine Y_bipush dX9_readRule_17 (by omega) ?_
  exact X_callV (As := [iV (59)]) (rest := []) (a' := 0) (b' := 0) dX9_readRule_19 t9_must ml_9_393 h4 rfl rfl (Nat.le_of_ble_eq_true rfl) rfl hdp (Nat.zero_le _) (Nat.zero_le _) (k1 _ (fun m' h => h))

theorem s9_readRule_22 {G : am_G} {dp a b : Nat} {m : am_M} {Q : am_Q} {i1 i2 i3 : Int} {r0 : Nat}  (k1 : Q (.inl none) m)  : X G dp a b M9_readRule 22 [some (rV (some r0)), some (iV (i1)), some (iV (i2)), some (iV (i3))] [] m Q := by
  exact X_vret dX9_readRule_22 rfl k1

theorem s9_readLine_0 {G : am_G} {dp a b : Nat} {m : am_M} {Q : am_Q} {r0 : Nat} (hdp : 1 ≤ dp) (h1 : am_ob m r0 8) (k1 : ∀ Q' : am_Q, (∀ (z : Int) (m' : am_M), X G dp a b M9_readLine 7 [some (rV (some r0))] [iV (z)] m' Q → Q' (.inl (some (iV (z)))) m') → T G (dp - 1) 0 0 M9_isWord [rV (some r0), sV (47)] m Q')  : X G dp a b M9_readLine 0 [some (rV (some r0))] [] m Q := by
  refine X_aload_n dX9_readLine_0 rfl rfl ?_
  refine X_ldcSw (j := 47) (tx := "ballots") dX9_readLine_1 rfl ?_
  exact X_callV (As := [sV (47)]) (rest := []) (a' := 0) (b' := 0) dX9_readLine_4 t9_isWord ml_9_398 h1 rfl rfl (Nat.le_of_ble_eq_true rfl) rfl hdp (Nat.zero_le _) (Nat.zero_le _) (k1 _ (fun z m' h => h))

theorem s9_readLine_7 {G : am_G} {dp a b : Nat} {m : am_M} {Q : am_Q} {i90 : Int} {r0 : Nat} (hdp : 1 ≤ dp) (h1 : am_ob m r0 8) (k1 : (i90 = 0) → ∀ Q' : am_Q, (∀ (z : Int) (m' : am_M), X G dp a b M9_readLine 24 [some (rV (some r0))] [iV (z)] m' Q → Q' (.inl (some (iV (z)))) m') → T G (dp - 1) 0 0 M9_isWord [rV (some r0), sV (50)] m Q') (k2 : ¬ (i90 = 0) → ∀ Q' : am_Q, (∀ (m' : am_M), X G dp a b M9_readLine 14 [some (rV (some r0))] [] m' Q → Q' (.inl none) m') → T G (dp - 1) 0 0 M9_readBallots [rV (some r0)] m Q')  : X G dp a b M9_readLine 7 [some (rV (some r0))] [iV (i90)] m Q := by
  refine X_if_eq (tgt := 17) dX9_readLine_7 (by decide) (fun c1 => ?_) (fun c1 => ?_)
  · refine X_aload_n dX9_readLine_17 rfl rfl ?_
    refine X_ldcSw (j := 50) (tx := "paper") dX9_readLine_18 rfl ?_
    exact X_callV (As := [sV (50)]) (rest := []) (a' := 0) (b' := 0) dX9_readLine_21 t9_isWord ml_9_398 h1 rfl rfl (Nat.le_of_ble_eq_true rfl) rfl hdp (Nat.zero_le _) (Nat.zero_le _) ((k1 c1) _ (fun z m' h => h))
  · refine X_aload_n dX9_readLine_10 rfl rfl ?_
    exact X_callV (As := []) (rest := []) (a' := 0) (b' := 0) dX9_readLine_11 t9_readBallots ml_9_412 h1 rfl rfl (Nat.le_of_ble_eq_true rfl) rfl hdp (Nat.zero_le _) (Nat.zero_le _) ((k2 c1) _ (fun m' h => h))

theorem s9_readLine_14 {G : am_G} {dp a b : Nat} {m : am_M} {Q : am_Q} {r0 : Nat}  (k1 : X G dp a b M9_readLine 128 [some (rV (some r0))] [] m Q)  : X G dp a b M9_readLine 14 [some (rV (some r0))] [] m Q := by
  refine X_goto (tgt := 128) dX9_readLine_14 (by decide) ?_
  exact k1

theorem s9_readLine_24 {G : am_G} {dp a b : Nat} {m : am_M} {Q : am_Q} {i90 : Int} {r0 : Nat} (hdp : 1 ≤ dp) (h1 : am_ob m r0 8) (k1 : (i90 = 0) → ∀ Q' : am_Q, (∀ (z : Int) (m' : am_M), X G dp a b M9_readLine 41 [some (rV (some r0))] [iV (z)] m' Q → Q' (.inl (some (iV (z)))) m') → T G (dp - 1) 0 0 M9_isWord [rV (some r0), sV (51)] m Q') (k2 : ¬ (i90 = 0) → ∀ Q' : am_Q, (∀ (m' : am_M), X G dp a b M9_readLine 31 [some (rV (some r0))] [] m' Q → Q' (.inl none) m') → T G (dp - 1) 0 0 M9_readPaper [rV (some r0)] m Q')  : X G dp a b M9_readLine 24 [some (rV (some r0))] [iV (i90)] m Q := by
  refine X_if_eq (tgt := 34) dX9_readLine_24 (by decide) (fun c1 => ?_) (fun c1 => ?_)
  · refine X_aload_n dX9_readLine_34 rfl rfl ?_
    refine X_ldcSw (j := 51) (tx := "limit") dX9_readLine_35 rfl ?_
    exact X_callV (As := [sV (51)]) (rest := []) (a' := 0) (b' := 0) dX9_readLine_38 t9_isWord ml_9_398 h1 rfl rfl (Nat.le_of_ble_eq_true rfl) rfl hdp (Nat.zero_le _) (Nat.zero_le _) ((k1 c1) _ (fun z m' h => h))
  · refine X_aload_n dX9_readLine_27 rfl rfl ?_
    exact X_callV (As := []) (rest := []) (a' := 0) (b' := 0) dX9_readLine_28 t9_readPaper ml_9_417 h1 rfl rfl (Nat.le_of_ble_eq_true rfl) rfl hdp (Nat.zero_le _) (Nat.zero_le _) ((k2 c1) _ (fun m' h => h))

theorem s9_readLine_31 {G : am_G} {dp a b : Nat} {m : am_M} {Q : am_Q} {r0 : Nat}  (k1 : X G dp a b M9_readLine 128 [some (rV (some r0))] [] m Q)  : X G dp a b M9_readLine 31 [some (rV (some r0))] [] m Q := by
  refine X_goto (tgt := 128) dX9_readLine_31 (by decide) ?_
  exact k1

theorem s9_readLine_41 {G : am_G} {dp a b : Nat} {m : am_M} {Q : am_Q} {i90 : Int} {r0 : Nat} (hdp : 1 ≤ dp) (h1 : am_ob m r0 8) (k1 : (i90 = 0) → ∀ Q' : am_Q, (∀ (z : Int) (m' : am_M), X G dp a b M9_readLine 63 [some (rV (some r0))] [iV (z)] m' Q → Q' (.inl (some (iV (z)))) m') → T G (dp - 1) 0 0 M9_isWord [rV (some r0), sV (52)] m Q') (k2 : ¬ (i90 = 0) → ∀ Q' : am_Q, (∀ (m' : am_M), X G dp a b M9_readLine 53 [some (rV (some r0))] [] m' Q → Q' (.inl none) m') → T G (dp - 1) 0 0 M9_readRule [rV (some r0), iV (2), iV (1), iV (500)] m Q')  : X G dp a b M9_readLine 41 [some (rV (some r0))] [iV (i90)] m Q := by
  refine X_if_eq (tgt := 56) dX9_readLine_41 (by decide) (fun c1 => ?_) (fun c1 => ?_)
  · refine X_aload_n dX9_readLine_56 rfl rfl ?_
    refine X_ldcSw (j := 52) (tx := "factor") dX9_readLine_57 rfl ?_
    exact X_callV (As := [sV (52)]) (rest := []) (a' := 0) (b' := 0) dX9_readLine_60 t9_isWord ml_9_398 h1 rfl rfl (Nat.le_of_ble_eq_true rfl) rfl hdp (Nat.zero_le _) (Nat.zero_le _) ((k1 c1) _ (fun z m' h => h))
  · refine X_aload_n dX9_readLine_44 rfl rfl ?_
    refine Y_iconst dX9_readLine_45 (by unfold i32; omega) ?_
    refine Y_iconst dX9_readLine_46 (by unfold i32; omega) ?_
    refine Y_sipush dX9_readLine_47 (by omega) ?_
    exact X_callV (As := [iV (2), iV (1), iV (500)]) (rest := []) (a' := 0) (b' := 0) dX9_readLine_50 t9_readRule ml_9_422 h1 rfl rfl (Nat.le_of_ble_eq_true rfl) rfl hdp (Nat.zero_le _) (Nat.zero_le _) ((k2 c1) _ (fun m' h => h))

theorem s9_readLine_53 {G : am_G} {dp a b : Nat} {m : am_M} {Q : am_Q} {r0 : Nat}  (k1 : X G dp a b M9_readLine 128 [some (rV (some r0))] [] m Q)  : X G dp a b M9_readLine 53 [some (rV (some r0))] [] m Q := by
  refine X_goto (tgt := 128) dX9_readLine_53 (by decide) ?_
  exact k1

theorem s9_readLine_63 {G : am_G} {dp a b : Nat} {m : am_M} {Q : am_Q} {i90 : Int} {r0 : Nat} (hdp : 1 ≤ dp) (h1 : am_ob m r0 8) (k1 : (i90 = 0) → ∀ Q' : am_Q, (∀ (z : Int) (m' : am_M), X G dp a b M9_readLine 86 [some (rV (some r0))] [iV (z)] m' Q → Q' (.inl (some (iV (z)))) m') → T G (dp - 1) 0 0 M9_isWord [rV (some r0), sV (53)] m Q') (k2 : ¬ (i90 = 0) → ∀ Q' : am_Q, (∀ (m' : am_M), X G dp a b M9_readLine 76 [some (rV (some r0))] [] m' Q → Q' (.inl none) m') → T G (dp - 1) 0 0 M9_readRule [rV (some r0), iV (3), iV (101), iV (300)] m Q')  : X G dp a b M9_readLine 63 [some (rV (some r0))] [iV (i90)] m Q := by
  refine X_if_eq (tgt := 79) dX9_readLine_63 (by decide) (fun c1 => ?_) (fun c1 => ?_)
  · refine X_aload_n dX9_readLine_79 rfl rfl ?_
    refine X_ldcSw (j := 53) (tx := "most") dX9_readLine_80 rfl ?_
    exact X_callV (As := [sV (53)]) (rest := []) (a' := 0) (b' := 0) dX9_readLine_83 t9_isWord ml_9_398 h1 rfl rfl (Nat.le_of_ble_eq_true rfl) rfl hdp (Nat.zero_le _) (Nat.zero_le _) ((k1 c1) _ (fun z m' h => h))
  · refine X_aload_n dX9_readLine_66 rfl rfl ?_
    refine Y_iconst dX9_readLine_67 (by unfold i32; omega) ?_
    refine Y_bipush dX9_readLine_68 (by omega) ?_
    refine Y_sipush dX9_readLine_70 (by omega) ?_
    exact X_callV (As := [iV (3), iV (101), iV (300)]) (rest := []) (a' := 0) (b' := 0) dX9_readLine_73 t9_readRule ml_9_422 h1 rfl rfl (Nat.le_of_ble_eq_true rfl) rfl hdp (Nat.zero_le _) (Nat.zero_le _) ((k2 c1) _ (fun m' h => h))

theorem s9_readLine_76 {G : am_G} {dp a b : Nat} {m : am_M} {Q : am_Q} {r0 : Nat}  (k1 : X G dp a b M9_readLine 128 [some (rV (some r0))] [] m Q)  : X G dp a b M9_readLine 76 [some (rV (some r0))] [] m Q := by
  refine X_goto (tgt := 128) dX9_readLine_76 (by decide) ?_
  exact k1

theorem s9_readLine_86 {G : am_G} {dp a b : Nat} {m : am_M} {Q : am_Q} {i90 : Int} {r0 : Nat} (hdp : 1 ≤ dp) (h1 : am_ob m r0 8) (k1 : (i90 = 0) → ∀ Q' : am_Q, (∀ (z : Int) (m' : am_M), X G dp a b M9_readLine 108 [some (rV (some r0))] [iV (z)] m' Q → Q' (.inl (some (iV (z)))) m') → T G (dp - 1) 0 0 M9_isWord [rV (some r0), sV (54)] m Q') (k2 : ¬ (i90 = 0) → ∀ Q' : am_Q, (∀ (m' : am_M), X G dp a b M9_readLine 98 [some (rV (some r0))] [] m' Q → Q' (.inl none) m') → T G (dp - 1) 0 0 M9_readRule [rV (some r0), iV (4), iV (1), iV (300)] m Q')  : X G dp a b M9_readLine 86 [some (rV (some r0))] [iV (i90)] m Q := by
  refine X_if_eq (tgt := 101) dX9_readLine_86 (by decide) (fun c1 => ?_) (fun c1 => ?_)
  · refine X_aload_n dX9_readLine_101 rfl rfl ?_
    refine X_ldcSw (j := 54) (tx := "seed") dX9_readLine_102 rfl ?_
    exact X_callV (As := [sV (54)]) (rest := []) (a' := 0) (b' := 0) dX9_readLine_105 t9_isWord ml_9_398 h1 rfl rfl (Nat.le_of_ble_eq_true rfl) rfl hdp (Nat.zero_le _) (Nat.zero_le _) ((k1 c1) _ (fun z m' h => h))
  · refine X_aload_n dX9_readLine_89 rfl rfl ?_
    refine Y_iconst dX9_readLine_90 (by unfold i32; omega) ?_
    refine Y_iconst dX9_readLine_91 (by unfold i32; omega) ?_
    refine Y_sipush dX9_readLine_92 (by omega) ?_
    exact X_callV (As := [iV (4), iV (1), iV (300)]) (rest := []) (a' := 0) (b' := 0) dX9_readLine_95 t9_readRule ml_9_422 h1 rfl rfl (Nat.le_of_ble_eq_true rfl) rfl hdp (Nat.zero_le _) (Nat.zero_le _) ((k2 c1) _ (fun m' h => h))

theorem s9_readLine_98 {G : am_G} {dp a b : Nat} {m : am_M} {Q : am_Q} {r0 : Nat}  (k1 : X G dp a b M9_readLine 128 [some (rV (some r0))] [] m Q)  : X G dp a b M9_readLine 98 [some (rV (some r0))] [] m Q := by
  refine X_goto (tgt := 128) dX9_readLine_98 (by decide) ?_
  exact k1

theorem s9_readLine_108 {G : am_G} {dp a b : Nat} {m : am_M} {Q : am_Q} {i90 : Int} {r0 : Nat} (hdp : 1 ≤ dp) (h1 : am_ob m r0 8) (k1 : (i90 = 0) → ∀ Q' : am_Q, (∀ (m' : am_M), X G dp a b M9_readLine 128 [some (rV (some r0))] [] m' Q → Q' (.inl none) m') → T G (dp - 1) 0 0 M9_wrong [rV (some r0), iV (1)] m Q') (k2 : ¬ (i90 = 0) → ∀ Q' : am_Q, (∀ (m' : am_M), X G dp a b M9_readLine 120 [some (rV (some r0))] [] m' Q → Q' (.inl none) m') → T G (dp - 1) 0 0 M9_readRule [rV (some r0), iV (5), iV (0), iV (999999)] m Q')  : X G dp a b M9_readLine 108 [some (rV (some r0))] [iV (i90)] m Q := by
  refine X_if_eq (tgt := 123) dX9_readLine_108 (by decide) (fun c1 => ?_) (fun c1 => ?_)
  · refine X_aload_n dX9_readLine_123 rfl rfl ?_
    refine Y_iconst dX9_readLine_124 (by unfold i32; omega) ?_
    exact X_callV (As := [iV (1)]) (rest := []) (a' := 0) (b' := 0) dX9_readLine_125 t9_wrong ml_9_374 h1 rfl rfl (Nat.le_of_ble_eq_true rfl) rfl hdp (Nat.zero_le _) (Nat.zero_le _) ((k1 c1) _ (fun m' h => h))
  · refine X_aload_n dX9_readLine_111 rfl rfl ?_
    refine Y_iconst dX9_readLine_112 (by unfold i32; omega) ?_
    refine Y_iconst dX9_readLine_113 (by unfold i32; omega) ?_
    refine X_ldcwI dX9_readLine_114 kc_9_432 (by unfold i32; omega) ?_
    exact X_callV (As := [iV (5), iV (0), iV (999999)]) (rest := []) (a' := 0) (b' := 0) dX9_readLine_117 t9_readRule ml_9_422 h1 rfl rfl (Nat.le_of_ble_eq_true rfl) rfl hdp (Nat.zero_le _) (Nat.zero_le _) ((k2 c1) _ (fun m' h => h))

theorem s9_readLine_120 {G : am_G} {dp a b : Nat} {m : am_M} {Q : am_Q} {r0 : Nat}  (k1 : X G dp a b M9_readLine 128 [some (rV (some r0))] [] m Q)  : X G dp a b M9_readLine 120 [some (rV (some r0))] [] m Q := by
  refine X_goto (tgt := 128) dX9_readLine_120 (by decide) ?_
  exact k1

theorem s9_readLine_128 {G : am_G} {dp a b : Nat} {m : am_M} {Q : am_Q} {r0 : Nat}  (k1 : Q (.inl none) m)  : X G dp a b M9_readLine 128 [some (rV (some r0))] [] m Q := by
  exact X_vret dX9_readLine_128 rfl k1

theorem s9_election_0 {G : am_G} {dp a b : Nat} {m : am_M} {Q : am_Q} {i1 : Int} {r0 p1 : Nat} {o2 : Option am_V} (hdp : 1 ≤ dp) (h1 : am_obw m r0 8) (h3 : m.2.1 r0 1 = some p1) (k1 : (i1 < 0) → ∀ Q' : am_Q, (∀ (z : Int) (m' : am_M), X G dp a b M9_election 22 [some (rV (some r0)), some (iV (i1)), o2] [iV (z)] m' Q → Q' (.inl (some (iV (z)))) m') → T G (dp - 1) 0 0 M9_fail [rV (some r0), iV (1)] ((u2 m.1 r0 7 (0)), m.2.1, m.2.2) Q') (k2 : ¬ (i1 < 0) → (i1 ≤ ((u2 m.1 r0 7 (0)) r0 24)) → ∀ Q' : am_Q, (∀ (m' : am_M), X G dp a b M9_election 30 [some (rV (some r0)), some (iV (i1)), o2] [] m' Q → Q' (.inl none) m') → T G (dp - 1) 0 0 M9_bare [rV (some p1)] ((u2 m.1 r0 7 (0)), m.2.1, m.2.2) Q') (k3 : ¬ (i1 < 0) → ¬ (i1 ≤ ((u2 m.1 r0 7 (0)) r0 24)) → ∀ Q' : am_Q, (∀ (z : Int) (m' : am_M), X G dp a b M9_election 22 [some (rV (some r0)), some (iV (i1)), o2] [iV (z)] m' Q → Q' (.inl (some (iV (z)))) m') → T G (dp - 1) 0 0 M9_fail [rV (some r0), iV (1)] ((u2 m.1 r0 7 (0)), m.2.1, m.2.2) Q')  : X G dp a b M9_election 0 [some (rV (some r0)), some (iV (i1)), o2] [] m Q := by
  refine X_aload_n dX9_election_0 rfl rfl ?_
  refine Y_iconst dX9_election_1 (by unfold i32; omega) ?_
  refine X_putI dX9_election_2 fw_9_73 rfl h1 ?_
  refine X_iload_n dX9_election_5 rfl rfl ?_
  refine X_if_lt (tgt := 17) dX9_election_6 (by decide) (fun c1 => ?_) (fun c1 => ?_)
  · refine X_aload_n dX9_election_17 rfl rfl ?_
    refine Y_iconst dX9_election_18 (by unfold i32; omega) ?_
    exact X_callV (As := [iV (1)]) (rest := []) (a' := 0) (b' := 0) dX9_election_19 t9_fail ml_9_210 (am_ow h1) rfl rfl (Nat.le_of_ble_eq_true rfl) rfl hdp (Nat.zero_le _) (Nat.zero_le _) ((k1 c1) _ (fun z m' h => h))
  · refine X_iload_n dX9_election_9 rfl rfl ?_
    refine X_aload_n dX9_election_10 rfl rfl ?_
    refine X_getI dX9_election_11 fl_9_237 (by decide) (am_ow h1) ?_
    refine X_icmp_le (tgt := 23) dX9_election_14 (by decide) (fun c2 => ?_) (fun c2 => ?_)
    · refine X_aload_n dX9_election_23 rfl rfl ?_
      refine X_getP dX9_election_24 fl_9_13 rfl (am_ow h1) ?_
      refine am_ptr h3 ?_
      exact X_callS (As := [rV (some p1)]) (rest := []) (a' := 0) (b' := 0) dX9_election_27 t9_bare ml_9_69 rfl rfl (Nat.le_of_ble_eq_true rfl) rfl hdp (Nat.zero_le _) (Nat.zero_le _) ((k2 c1 c2) _ (fun m' h => h))
    · refine X_aload_n dX9_election_17 rfl rfl ?_
      refine Y_iconst dX9_election_18 (by unfold i32; omega) ?_
      exact X_callV (As := [iV (1)]) (rest := []) (a' := 0) (b' := 0) dX9_election_19 t9_fail ml_9_210 (am_ow h1) rfl rfl (Nat.le_of_ble_eq_true rfl) rfl hdp (Nat.zero_le _) (Nat.zero_le _) ((k3 c1 c2) _ (fun z m' h => h))

theorem s9_election_22 {G : am_G} {dp a b : Nat} {m : am_M} {Q : am_Q} {i1 i90 : Int} {r0 : Nat} {o2 : Option am_V}  (k1 : Q (.inl (some (iV (i90)))) m)  : X G dp a b M9_election 22 [some (rV (some r0)), some (iV (i1)), o2] [iV (i90)] m Q := by
  exact X_iret dX9_election_22 rfl k1

theorem s9_election_30 {G : am_G} {dp a b : Nat} {m : am_M} {Q : am_Q} {i1 : Int} {r0 : Nat} {o2 : Option am_V} (hdp : 1 ≤ dp) (h1 : am_ob m r0 8) (k1 : ∀ Q' : am_Q, (∀ (m' : am_M), X G dp a b M9_election 35 [some (rV (some r0)), some (iV (i1)), o2] [] m' Q → Q' (.inl none) m') → T G (dp - 1) 0 0 M9_opens [rV (some r0), iV (i1)] m Q')  : X G dp a b M9_election 30 [some (rV (some r0)), some (iV (i1)), o2] [] m Q := by
  refine X_aload_n dX9_election_30 rfl rfl ?_
  refine X_iload_n dX9_election_31 rfl rfl ?_
  exact X_callV (As := [iV (i1)]) (rest := []) (a' := 0) (b' := 0) dX9_election_32 t9_opens ml_9_433 h1 rfl rfl (Nat.le_of_ble_eq_true rfl) rfl hdp (Nat.zero_le _) (Nat.zero_le _) (k1 _ (fun m' h => h))

theorem s9_election_35 {G : am_G} {dp a b : Nat} {m : am_M} {Q : am_Q} {i1 : Int} {r0 : Nat} {o2 : Option am_V} (hdp : 1 ≤ dp) (h1 : am_ob m r0 8) (k1 : ∀ Q' : am_Q, (∀ (z : Int) (m' : am_M), X G dp a b M9_election 42 [some (rV (some r0)), some (iV (i1)), o2] [iV (z)] m' Q → Q' (.inl (some (iV (z)))) m') → T G (dp - 1) 0 0 M9_isWord [rV (some r0), sV (44)] m Q')  : X G dp a b M9_election 35 [some (rV (some r0)), some (iV (i1)), o2] [] m Q := by
  refine X_aload_n dX9_election_35 rfl rfl ?_
  refine X_ldcSw (j := 44) (tx := "race") dX9_election_36 rfl ?_
  exact X_callV (As := [sV (44)]) (rest := []) (a' := 0) (b' := 0) dX9_election_39 t9_isWord ml_9_398 h1 rfl rfl (Nat.le_of_ble_eq_true rfl) rfl hdp (Nat.zero_le _) (Nat.zero_le _) (k1 _ (fun z m' h => h))

theorem s9_election_42 {G : am_G} {dp a b : Nat} {m : am_M} {Q : am_Q} {i1 i90 : Int} {r0 : Nat} {o2 : Option am_V} (hdp : 1 ≤ dp) (h1 : am_ob m r0 8) (k1 : ¬ (i90 = 0) → X G dp a b M9_election 50 [some (rV (some r0)), some (iV (i1)), o2] [] m Q) (k2 : (i90 = 0) → ∀ Q' : am_Q, (∀ (m' : am_M), X G dp a b M9_election 50 [some (rV (some r0)), some (iV (i1)), o2] [] m' Q → Q' (.inl none) m') → T G (dp - 1) 0 0 M9_wrong [rV (some r0), iV (1)] m Q')  : X G dp a b M9_election 42 [some (rV (some r0)), some (iV (i1)), o2] [iV (i90)] m Q := by
  refine X_if_ne (tgt := 50) dX9_election_42 (by decide) (fun c1 => ?_) (fun c1 => ?_)
  · exact (k1 c1)
  · refine X_aload_n dX9_election_45 rfl rfl ?_
    refine Y_iconst dX9_election_46 (by unfold i32; omega) ?_
    exact X_callV (As := [iV (1)]) (rest := []) (a' := 0) (b' := 0) dX9_election_47 t9_wrong ml_9_374 h1 rfl rfl (Nat.le_of_ble_eq_true rfl) rfl hdp (Nat.zero_le _) (Nat.zero_le _) ((k2 c1) _ (fun m' h => h))

theorem s9_election_50 {G : am_G} {dp a b : Nat} {m : am_M} {Q : am_Q} {i1 : Int} {r0 : Nat} {o2 : Option am_V} (hdp : 1 ≤ dp) (h1 : am_ob m r0 8) (k1 : ∀ Q' : am_Q, (∀ (z : Int) (m' : am_M), X G dp a b M9_election 57 [some (rV (some r0)), some (iV (i1)), o2] [iV (z)] m' Q → Q' (.inl (some (iV (z)))) m') → T G (dp - 1) 0 0 M9_isWord [rV (some r0), sV (44)] m Q')  : X G dp a b M9_election 50 [some (rV (some r0)), some (iV (i1)), o2] [] m Q := by
  refine X_aload_n dX9_election_50 rfl rfl ?_
  refine X_ldcSw (j := 44) (tx := "race") dX9_election_51 rfl ?_
  exact X_callV (As := [sV (44)]) (rest := []) (a' := 0) (b' := 0) dX9_election_54 t9_isWord ml_9_398 h1 rfl rfl (Nat.le_of_ble_eq_true rfl) rfl hdp (Nat.zero_le _) (Nat.zero_le _) (k1 _ (fun z m' h => h))

theorem s9_election_57 {G : am_G} {dp a b : Nat} {m : am_M} {Q : am_Q} {i1 i90 : Int} {r0 : Nat} {o2 : Option am_V} (hdp : 1 ≤ dp) (h1 : am_ob m r0 8) (k1 : (i90 = 0) → X G dp a b M9_election 67 [some (rV (some r0)), some (iV (i1)), o2] [] m Q) (k2 : ¬ (i90 = 0) → ∀ Q' : am_Q, (∀ (m' : am_M), X G dp a b M9_election 64 [some (rV (some r0)), some (iV (i1)), o2] [] m' Q → Q' (.inl none) m') → T G (dp - 1) 0 0 M9_readRace [rV (some r0)] m Q')  : X G dp a b M9_election 57 [some (rV (some r0)), some (iV (i1)), o2] [iV (i90)] m Q := by
  refine X_if_eq (tgt := 67) dX9_election_57 (by decide) (fun c1 => ?_) (fun c1 => ?_)
  · exact (k1 c1)
  · refine X_aload_n dX9_election_60 rfl rfl ?_
    exact X_callV (As := []) (rest := []) (a' := 0) (b' := 0) dX9_election_61 t9_readRace ml_9_438 h1 rfl rfl (Nat.le_of_ble_eq_true rfl) rfl hdp (Nat.zero_le _) (Nat.zero_le _) ((k2 c1) _ (fun m' h => h))

theorem s9_election_64 {G : am_G} {dp a b : Nat} {m : am_M} {Q : am_Q} {i1 : Int} {r0 : Nat} {o2 : Option am_V}  (k1 : X G dp a b M9_election 50 [some (rV (some r0)), some (iV (i1)), o2] [] m Q)  : X G dp a b M9_election 64 [some (rV (some r0)), some (iV (i1)), o2] [] m Q := by
  refine X_goto (tgt := 50) dX9_election_64 (by decide) ?_
  exact k1

theorem s9_election_67 {G : am_G} {dp a b : Nat} {m : am_M} {Q : am_Q} {i1 : Int} {r0 : Nat} {o2 : Option am_V} (hdp : 1 ≤ dp) (h1 : am_ob m r0 8) (k1 : ¬ ((m.1 r0 30) = 0) → ∀ Q' : am_Q, (∀ (z : Int) (m' : am_M), X G dp a b M9_election 92 [some (rV (some r0)), some (iV (i1)), o2] [iV (z)] m' Q → Q' (.inl (some (iV (z)))) m') → T G (dp - 1) 0 0 M9_ends [rV (some r0)] m Q') (k2 : ((m.1 r0 30) = 0) → ((m.1 r0 27) = 0) → ∀ Q' : am_Q, (∀ (z : Int) (m' : am_M), X G dp a b M9_election 92 [some (rV (some r0)), some (iV (i1)), o2] [iV (z)] m' Q → Q' (.inl (some (iV (z)))) m') → T G (dp - 1) 0 0 M9_ends [rV (some r0)] m Q') (k3 : ((m.1 r0 30) = 0) → ¬ ((m.1 r0 27) = 0) → ∀ Q' : am_Q, (∀ (m' : am_M), X G dp a b M9_election 85 [some (rV (some r0)), some (iV (i1)), o2] [] m' Q → Q' (.inl none) m') → T G (dp - 1) 0 0 M9_readLine [rV (some r0)] m Q')  : X G dp a b M9_election 67 [some (rV (some r0)), some (iV (i1)), o2] [] m Q := by
  refine X_aload_n dX9_election_67 rfl rfl ?_
  refine X_getI dX9_election_68 fl_9_350 (by decide) h1 ?_
  refine X_if_ne (tgt := 88) dX9_election_71 (by decide) (fun c1 => ?_) (fun c1 => ?_)
  · refine X_aload_n dX9_election_88 rfl rfl ?_
    exact X_callV (As := []) (rest := []) (a' := 0) (b' := 0) dX9_election_89 t9_ends ml_9_444 h1 rfl rfl (Nat.le_of_ble_eq_true rfl) rfl hdp (Nat.zero_le _) (Nat.zero_le _) ((k1 c1) _ (fun z m' h => h))
  · refine X_aload_n dX9_election_74 rfl rfl ?_
    refine X_getI dX9_election_75 fl_9_338 (by decide) h1 ?_
    refine X_if_eq (tgt := 88) dX9_election_78 (by decide) (fun c2 => ?_) (fun c2 => ?_)
    · refine X_aload_n dX9_election_88 rfl rfl ?_
      exact X_callV (As := []) (rest := []) (a' := 0) (b' := 0) dX9_election_89 t9_ends ml_9_444 h1 rfl rfl (Nat.le_of_ble_eq_true rfl) rfl hdp (Nat.zero_le _) (Nat.zero_le _) ((k2 c1 c2) _ (fun z m' h => h))
    · refine X_aload_n dX9_election_81 rfl rfl ?_
      exact X_callV (As := []) (rest := []) (a' := 0) (b' := 0) dX9_election_82 t9_readLine ml_9_441 h1 rfl rfl (Nat.le_of_ble_eq_true rfl) rfl hdp (Nat.zero_le _) (Nat.zero_le _) ((k3 c1 c2) _ (fun m' h => h))

theorem s9_election_85 {G : am_G} {dp a b : Nat} {m : am_M} {Q : am_Q} {i1 : Int} {r0 : Nat} {o2 : Option am_V}  (k1 : X G dp a b M9_election 67 [some (rV (some r0)), some (iV (i1)), o2] [] m Q)  : X G dp a b M9_election 85 [some (rV (some r0)), some (iV (i1)), o2] [] m Q := by
  refine X_goto (tgt := 67) dX9_election_85 (by decide) ?_
  exact k1

theorem s9_election_92 {G : am_G} {dp a b : Nat} {m : am_M} {Q : am_Q} {i1 i90 : Int} {r0 p1 p2 : Nat} {o2 : Option am_V} (hdp : 1 ≤ dp) (h1 : am_ob m r0 8) (h2 : m.2.1 r0 0 = some p1) (h3 : m.2.1 r0 1 = some p2) (k1 : (i90 = 0) → ∀ Q' : am_Q, (∀ (m' : am_M), X G dp a b M9_election 113 [some (rV (some r0)), some (iV (i1)), some (iV (i90))] [] m' Q → Q' (.inl none) m') → T G (dp - 1) 0 0 M9_copy [rV (some p1), rV (some p2)] m Q') (k2 : ¬ (i90 = 0) → Q (.inl (some (iV (wr ((-10) - i90))))) m)  : X G dp a b M9_election 92 [some (rV (some r0)), some (iV (i1)), o2] [iV (i90)] m Q := by
  refine X_istore_n dX9_election_92 rfl (Nat.le_of_ble_eq_true rfl) ?_
  refine X_iload_n dX9_election_93 rfl rfl ?_
  refine X_if_eq (tgt := 102) dX9_election_94 (by decide) (fun c1 => ?_) (fun c1 => ?_)
  · refine X_aload_n dX9_election_102 rfl rfl ?_
    refine X_getP dX9_election_103 fl_9_9 rfl h1 ?_
    refine am_ptr h2 ?_
    refine X_aload_n dX9_election_106 rfl rfl ?_
    refine X_getP dX9_election_107 fl_9_13 rfl h1 ?_
    refine am_ptr h3 ?_
    exact X_callS (As := [rV (some p1), rV (some p2)]) (rest := []) (a' := 0) (b' := 0) dX9_election_110 t9_copy ml_9_278 rfl rfl (Nat.le_of_ble_eq_true rfl) rfl hdp (Nat.zero_le _) (Nat.zero_le _) ((k1 c1) _ (fun m' h => h))
  · refine Y_bipush dX9_election_97 (by omega) ?_
    refine X_iload_n dX9_election_99 rfl rfl ?_
    refine X_isub dX9_election_100  ?_
    exact X_iret dX9_election_101 rfl (k2 c1)

theorem s9_election_113 {G : am_G} {dp a b : Nat} {m : am_M} {Q : am_Q} {i1 i2 : Int} {r0 : Nat} (hdp : 1 ≤ dp) (h1 : am_obw m r0 8) (k1 : ∀ Q' : am_Q, (∀ (z : Int) (m' : am_M), X G dp a b M9_election 122 [some (rV (some r0)), some (iV (i1)), some (iV (i2))] [iV (z)] m' Q → Q' (.inl (some (iV (z)))) m') → T G (dp - 1) 0 0 M9_ballots [rV (some r0)] ((u2 m.1 r0 6 (0)), m.2.1, m.2.2) Q')  : X G dp a b M9_election 113 [some (rV (some r0)), some (iV (i1)), some (iV (i2))] [] m Q := by
  refine X_aload_n dX9_election_113 rfl rfl ?_
  refine Y_iconst dX9_election_114 (by unfold i32; omega) ?_
  refine X_putI dX9_election_115 fw_9_234 rfl h1 ?_
  refine X_aload_n dX9_election_118 rfl rfl ?_
  exact X_callV (As := []) (rest := []) (a' := 0) (b' := 0) dX9_election_119 t9_ballots ml_9_84 (am_ow h1) rfl rfl (Nat.le_of_ble_eq_true rfl) rfl hdp (Nat.zero_le _) (Nat.zero_le _) (k1 _ (fun z m' h => h))

theorem s9_election_122 {G : am_G} {dp a b : Nat} {m : am_M} {Q : am_Q} {i1 i2 i90 : Int} {r0 : Nat}  (k1 : Q (.inl (some (iV (i90)))) m)  : X G dp a b M9_election 122 [some (rV (some r0)), some (iV (i1)), some (iV (i2))] [iV (i90)] m Q := by
  exact X_iret dX9_election_122 rfl k1

theorem s9_ofRace_0 {G : am_G} {dp a b : Nat} {m : am_M} {Q : am_Q} {i1 : Int} {r0 : Nat} {o2 : Option am_V} (hdp : 1 ≤ dp) (h1 : am_ob m r0 8) (k1 : ∀ Q' : am_Q, (∀ (m' : am_M), X G dp a b M9_ofRace 4 [some (rV (some r0)), some (iV (i1)), o2] [] m' Q → Q' (.inl none) m') → T G (dp - 1) 0 0 M9_pass [rV (some r0)] m Q')  : X G dp a b M9_ofRace 0 [some (rV (some r0)), some (iV (i1)), o2] [] m Q := by
  refine X_aload_n dX9_ofRace_0 rfl rfl ?_
  exact X_callV (As := []) (rest := []) (a' := 0) (b' := 0) dX9_ofRace_1 t9_pass ml_9_377 h1 rfl rfl (Nat.le_of_ble_eq_true rfl) rfl hdp (Nat.zero_le _) (Nat.zero_le _) (k1 _ (fun m' h => h))

theorem s9_ofRace_4 {G : am_G} {dp a b : Nat} {m : am_M} {Q : am_Q} {i1 : Int} {r0 : Nat} {o2 : Option am_V} (hdp : 1 ≤ dp) (h1 : am_ob m r0 8) (k1 : ∀ Q' : am_Q, (∀ (z : Int) (m' : am_M), X G dp a b M9_ofRace 10 [some (rV (some r0)), some (iV (i1)), o2] [iV (z), iV (0), rV (some r0)] m' Q → Q' (.inl (some (iV (z)))) m') → T G (dp - 1) 0 0 M9_races [rV (some r0)] m Q')  : X G dp a b M9_ofRace 4 [some (rV (some r0)), some (iV (i1)), o2] [] m Q := by
  refine X_aload_n dX9_ofRace_4 rfl rfl ?_
  refine Y_iconst dX9_ofRace_5 (by unfold i32; omega) ?_
  refine X_aload_n dX9_ofRace_6 rfl rfl ?_
  exact X_callV (As := []) (rest := [iV (0), rV (some r0)]) (a' := 0) (b' := 0) dX9_ofRace_7 t9_races ml_9_76 h1 rfl rfl (Nat.le_of_ble_eq_true rfl) rfl hdp (Nat.zero_le _) (Nat.zero_le _) (k1 _ (fun z m' h => h))

theorem s9_ofRace_10 {G : am_G} {dp a b : Nat} {m : am_M} {Q : am_Q} {i1 i90 i91 : Int} {r0 r92 : Nat} {o2 : Option am_V} (hdp : 1 ≤ dp) (h1 : am_ob m r92 8) (k1 : ∀ Q' : am_Q, (∀ (z : Int) (m' : am_M), X G dp a b M9_ofRace 15 [some (rV (some r0)), some (iV (i1)), o2] [iV (z)] m' Q → Q' (.inl (some (iV (z)))) m') → T G (dp - 1) 0 0 M9_number [rV (some r92), iV (i91), iV (wr (i90 - 1))] m Q')  : X G dp a b M9_ofRace 10 [some (rV (some r0)), some (iV (i1)), o2] [iV (i90), iV (i91), rV (some r92)] m Q := by
  refine Y_iconst dX9_ofRace_10 (by unfold i32; omega) ?_
  refine X_isub dX9_ofRace_11  ?_
  exact X_callV (As := [iV (i91), iV (wr (i90 - 1))]) (rest := []) (a' := 0) (b' := 0) dX9_ofRace_12 t9_number ml_9_387 h1 rfl rfl (Nat.le_of_ble_eq_true rfl) rfl hdp (Nat.zero_le _) (Nat.zero_le _) (k1 _ (fun z m' h => h))

theorem s9_ofRace_15 {G : am_G} {dp a b : Nat} {m : am_M} {Q : am_Q} {i1 i90 : Int} {r0 : Nat} {o2 : Option am_V} (hdp : 1 ≤ dp) (h1 : am_ob m r0 8) (k1 : ¬ ((m.1 r0 30) = 0) → Q (.inl (some (iV (0)))) m) (k2 : ((m.1 r0 30) = 0) → ¬ ((m.1 r0 34) = (-1)) → ¬ (i1 = 0) → ¬ (i1 = 1) → ∀ Q' : am_Q, (∀ (z : Int) (m' : am_M), X G dp a b M9_ofRace 75 [some (rV (some r0)), some (iV (i1)), some (iV (i90))] [iV (z)] m' Q → Q' (.inl (some (iV (z)))) m') → T G (dp - 1) 0 0 M9_mistakeAt [rV (some r0), iV (m.1 r0 34), iV (i90)] m Q') (k3 : ((m.1 r0 30) = 0) → ¬ ((m.1 r0 34) = (-1)) → ¬ (i1 = 0) → (i1 = 1) → ∀ Q' : am_Q, (∀ (z : Int) (m' : am_M), X G dp a b M9_ofRace 63 [some (rV (some r0)), some (iV (i1)), some (iV (i90))] [iV (z)] m' Q → Q' (.inl (some (iV (z)))) m') → T G (dp - 1) 0 0 M9_shown [rV (some r0), iV (m.1 r0 34), iV (i90)] m Q') (k4 : ((m.1 r0 30) = 0) → ¬ ((m.1 r0 34) = (-1)) → (i1 = 0) → ∀ Q' : am_Q, (∀ (z : Int) (m' : am_M), X G dp a b M9_ofRace 46 [some (rV (some r0)), some (iV (i1)), some (iV (i90))] [iV (z)] m' Q → Q' (.inl (some (iV (z)))) m') → T G (dp - 1) 0 0 M9_recorded [rV (some r0), iV (m.1 r0 34), iV (i90)] m Q') (k5 : ((m.1 r0 30) = 0) → ((m.1 r0 34) = (-1)) → Q (.inl (some (iV (0)))) m)  : X G dp a b M9_ofRace 15 [some (rV (some r0)), some (iV (i1)), o2] [iV (i90)] m Q := by
  refine X_istore_n dX9_ofRace_15 rfl (Nat.le_of_ble_eq_true rfl) ?_
  refine X_aload_n dX9_ofRace_16 rfl rfl ?_
  refine X_getI dX9_ofRace_17 fl_9_350 (by decide) h1 ?_
  refine X_if_ne (tgt := 31) dX9_ofRace_20 (by decide) (fun c1 => ?_) (fun c1 => ?_)
  · refine Y_iconst dX9_ofRace_31 (by unfold i32; omega) ?_
    exact X_iret dX9_ofRace_32 rfl (k1 c1)
  · refine X_aload_n dX9_ofRace_23 rfl rfl ?_
    refine X_getI dX9_ofRace_24 fl_9_447 (by decide) h1 ?_
    refine Y_iconst dX9_ofRace_27 (by unfold i32; omega) ?_
    refine X_icmp_ne (tgt := 33) dX9_ofRace_28 (by decide) (fun c2 => ?_) (fun c2 => ?_)
    · refine X_iload_n dX9_ofRace_33 rfl rfl ?_
      refine X_if_ne (tgt := 49) dX9_ofRace_34 (by decide) (fun c3 => ?_) (fun c3 => ?_)
      · refine X_iload_n dX9_ofRace_49 rfl rfl ?_
        refine Y_iconst dX9_ofRace_50 (by unfold i32; omega) ?_
        refine X_icmp_ne (tgt := 66) dX9_ofRace_51 (by decide) (fun c4 => ?_) (fun c4 => ?_)
        · refine X_aload_n dX9_ofRace_66 rfl rfl ?_
          refine X_aload_n dX9_ofRace_67 rfl rfl ?_
          refine X_getI dX9_ofRace_68 fl_9_447 (by decide) h1 ?_
          refine X_iload_n dX9_ofRace_71 rfl rfl ?_
          exact X_callV (As := [iV (m.1 r0 34), iV (i90)]) (rest := []) (a' := 0) (b' := 0) dX9_ofRace_72 t9_mistakeAt ml_9_172 h1 rfl rfl (Nat.le_of_ble_eq_true rfl) rfl hdp (Nat.zero_le _) (Nat.zero_le _) ((k2 c1 c2 c3 c4) _ (fun z m' h => h))
        · refine X_aload_n dX9_ofRace_54 rfl rfl ?_
          refine X_aload_n dX9_ofRace_55 rfl rfl ?_
          refine X_getI dX9_ofRace_56 fl_9_447 (by decide) h1 ?_
          refine X_iload_n dX9_ofRace_59 rfl rfl ?_
          exact X_callV (As := [iV (m.1 r0 34), iV (i90)]) (rest := []) (a' := 0) (b' := 0) dX9_ofRace_60 t9_shown ml_9_103 h1 rfl rfl (Nat.le_of_ble_eq_true rfl) rfl hdp (Nat.zero_le _) (Nat.zero_le _) ((k3 c1 c2 c3 c4) _ (fun z m' h => h))
      · refine X_aload_n dX9_ofRace_37 rfl rfl ?_
        refine X_aload_n dX9_ofRace_38 rfl rfl ?_
        refine X_getI dX9_ofRace_39 fl_9_447 (by decide) h1 ?_
        refine X_iload_n dX9_ofRace_42 rfl rfl ?_
        exact X_callV (As := [iV (m.1 r0 34), iV (i90)]) (rest := []) (a' := 0) (b' := 0) dX9_ofRace_43 t9_recorded ml_9_95 h1 rfl rfl (Nat.le_of_ble_eq_true rfl) rfl hdp (Nat.zero_le _) (Nat.zero_le _) ((k4 c1 c2 c3) _ (fun z m' h => h))
    · refine Y_iconst dX9_ofRace_31 (by unfold i32; omega) ?_
      exact X_iret dX9_ofRace_32 rfl (k5 c1 c2)

theorem s9_ofRace_46 {G : am_G} {dp a b : Nat} {m : am_M} {Q : am_Q} {i1 i2 i90 : Int} {r0 : Nat}  (k1 : X G dp a b M9_ofRace 75 [some (rV (some r0)), some (iV (i1)), some (iV (i2))] [iV (i90)] m Q)  : X G dp a b M9_ofRace 46 [some (rV (some r0)), some (iV (i1)), some (iV (i2))] [iV (i90)] m Q := by
  refine X_goto (tgt := 75) dX9_ofRace_46 (by decide) ?_
  exact k1

theorem s9_ofRace_63 {G : am_G} {dp a b : Nat} {m : am_M} {Q : am_Q} {i1 i2 i90 : Int} {r0 : Nat}  (k1 : X G dp a b M9_ofRace 75 [some (rV (some r0)), some (iV (i1)), some (iV (i2))] [iV (i90)] m Q)  : X G dp a b M9_ofRace 63 [some (rV (some r0)), some (iV (i1)), some (iV (i2))] [iV (i90)] m Q := by
  refine X_goto (tgt := 75) dX9_ofRace_63 (by decide) ?_
  exact k1

theorem s9_ofRace_75 {G : am_G} {dp a b : Nat} {m : am_M} {Q : am_Q} {i1 i2 i90 : Int} {r0 : Nat}  (k1 : Q (.inl (some (iV (i90)))) m)  : X G dp a b M9_ofRace 75 [some (rV (some r0)), some (iV (i1)), some (iV (i2))] [iV (i90)] m Q := by
  exact X_iret dX9_ofRace_75 rfl k1

theorem s9_readValue_0 {G : am_G} {dp a b : Nat} {m : am_M} {Q : am_Q} {r0 : Nat} {o1 : Option am_V} (hdp : 1 ≤ dp) (h1 : am_ob m r0 8) (k1 : ¬ ((m.1 r0 30) = 0) → ∀ Q' : am_Q, (∀ (z : Int) (m' : am_M), X G dp a b M9_readValue 23 [some (rV (some r0)), o1] [iV (z)] m' Q → Q' (.inl (some (iV (z)))) m') → T G (dp - 1) 0 0 M9_number [rV (some r0), iV (0), iV (9999)] m Q') (k2 : ((m.1 r0 30) = 0) → ¬ ((m.1 r0 27) = 2) → ∀ Q' : am_Q, (∀ (z : Int) (m' : am_M), X G dp a b M9_readValue 31 [some (rV (some r0)), o1] [iV (z)] m' Q → Q' (.inl (some (iV (z)))) m') → T G (dp - 1) 0 0 M9_isWord [rV (some r0), sV (59)] m Q') (k3 : ((m.1 r0 30) = 0) → ((m.1 r0 27) = 2) → ∀ Q' : am_Q, (∀ (z : Int) (m' : am_M), X G dp a b M9_readValue 23 [some (rV (some r0)), o1] [iV (z)] m' Q → Q' (.inl (some (iV (z)))) m') → T G (dp - 1) 0 0 M9_number [rV (some r0), iV (0), iV (9999)] m Q')  : X G dp a b M9_readValue 0 [some (rV (some r0)), o1] [] m Q := by
  refine X_aload_n dX9_readValue_0 rfl rfl ?_
  refine X_getI dX9_readValue_1 fl_9_350 (by decide) h1 ?_
  refine X_if_ne (tgt := 15) dX9_readValue_4 (by decide) (fun c1 => ?_) (fun c1 => ?_)
  · refine X_aload_n dX9_readValue_15 rfl rfl ?_
    refine Y_iconst dX9_readValue_16 (by unfold i32; omega) ?_
    refine Y_sipush dX9_readValue_17 (by omega) ?_
    exact X_callV (As := [iV (0), iV (9999)]) (rest := []) (a' := 0) (b' := 0) dX9_readValue_20 t9_number ml_9_387 h1 rfl rfl (Nat.le_of_ble_eq_true rfl) rfl hdp (Nat.zero_le _) (Nat.zero_le _) ((k1 c1) _ (fun z m' h => h))
  · refine X_aload_n dX9_readValue_7 rfl rfl ?_
    refine X_getI dX9_readValue_8 fl_9_338 (by decide) h1 ?_
    refine Y_iconst dX9_readValue_11 (by unfold i32; omega) ?_
    refine X_icmp_ne (tgt := 24) dX9_readValue_12 (by decide) (fun c2 => ?_) (fun c2 => ?_)
    · refine X_aload_n dX9_readValue_24 rfl rfl ?_
      refine X_ldcSw (j := 59) (tx := "record") dX9_readValue_25 rfl ?_
      exact X_callV (As := [sV (59)]) (rest := []) (a' := 0) (b' := 0) dX9_readValue_28 t9_isWord ml_9_398 h1 rfl rfl (Nat.le_of_ble_eq_true rfl) rfl hdp (Nat.zero_le _) (Nat.zero_le _) ((k2 c1 c2) _ (fun z m' h => h))
    · refine X_aload_n dX9_readValue_15 rfl rfl ?_
      refine Y_iconst dX9_readValue_16 (by unfold i32; omega) ?_
      refine Y_sipush dX9_readValue_17 (by omega) ?_
      exact X_callV (As := [iV (0), iV (9999)]) (rest := []) (a' := 0) (b' := 0) dX9_readValue_20 t9_number ml_9_387 h1 rfl rfl (Nat.le_of_ble_eq_true rfl) rfl hdp (Nat.zero_le _) (Nat.zero_le _) ((k3 c1 c2) _ (fun z m' h => h))

theorem s9_readValue_23 {G : am_G} {dp a b : Nat} {m : am_M} {Q : am_Q} {i90 : Int} {r0 : Nat} {o1 : Option am_V}  (k1 : Q (.inl (some (iV (i90)))) m)  : X G dp a b M9_readValue 23 [some (rV (some r0)), o1] [iV (i90)] m Q := by
  exact X_iret dX9_readValue_23 rfl k1

theorem s9_readValue_31 {G : am_G} {dp a b : Nat} {m : am_M} {Q : am_Q} {i90 : Int} {r0 : Nat} {o1 : Option am_V} (hdp : 1 ≤ dp) (h1 : am_ob m r0 8) (k1 : (i90 = 0) → ∀ Q' : am_Q, (∀ (z : Int) (m' : am_M), X G dp a b M9_readValue 47 [some (rV (some r0)), o1] [iV (z)] m' Q → Q' (.inl (some (iV (z)))) m') → T G (dp - 1) 0 0 M9_isWord [rV (some r0), sV (50)] m Q') (k2 : ¬ (i90 = 0) → ∀ Q' : am_Q, (∀ (z : Int) (m' : am_M), X G dp a b M9_readValue 39 [some (rV (some r0)), o1] [iV (z)] m' Q → Q' (.inl (some (iV (z)))) m') → T G (dp - 1) 0 0 M9_ofRace [rV (some r0), iV (0)] m Q')  : X G dp a b M9_readValue 31 [some (rV (some r0)), o1] [iV (i90)] m Q := by
  refine X_if_eq (tgt := 40) dX9_readValue_31 (by decide) (fun c1 => ?_) (fun c1 => ?_)
  · refine X_aload_n dX9_readValue_40 rfl rfl ?_
    refine X_ldcSw (j := 50) (tx := "paper") dX9_readValue_41 rfl ?_
    exact X_callV (As := [sV (50)]) (rest := []) (a' := 0) (b' := 0) dX9_readValue_44 t9_isWord ml_9_398 h1 rfl rfl (Nat.le_of_ble_eq_true rfl) rfl hdp (Nat.zero_le _) (Nat.zero_le _) ((k1 c1) _ (fun z m' h => h))
  · refine X_aload_n dX9_readValue_34 rfl rfl ?_
    refine Y_iconst dX9_readValue_35 (by unfold i32; omega) ?_
    exact X_callV (As := [iV (0)]) (rest := []) (a' := 0) (b' := 0) dX9_readValue_36 t9_ofRace ml_9_452 h1 rfl rfl (Nat.le_of_ble_eq_true rfl) rfl hdp (Nat.zero_le _) (Nat.zero_le _) ((k2 c1) _ (fun z m' h => h))

theorem s9_readValue_39 {G : am_G} {dp a b : Nat} {m : am_M} {Q : am_Q} {i90 : Int} {r0 : Nat} {o1 : Option am_V}  (k1 : Q (.inl (some (iV (i90)))) m)  : X G dp a b M9_readValue 39 [some (rV (some r0)), o1] [iV (i90)] m Q := by
  exact X_iret dX9_readValue_39 rfl k1

theorem s9_readValue_47 {G : am_G} {dp a b : Nat} {m : am_M} {Q : am_Q} {i90 : Int} {r0 : Nat} {o1 : Option am_V} (hdp : 1 ≤ dp) (h1 : am_ob m r0 8) (k1 : (i90 = 0) → ∀ Q' : am_Q, (∀ (z : Int) (m' : am_M), X G dp a b M9_readValue 63 [some (rV (some r0)), o1] [iV (z)] m' Q → Q' (.inl (some (iV (z)))) m') → T G (dp - 1) 0 0 M9_isWord [rV (some r0), sV (60)] m Q') (k2 : ¬ (i90 = 0) → ∀ Q' : am_Q, (∀ (z : Int) (m' : am_M), X G dp a b M9_readValue 55 [some (rV (some r0)), o1] [iV (z)] m' Q → Q' (.inl (some (iV (z)))) m') → T G (dp - 1) 0 0 M9_ofRace [rV (some r0), iV (1)] m Q')  : X G dp a b M9_readValue 47 [some (rV (some r0)), o1] [iV (i90)] m Q := by
  refine X_if_eq (tgt := 56) dX9_readValue_47 (by decide) (fun c1 => ?_) (fun c1 => ?_)
  · refine X_aload_n dX9_readValue_56 rfl rfl ?_
    refine X_ldcSw (j := 60) (tx := "mistake") dX9_readValue_57 rfl ?_
    exact X_callV (As := [sV (60)]) (rest := []) (a' := 0) (b' := 0) dX9_readValue_60 t9_isWord ml_9_398 h1 rfl rfl (Nat.le_of_ble_eq_true rfl) rfl hdp (Nat.zero_le _) (Nat.zero_le _) ((k1 c1) _ (fun z m' h => h))
  · refine X_aload_n dX9_readValue_50 rfl rfl ?_
    refine Y_iconst dX9_readValue_51 (by unfold i32; omega) ?_
    exact X_callV (As := [iV (1)]) (rest := []) (a' := 0) (b' := 0) dX9_readValue_52 t9_ofRace ml_9_452 h1 rfl rfl (Nat.le_of_ble_eq_true rfl) rfl hdp (Nat.zero_le _) (Nat.zero_le _) ((k2 c1) _ (fun z m' h => h))

theorem s9_readValue_55 {G : am_G} {dp a b : Nat} {m : am_M} {Q : am_Q} {i90 : Int} {r0 : Nat} {o1 : Option am_V}  (k1 : Q (.inl (some (iV (i90)))) m)  : X G dp a b M9_readValue 55 [some (rV (some r0)), o1] [iV (i90)] m Q := by
  exact X_iret dX9_readValue_55 rfl k1

theorem s9_readValue_63 {G : am_G} {dp a b : Nat} {m : am_M} {Q : am_Q} {i90 : Int} {r0 : Nat} {o1 : Option am_V} (hdp : 1 ≤ dp) (h1 : am_ob m r0 8) (k1 : (i90 = 0) → ∀ Q' : am_Q, (∀ (z : Int) (m' : am_M), X G dp a b M9_readValue 76 [some (rV (some r0)), o1] [iV (z)] m' Q → Q' (.inl (some (iV (z)))) m') → T G (dp - 1) 0 0 M9_valueOfWord [rV (some r0)] m Q') (k2 : ¬ (i90 = 0) → ∀ Q' : am_Q, (∀ (z : Int) (m' : am_M), X G dp a b M9_readValue 71 [some (rV (some r0)), o1] [iV (z)] m' Q → Q' (.inl (some (iV (z)))) m') → T G (dp - 1) 0 0 M9_ofRace [rV (some r0), iV (2)] m Q')  : X G dp a b M9_readValue 63 [some (rV (some r0)), o1] [iV (i90)] m Q := by
  refine X_if_eq (tgt := 72) dX9_readValue_63 (by decide) (fun c1 => ?_) (fun c1 => ?_)
  · refine X_aload_n dX9_readValue_72 rfl rfl ?_
    exact X_callV (As := []) (rest := []) (a' := 0) (b' := 0) dX9_readValue_73 t9_valueOfWord ml_9_457 h1 rfl rfl (Nat.le_of_ble_eq_true rfl) rfl hdp (Nat.zero_le _) (Nat.zero_le _) ((k1 c1) _ (fun z m' h => h))
  · refine X_aload_n dX9_readValue_66 rfl rfl ?_
    refine Y_iconst dX9_readValue_67 (by unfold i32; omega) ?_
    exact X_callV (As := [iV (2)]) (rest := []) (a' := 0) (b' := 0) dX9_readValue_68 t9_ofRace ml_9_452 h1 rfl rfl (Nat.le_of_ble_eq_true rfl) rfl hdp (Nat.zero_le _) (Nat.zero_le _) ((k2 c1) _ (fun z m' h => h))

theorem s9_readValue_71 {G : am_G} {dp a b : Nat} {m : am_M} {Q : am_Q} {i90 : Int} {r0 : Nat} {o1 : Option am_V}  (k1 : Q (.inl (some (iV (i90)))) m)  : X G dp a b M9_readValue 71 [some (rV (some r0)), o1] [iV (i90)] m Q := by
  exact X_iret dX9_readValue_71 rfl k1

theorem s9_readValue_76 {G : am_G} {dp a b : Nat} {m : am_M} {Q : am_Q} {i90 : Int} {r0 : Nat} {o1 : Option am_V} (hdp : 1 ≤ dp) (h1 : am_ob m r0 8) (k1 : ∀ Q' : am_Q, (∀ (m' : am_M), X G dp a b M9_readValue 81 [some (rV (some r0)), some (iV (i90))] [] m' Q → Q' (.inl none) m') → T G (dp - 1) 0 0 M9_pass [rV (some r0)] m Q')  : X G dp a b M9_readValue 76 [some (rV (some r0)), o1] [iV (i90)] m Q := by
  refine X_istore_n dX9_readValue_76 rfl (Nat.le_of_ble_eq_true rfl) ?_
  refine X_aload_n dX9_readValue_77 rfl rfl ?_
  exact X_callV (As := []) (rest := []) (a' := 0) (b' := 0) dX9_readValue_78 t9_pass ml_9_377 h1 rfl rfl (Nat.le_of_ble_eq_true rfl) rfl hdp (Nat.zero_le _) (Nat.zero_le _) (k1 _ (fun m' h => h))

theorem s9_readValue_81 {G : am_G} {dp a b : Nat} {m : am_M} {Q : am_Q} {i1 : Int} {r0 : Nat}  (k1 : Q (.inl (some (iV (i1)))) m)  : X G dp a b M9_readValue 81 [some (rV (some r0)), some (iV (i1))] [] m Q := by
  refine X_iload_n dX9_readValue_81 rfl rfl ?_
  exact X_iret dX9_readValue_82 rfl k1

theorem s9_valueOfWord_0 {G : am_G} {dp a b : Nat} {m : am_M} {Q : am_Q} {r0 : Nat} (hdp : 1 ≤ dp) (h1 : am_ob m r0 8) (k1 : ∀ Q' : am_Q, (∀ (z : Int) (m' : am_M), X G dp a b M9_valueOfWord 7 [some (rV (some r0))] [iV (z)] m' Q → Q' (.inl (some (iV (z)))) m') → T G (dp - 1) 0 0 M9_isWord [rV (some r0), sV (48)] m Q')  : X G dp a b M9_valueOfWord 0 [some (rV (some r0))] [] m Q := by
  refine X_aload_n dX9_valueOfWord_0 rfl rfl ?_
  refine X_ldcSw (j := 48) (tx := "blank") dX9_valueOfWord_1 rfl ?_
  exact X_callV (As := [sV (48)]) (rest := []) (a' := 0) (b' := 0) dX9_valueOfWord_4 t9_isWord ml_9_398 h1 rfl rfl (Nat.le_of_ble_eq_true rfl) rfl hdp (Nat.zero_le _) (Nat.zero_le _) (k1 _ (fun z m' h => h))

theorem s9_valueOfWord_7 {G : am_G} {dp a b : Nat} {m : am_M} {Q : am_Q} {i90 : Int} {r0 : Nat} (hdp : 1 ≤ dp) (h1 : am_ob m r0 8) (k1 : (i90 = 0) → ∀ Q' : am_Q, (∀ (z : Int) (m' : am_M), X G dp a b M9_valueOfWord 19 [some (rV (some r0))] [iV (z)] m' Q → Q' (.inl (some (iV (z)))) m') → T G (dp - 1) 0 0 M9_isWord [rV (some r0), sV (49)] m Q') (k2 : ¬ (i90 = 0) → Q (.inl (some (iV ((-1))))) m)  : X G dp a b M9_valueOfWord 7 [some (rV (some r0))] [iV (i90)] m Q := by
  refine X_if_eq (tgt := 12) dX9_valueOfWord_7 (by decide) (fun c1 => ?_) (fun c1 => ?_)
  · refine X_aload_n dX9_valueOfWord_12 rfl rfl ?_
    refine X_ldcSw (j := 49) (tx := "off") dX9_valueOfWord_13 rfl ?_
    exact X_callV (As := [sV (49)]) (rest := []) (a' := 0) (b' := 0) dX9_valueOfWord_16 t9_isWord ml_9_398 h1 rfl rfl (Nat.le_of_ble_eq_true rfl) rfl hdp (Nat.zero_le _) (Nat.zero_le _) ((k1 c1) _ (fun z m' h => h))
  · refine Y_iconst dX9_valueOfWord_10 (by unfold i32; omega) ?_
    exact X_iret dX9_valueOfWord_11 rfl (k2 c1)

theorem s9_valueOfWord_19 {G : am_G} {dp a b : Nat} {m : am_M} {Q : am_Q} {i90 : Int} {r0 : Nat} (hdp : 1 ≤ dp) (h1 : am_ob m r0 8) (k1 : (i90 = 0) → ∀ Q' : am_Q, (∀ (z : Int) (m' : am_M), X G dp a b M9_valueOfWord 32 [some (rV (some r0))] [iV (z)] m' Q → Q' (.inl (some (iV (z)))) m') → T G (dp - 1) 0 0 M9_isWord [rV (some r0), sV (61)] m Q') (k2 : ¬ (i90 = 0) → Q (.inl (some (iV ((-2))))) m)  : X G dp a b M9_valueOfWord 19 [some (rV (some r0))] [iV (i90)] m Q := by
  refine X_if_eq (tgt := 25) dX9_valueOfWord_19 (by decide) (fun c1 => ?_) (fun c1 => ?_)
  · refine X_aload_n dX9_valueOfWord_25 rfl rfl ?_
    refine X_ldcSw (j := 61) (tx := "number") dX9_valueOfWord_26 rfl ?_
    exact X_callV (As := [sV (61)]) (rest := []) (a' := 0) (b' := 0) dX9_valueOfWord_29 t9_isWord ml_9_398 h1 rfl rfl (Nat.le_of_ble_eq_true rfl) rfl hdp (Nat.zero_le _) (Nat.zero_le _) ((k1 c1) _ (fun z m' h => h))
  · refine Y_bipush dX9_valueOfWord_22 (by omega) ?_
    exact X_iret dX9_valueOfWord_24 rfl (k2 c1)

theorem s9_valueOfWord_32 {G : am_G} {dp a b : Nat} {m : am_M} {Q : am_Q} {i90 : Int} {r0 : Nat} (hdp : 1 ≤ dp) (h1 : am_ob m r0 8) (k1 : (i90 = 0) → ∀ Q' : am_Q, (∀ (z : Int) (m' : am_M), X G dp a b M9_valueOfWord 47 [some (rV (some r0))] [iV (z)] m' Q → Q' (.inl (some (iV (z)))) m') → T G (dp - 1) 0 0 M9_isWord [rV (some r0), sV (62)] m Q') (k2 : ¬ (i90 = 0) → Q (.inl (some (iV (m.1 r0 34)))) m)  : X G dp a b M9_valueOfWord 32 [some (rV (some r0))] [iV (i90)] m Q := by
  refine X_if_eq (tgt := 40) dX9_valueOfWord_32 (by decide) (fun c1 => ?_) (fun c1 => ?_)
  · refine X_aload_n dX9_valueOfWord_40 rfl rfl ?_
    refine X_ldcSw (j := 62) (tx := "times") dX9_valueOfWord_41 rfl ?_
    exact X_callV (As := [sV (62)]) (rest := []) (a' := 0) (b' := 0) dX9_valueOfWord_44 t9_isWord ml_9_398 h1 rfl rfl (Nat.le_of_ble_eq_true rfl) rfl hdp (Nat.zero_le _) (Nat.zero_le _) ((k1 c1) _ (fun z m' h => h))
  · refine X_aload_n dX9_valueOfWord_35 rfl rfl ?_
    refine X_getI dX9_valueOfWord_36 fl_9_447 (by decide) h1 ?_
    exact X_iret dX9_valueOfWord_39 rfl (k2 c1)

theorem s9_valueOfWord_47 {G : am_G} {dp a b : Nat} {m : am_M} {Q : am_Q} {i90 : Int} {r0 p1 : Nat} {n_p1 : Nat} (hdp : 1 ≤ dp) (h1 : am_ob m r0 8) (h2 : m.2.1 r0 19 = some p1) (h3 : am_ar m p1 100 n_p1) (k1 : ¬ (i90 = 0) → ¬ ((m.1 r0 34) = (-1)) → Q (.inl (some (iV (m.1 p1 (m.1 r0 34).toNat)))) m) (k2 : ¬ (i90 = 0) → ((m.1 r0 34) = (-1)) → Q (.inl (some (iV (0)))) m) (k3 : (i90 = 0) → ∀ Q' : am_Q, (∀ (m' : am_M), X G dp a b M9_valueOfWord 55 [some (rV (some r0))] [] m' Q → Q' (.inl none) m') → T G (dp - 1) 0 0 M9_wrong [rV (some r0), iV (1)] m Q') (h4 : ¬ (i90 = 0) → ¬ ((m.1 r0 34) = (-1)) → 0 ≤ m.1 r0 34 := by intros; first | omega | (dsimp only at *; omega)) (h5 : ¬ (i90 = 0) → ¬ ((m.1 r0 34) = (-1)) → m.1 r0 34 < (n_p1 : Int) := by intros; first | omega | (dsimp only at *; omega)) : X G dp a b M9_valueOfWord 47 [some (rV (some r0))] [iV (i90)] m Q := by
  refine X_if_ne (tgt := 57) dX9_valueOfWord_47 (by decide) (fun c1 => ?_) (fun c1 => ?_)
  · refine X_aload_n dX9_valueOfWord_57 rfl rfl ?_
    refine X_getI dX9_valueOfWord_58 fl_9_447 (by decide) h1 ?_
    refine Y_iconst dX9_valueOfWord_61 (by unfold i32; omega) ?_
    refine X_icmp_ne (tgt := 69) dX9_valueOfWord_62 (by decide) (fun c2 => ?_) (fun c2 => ?_)
    · refine X_aload_n dX9_valueOfWord_69 rfl rfl ?_
      refine X_getP dX9_valueOfWord_70 fl_9_53 rfl h1 ?_
      refine am_ptr h2 ?_
      refine X_aload_n dX9_valueOfWord_73 rfl rfl ?_
      refine X_getI dX9_valueOfWord_74 fl_9_447 (by decide) h1 ?_
      refine X_iald dX9_valueOfWord_77 h3 (h4 c1 c2) (h5 c1 c2) ?_
      exact X_iret dX9_valueOfWord_78 rfl (k1 c1 c2)
    · refine Y_iconst dX9_valueOfWord_65 (by unfold i32; omega) ?_
      refine X_goto (tgt := 78) dX9_valueOfWord_66 (by decide) ?_
      exact X_iret dX9_valueOfWord_78 rfl (k2 c1 c2)
  · refine X_aload_n dX9_valueOfWord_50 rfl rfl ?_
    refine Y_iconst dX9_valueOfWord_51 (by unfold i32; omega) ?_
    exact X_callV (As := [iV (1)]) (rest := []) (a' := 0) (b' := 0) dX9_valueOfWord_52 t9_wrong ml_9_374 h1 rfl rfl (Nat.le_of_ble_eq_true rfl) rfl hdp (Nat.zero_le _) (Nat.zero_le _) ((k3 c1) _ (fun m' h => h))

theorem s9_valueOfWord_55 {G : am_G} {dp a b : Nat} {m : am_M} {Q : am_Q} {r0 : Nat}  (k1 : Q (.inl (some (iV (0)))) m)  : X G dp a b M9_valueOfWord 55 [some (rV (some r0))] [] m Q := by
  refine Y_iconst dX9_valueOfWord_55 (by unfold i32; omega) ?_
  exact X_iret dX9_valueOfWord_56 rfl k1

theorem s9_goesIn_0 {G : am_G} {dp a b : Nat} {m : am_M} {Q : am_Q} {r0 : Nat} (hdp : 1 ≤ dp) (h1 : am_ob m r0 8) (k1 : ¬ ((m.1 r0 30) = 0) → X G dp a b M9_goesIn 21 [some (rV (some r0))] [] m Q) (k2 : ((m.1 r0 30) = 0) → ¬ ((m.1 r0 33) = 6) → X G dp a b M9_goesIn 21 [some (rV (some r0))] [] m Q) (k3 : ((m.1 r0 30) = 0) → ((m.1 r0 33) = 6) → ∀ Q' : am_Q, (∀ (m' : am_M), X G dp a b M9_goesIn 21 [some (rV (some r0))] [] m' Q → Q' (.inl none) m') → T G (dp - 1) 0 0 M9_wrong [rV (some r0), iV (3)] m Q')  : X G dp a b M9_goesIn 0 [some (rV (some r0))] [] m Q := by
  refine X_aload_n dX9_goesIn_0 rfl rfl ?_
  refine X_getI dX9_goesIn_1 fl_9_350 (by decide) h1 ?_
  refine X_if_ne (tgt := 21) dX9_goesIn_4 (by decide) (fun c1 => ?_) (fun c1 => ?_)
  · exact (k1 c1)
  · refine X_aload_n dX9_goesIn_7 rfl rfl ?_
    refine X_getI dX9_goesIn_8 fl_9_353 (by decide) h1 ?_
    refine Y_bipush dX9_goesIn_11 (by omega) ?_
    refine X_icmp_ne (tgt := 21) dX9_goesIn_13 (by decide) (fun c2 => ?_) (fun c2 => ?_)
    · exact (k2 c1 c2)
    · refine X_aload_n dX9_goesIn_16 rfl rfl ?_
      refine Y_iconst dX9_goesIn_17 (by unfold i32; omega) ?_
      exact X_callV (As := [iV (3)]) (rest := []) (a' := 0) (b' := 0) dX9_goesIn_18 t9_wrong ml_9_374 h1 rfl rfl (Nat.le_of_ble_eq_true rfl) rfl hdp (Nat.zero_le _) (Nat.zero_le _) ((k3 c1 c2) _ (fun m' h => h))

theorem s9_goesIn_21 {G : am_G} {dp a b : Nat} {m : am_M} {Q : am_Q} {r0 : Nat} (hdp : 1 ≤ dp) (h2 : am_obw m r0 8) (k1 : ∀ Q' : am_Q, (∀ (m' : am_M), X G dp a b M9_goesIn 35 [some (rV (some r0))] [] m' Q → Q' (.inl none) m') → T G (dp - 1) 0 0 M9_pass [rV (some r0)] ((u2 m.1 r0 33 (wr ((m.1 r0 33) + 1))), m.2.1, m.2.2) Q')  : X G dp a b M9_goesIn 21 [some (rV (some r0))] [] m Q := by
  refine X_aload_n dX9_goesIn_21 rfl rfl ?_
  refine X_dup dX9_goesIn_22 rfl ?_
  refine X_getI dX9_goesIn_23 fl_9_353 (by decide) (am_ow h2) ?_
  refine Y_iconst dX9_goesIn_26 (by unfold i32; omega) ?_
  refine X_iadd dX9_goesIn_27  ?_
  refine X_putI dX9_goesIn_28 fw_9_353 rfl h2 ?_
  refine X_aload_n dX9_goesIn_31 rfl rfl ?_
  exact X_callV (As := []) (rest := []) (a' := 0) (b' := 0) dX9_goesIn_32 t9_pass ml_9_377 (am_ow h2) rfl rfl (Nat.le_of_ble_eq_true rfl) rfl hdp (Nat.zero_le _) (Nat.zero_le _) (k1 _ (fun m' h => h))

theorem s9_goesIn_35 {G : am_G} {dp a b : Nat} {m : am_M} {Q : am_Q} {r0 : Nat}  (k1 : Q (.inl none) m)  : X G dp a b M9_goesIn 35 [some (rV (some r0))] [] m Q := by
  exact X_vret dX9_goesIn_35 rfl k1

theorem s9_readFact_0 {G : am_G} {dp a b : Nat} {m : am_M} {Q : am_Q} {r0 : Nat} {o1 o2 o3 : Option am_V} (hdp : 1 ≤ dp) (h1 : am_ob m r0 8) (k1 : ∀ Q' : am_Q, (∀ (z : Int) (m' : am_M), X G dp a b M9_readFact 7 [some (rV (some r0)), o1, o2, o3] [iV (z)] m' Q → Q' (.inl (some (iV (z)))) m') → T G (dp - 1) 0 0 M9_isWord [rV (some r0), sV (58)] m Q')  : X G dp a b M9_readFact 0 [some (rV (some r0)), o1, o2, o3] [] m Q := by
  refine X_aload_n dX9_readFact_0 rfl rfl ?_
  refine X_ldcSw (j := 58) (tx := "not") dX9_readFact_1 rfl ?_
  exact X_callV (As := [sV (58)]) (rest := []) (a' := 0) (b' := 0) dX9_readFact_4 t9_isWord ml_9_398 h1 rfl rfl (Nat.le_of_ble_eq_true rfl) rfl hdp (Nat.zero_le _) (Nat.zero_le _) (k1 _ (fun z m' h => h))

theorem s9_readFact_7 {G : am_G} {dp a b : Nat} {m : am_M} {Q : am_Q} {i90 : Int} {r0 : Nat} {o1 o2 o3 : Option am_V} (hdp : 1 ≤ dp) (h1 : am_ob m r0 8) (k1 : (i90 = 0) → ∀ Q' : am_Q, (∀ (z : Int) (m' : am_M), X G dp a b M9_readFact 45 [some (rV (some r0)), o1, o2, o3] [iV (z)] m' Q → Q' (.inl (some (iV (z)))) m') → T G (dp - 1) 0 0 M9_isSign [rV (some r0), iV (123)] m Q') (k2 : ¬ (i90 = 0) → ∀ Q' : am_Q, (∀ (m' : am_M), X G dp a b M9_readFact 14 [some (rV (some r0)), o1, o2, o3] [] m' Q → Q' (.inl none) m') → T G (dp - 1) 0 0 M9_goesIn [rV (some r0)] m Q')  : X G dp a b M9_readFact 7 [some (rV (some r0)), o1, o2, o3] [iV (i90)] m Q := by
  refine X_if_eq (tgt := 39) dX9_readFact_7 (by decide) (fun c1 => ?_) (fun c1 => ?_)
  · refine X_aload_n dX9_readFact_39 rfl rfl ?_
    refine Y_bipush dX9_readFact_40 (by omega) ?_
    exact X_callV (As := [iV (123)]) (rest := []) (a' := 0) (b' := 0) dX9_readFact_42 t9_isSign ml_9_371 h1 rfl rfl (Nat.le_of_ble_eq_true rfl) rfl hdp (Nat.zero_le _) (Nat.zero_le _) ((k1 c1) _ (fun z m' h => h))
  · refine X_aload_n dX9_readFact_10 rfl rfl ?_
    exact X_callV (As := []) (rest := []) (a' := 0) (b' := 0) dX9_readFact_11 t9_goesIn ml_9_464 h1 rfl rfl (Nat.le_of_ble_eq_true rfl) rfl hdp (Nat.zero_le _) (Nat.zero_le _) ((k2 c1) _ (fun m' h => h))

theorem s9_readFact_14 {G : am_G} {dp a b : Nat} {m : am_M} {Q : am_Q} {r0 : Nat} {o1 o2 o3 : Option am_V} (hdp : 1 ≤ dp) (h1 : am_ob m r0 8) (k1 : ∀ Q' : am_Q, (∀ (z : Int) (m' : am_M), X G dp a b M9_readFact 18 [some (rV (some r0)), o1, o2, o3] [iV (z)] m' Q → Q' (.inl (some (iV (z)))) m') → T G (dp - 1) 0 0 M9_readFact [rV (some r0)] m Q')  : X G dp a b M9_readFact 14 [some (rV (some r0)), o1, o2, o3] [] m Q := by
  refine X_aload_n dX9_readFact_14 rfl rfl ?_
  exact X_callV (As := []) (rest := []) (a' := 0) (b' := 0) dX9_readFact_15 t9_readFact ml_9_467 h1 rfl rfl (Nat.le_of_ble_eq_true rfl) rfl hdp (Nat.zero_le _) (Nat.zero_le _) (k1 _ (fun z m' h => h))

theorem s9_readFact_18 {G : am_G} {dp a b : Nat} {m : am_M} {Q : am_Q} {i90 : Int} {r0 : Nat} {o1 o2 o3 : Option am_V} (h2 : am_obw m r0 8) (k1 : ¬ (i90 = 0) → Q (.inl (some (iV (0)))) ((u2 m.1 r0 33 (wr ((m.1 r0 33) - 1))), m.2.1, m.2.2)) (k2 : (i90 = 0) → Q (.inl (some (iV (1)))) ((u2 m.1 r0 33 (wr ((m.1 r0 33) - 1))), m.2.1, m.2.2))  : X G dp a b M9_readFact 18 [some (rV (some r0)), o1, o2, o3] [iV (i90)] m Q := by
  refine X_istore_n dX9_readFact_18 rfl (Nat.le_of_ble_eq_true rfl) ?_
  refine X_aload_n dX9_readFact_19 rfl rfl ?_
  refine X_dup dX9_readFact_20 rfl ?_
  refine X_getI dX9_readFact_21 fl_9_353 (by decide) (am_ow h2) ?_
  refine Y_iconst dX9_readFact_24 (by unfold i32; omega) ?_
  refine X_isub dX9_readFact_25  ?_
  refine X_putI dX9_readFact_26 fw_9_353 rfl h2 ?_
  refine X_iload_n dX9_readFact_29 rfl rfl ?_
  refine X_if_ne (tgt := 37) dX9_readFact_30 (by decide) (fun c1 => ?_) (fun c1 => ?_)
  · refine Y_iconst dX9_readFact_37 (by unfold i32; omega) ?_
    exact X_zret dX9_readFact_38 rfl (by decide) (k1 c1)
  · refine Y_iconst dX9_readFact_33 (by unfold i32; omega) ?_
    refine X_goto (tgt := 38) dX9_readFact_34 (by decide) ?_
    exact X_zret dX9_readFact_38 rfl (by decide) (k2 c1)

theorem s9_readFact_45 {G : am_G} {dp a b : Nat} {m : am_M} {Q : am_Q} {i90 : Int} {r0 : Nat} {o1 o2 o3 : Option am_V} (hdp : 1 ≤ dp) (h1 : am_ob m r0 8) (k1 : (i90 = 0) → ∀ Q' : am_Q, (∀ (z : Int) (m' : am_M), X G dp a b M9_readFact 79 [some (rV (some r0)), o1, o2, o3] [iV (z)] m' Q → Q' (.inl (some (iV (z)))) m') → T G (dp - 1) 0 0 M9_readValue [rV (some r0)] m Q') (k2 : ¬ (i90 = 0) → ∀ Q' : am_Q, (∀ (m' : am_M), X G dp a b M9_readFact 52 [some (rV (some r0)), o1, o2, o3] [] m' Q → Q' (.inl none) m') → T G (dp - 1) 0 0 M9_goesIn [rV (some r0)] m Q')  : X G dp a b M9_readFact 45 [some (rV (some r0)), o1, o2, o3] [iV (i90)] m Q := by
  refine X_if_eq (tgt := 75) dX9_readFact_45 (by decide) (fun c1 => ?_) (fun c1 => ?_)
  · refine X_aload_n dX9_readFact_75 rfl rfl ?_
    exact X_callV (As := []) (rest := []) (a' := 0) (b' := 0) dX9_readFact_76 t9_readValue ml_9_473 h1 rfl rfl (Nat.le_of_ble_eq_true rfl) rfl hdp (Nat.zero_le _) (Nat.zero_le _) ((k1 c1) _ (fun z m' h => h))
  · refine X_aload_n dX9_readFact_48 rfl rfl ?_
    exact X_callV (As := []) (rest := []) (a' := 0) (b' := 0) dX9_readFact_49 t9_goesIn ml_9_464 h1 rfl rfl (Nat.le_of_ble_eq_true rfl) rfl hdp (Nat.zero_le _) (Nat.zero_le _) ((k2 c1) _ (fun m' h => h))

theorem s9_readFact_52 {G : am_G} {dp a b : Nat} {m : am_M} {Q : am_Q} {r0 : Nat} {o1 o2 o3 : Option am_V} (hdp : 1 ≤ dp) (h1 : am_ob m r0 8) (k1 : ∀ Q' : am_Q, (∀ (z : Int) (m' : am_M), X G dp a b M9_readFact 56 [some (rV (some r0)), o1, o2, o3] [iV (z)] m' Q → Q' (.inl (some (iV (z)))) m') → T G (dp - 1) 0 0 M9_readTest [rV (some r0)] m Q')  : X G dp a b M9_readFact 52 [some (rV (some r0)), o1, o2, o3] [] m Q := by
  refine X_aload_n dX9_readFact_52 rfl rfl ?_
  exact X_callV (As := []) (rest := []) (a' := 0) (b' := 0) dX9_readFact_53 t9_readTest ml_9_470 h1 rfl rfl (Nat.le_of_ble_eq_true rfl) rfl hdp (Nat.zero_le _) (Nat.zero_le _) (k1 _ (fun z m' h => h))

theorem s9_readFact_56 {G : am_G} {dp a b : Nat} {m : am_M} {Q : am_Q} {i90 : Int} {r0 : Nat} {o1 o2 o3 : Option am_V} (hdp : 1 ≤ dp) (h1 : am_ob m r0 8) (k1 : ∀ Q' : am_Q, (∀ (m' : am_M), X G dp a b M9_readFact 63 [some (rV (some r0)), some (iV (i90)), o2, o3] [] m' Q → Q' (.inl none) m') → T G (dp - 1) 0 0 M9_must [rV (some r0), iV (125)] m Q')  : X G dp a b M9_readFact 56 [some (rV (some r0)), o1, o2, o3] [iV (i90)] m Q := by
  refine X_istore_n dX9_readFact_56 rfl (Nat.le_of_ble_eq_true rfl) ?_
  refine X_aload_n dX9_readFact_57 rfl rfl ?_
  refine Y_bipush dX9_readFact_58 (by omega) ?_
  exact X_callV (As := [iV (125)]) (rest := []) (a' := 0) (b' := 0) dX9_readFact_60 t9_must ml_9_393 h1 rfl rfl (Nat.le_of_ble_eq_true rfl) rfl hdp (Nat.zero_le _) (Nat.zero_le _) (k1 _ (fun m' h => h))

theorem s9_readFact_63 {G : am_G} {dp a b : Nat} {m : am_M} {Q : am_Q} {i1 : Int} {r0 : Nat} {o2 o3 : Option am_V} (h2 : am_obw m r0 8) (k1 : Q (.inl (some (iV (i1)))) ((u2 m.1 r0 33 (wr ((m.1 r0 33) - 1))), m.2.1, m.2.2)) (h3 : i1 = 0 ∨ i1 = 1 := by intros; first | omega | (dsimp only at *; omega)) : X G dp a b M9_readFact 63 [some (rV (some r0)), some (iV (i1)), o2, o3] [] m Q := by
  refine X_aload_n dX9_readFact_63 rfl rfl ?_
  refine X_dup dX9_readFact_64 rfl ?_
  refine X_getI dX9_readFact_65 fl_9_353 (by decide) (am_ow h2) ?_
  refine Y_iconst dX9_readFact_68 (by unfold i32; omega) ?_
  refine X_isub dX9_readFact_69  ?_
  refine X_putI dX9_readFact_70 fw_9_353 rfl h2 ?_
  refine X_iload_n dX9_readFact_73 rfl rfl ?_
  exact X_zret dX9_readFact_74 rfl h3 k1

theorem s9_readFact_79 {G : am_G} {dp a b : Nat} {m : am_M} {Q : am_Q} {i90 : Int} {r0 : Nat} {o1 o2 o3 : Option am_V} (hdp : 1 ≤ dp) (h1 : am_ob m r0 8) (k1 : ∀ Q' : am_Q, (∀ (z : Int) (m' : am_M), X G dp a b M9_readFact 86 [some (rV (some r0)), some (iV (i90)), o2, o3] [iV (z)] m' Q → Q' (.inl (some (iV (z)))) m') → T G (dp - 1) 0 0 M9_isSign [rV (some r0), iV (60)] m Q')  : X G dp a b M9_readFact 79 [some (rV (some r0)), o1, o2, o3] [iV (i90)] m Q := by
  refine X_istore_n dX9_readFact_79 rfl (Nat.le_of_ble_eq_true rfl) ?_
  refine X_aload_n dX9_readFact_80 rfl rfl ?_
  refine Y_bipush dX9_readFact_81 (by omega) ?_
  exact X_callV (As := [iV (60)]) (rest := []) (a' := 0) (b' := 0) dX9_readFact_83 t9_isSign ml_9_371 h1 rfl rfl (Nat.le_of_ble_eq_true rfl) rfl hdp (Nat.zero_le _) (Nat.zero_le _) (k1 _ (fun z m' h => h))

theorem s9_readFact_86 {G : am_G} {dp a b : Nat} {m : am_M} {Q : am_Q} {i1 i90 : Int} {r0 : Nat} {o2 o3 : Option am_V} (hdp : 1 ≤ dp) (h1 : am_ob m r0 8) (k1 : (i90 = 0) → ∀ Q' : am_Q, (∀ (z : Int) (m' : am_M), X G dp a b M9_readFact 99 [some (rV (some r0)), some (iV (i1)), o2, o3] [iV (z)] m' Q → Q' (.inl (some (iV (z)))) m') → T G (dp - 1) 0 0 M9_isSign [rV (some r0), iV (61)] m Q') (k2 : ¬ (i90 = 0) → X G dp a b M9_readFact 131 [some (rV (some r0)), some (iV (i1)), some (iV ((-1))), o3] [] m Q)  : X G dp a b M9_readFact 86 [some (rV (some r0)), some (iV (i1)), o2, o3] [iV (i90)] m Q := by
  refine X_if_eq (tgt := 93) dX9_readFact_86 (by decide) (fun c1 => ?_) (fun c1 => ?_)
  · refine X_aload_n dX9_readFact_93 rfl rfl ?_
    refine Y_bipush dX9_readFact_94 (by omega) ?_
    exact X_callV (As := [iV (61)]) (rest := []) (a' := 0) (b' := 0) dX9_readFact_96 t9_isSign ml_9_371 h1 rfl rfl (Nat.le_of_ble_eq_true rfl) rfl hdp (Nat.zero_le _) (Nat.zero_le _) ((k1 c1) _ (fun z m' h => h))
  · refine Y_iconst dX9_readFact_89 (by unfold i32; omega) ?_
    refine X_goto (tgt := 120) dX9_readFact_90 (by decide) ?_
    refine X_istore_n dX9_readFact_120 rfl (Nat.le_of_ble_eq_true rfl) ?_
    refine X_iload_n dX9_readFact_121 rfl rfl ?_
    refine Y_iconst dX9_readFact_122 (by unfold i32; omega) ?_
    refine X_icmp_ne (tgt := 131) dX9_readFact_123 (by decide) (fun _ => ?_) (fun c => False.elim (by revert c; decide))
    exact (k2 c1)

theorem s9_readFact_99 {G : am_G} {dp a b : Nat} {m : am_M} {Q : am_Q} {i1 i90 : Int} {r0 : Nat} {o2 o3 : Option am_V} (hdp : 1 ≤ dp) (h1 : am_ob m r0 8) (k1 : (i90 = 0) → ∀ Q' : am_Q, (∀ (z : Int) (m' : am_M), X G dp a b M9_readFact 112 [some (rV (some r0)), some (iV (i1)), o2, o3] [iV (z)] m' Q → Q' (.inl (some (iV (z)))) m') → T G (dp - 1) 0 0 M9_isSign [rV (some r0), iV (62)] m Q') (k2 : ¬ (i90 = 0) → X G dp a b M9_readFact 131 [some (rV (some r0)), some (iV (i1)), some (iV (0)), o3] [] m Q)  : X G dp a b M9_readFact 99 [some (rV (some r0)), some (iV (i1)), o2, o3] [iV (i90)] m Q := by
  refine X_if_eq (tgt := 106) dX9_readFact_99 (by decide) (fun c1 => ?_) (fun c1 => ?_)
  · refine X_aload_n dX9_readFact_106 rfl rfl ?_
    refine Y_bipush dX9_readFact_107 (by omega) ?_
    exact X_callV (As := [iV (62)]) (rest := []) (a' := 0) (b' := 0) dX9_readFact_109 t9_isSign ml_9_371 h1 rfl rfl (Nat.le_of_ble_eq_true rfl) rfl hdp (Nat.zero_le _) (Nat.zero_le _) ((k1 c1) _ (fun z m' h => h))
  · refine Y_iconst dX9_readFact_102 (by unfold i32; omega) ?_
    refine X_goto (tgt := 120) dX9_readFact_103 (by decide) ?_
    refine X_istore_n dX9_readFact_120 rfl (Nat.le_of_ble_eq_true rfl) ?_
    refine X_iload_n dX9_readFact_121 rfl rfl ?_
    refine Y_iconst dX9_readFact_122 (by unfold i32; omega) ?_
    refine X_icmp_ne (tgt := 131) dX9_readFact_123 (by decide) (fun _ => ?_) (fun c => False.elim (by revert c; decide))
    exact (k2 c1)

theorem s9_readFact_112 {G : am_G} {dp a b : Nat} {m : am_M} {Q : am_Q} {i1 i90 : Int} {r0 : Nat} {o2 o3 : Option am_V} (hdp : 1 ≤ dp) (h1 : am_ob m r0 8) (k1 : (i90 = 0) → ∀ Q' : am_Q, (∀ (m' : am_M), X G dp a b M9_readFact 131 [some (rV (some r0)), some (iV (i1)), some (iV (2)), o3] [] m' Q → Q' (.inl none) m') → T G (dp - 1) 0 0 M9_wrong [rV (some r0), iV (1)] m Q') (k2 : ¬ (i90 = 0) → X G dp a b M9_readFact 131 [some (rV (some r0)), some (iV (i1)), some (iV (1)), o3] [] m Q)  : X G dp a b M9_readFact 112 [some (rV (some r0)), some (iV (i1)), o2, o3] [iV (i90)] m Q := by
  refine X_if_eq (tgt := 119) dX9_readFact_112 (by decide) (fun c1 => ?_) (fun c1 => ?_)
  · refine Y_iconst dX9_readFact_119 (by unfold i32; omega) ?_
    refine X_istore_n dX9_readFact_120 rfl (Nat.le_of_ble_eq_true rfl) ?_
    refine X_iload_n dX9_readFact_121 rfl rfl ?_
    refine Y_iconst dX9_readFact_122 (by unfold i32; omega) ?_
    refine X_icmp_ne (tgt := 131) dX9_readFact_123 (by decide) (fun c => False.elim (by revert c; decide)) (fun _ => ?_)
    refine X_aload_n dX9_readFact_126 rfl rfl ?_
    refine Y_iconst dX9_readFact_127 (by unfold i32; omega) ?_
    exact X_callV (As := [iV (1)]) (rest := []) (a' := 0) (b' := 0) dX9_readFact_128 t9_wrong ml_9_374 h1 rfl rfl (Nat.le_of_ble_eq_true rfl) rfl hdp (Nat.zero_le _) (Nat.zero_le _) ((k1 c1) _ (fun m' h => h))
  · refine Y_iconst dX9_readFact_115 (by unfold i32; omega) ?_
    refine X_goto (tgt := 120) dX9_readFact_116 (by decide) ?_
    refine X_istore_n dX9_readFact_120 rfl (Nat.le_of_ble_eq_true rfl) ?_
    refine X_iload_n dX9_readFact_121 rfl rfl ?_
    refine Y_iconst dX9_readFact_122 (by unfold i32; omega) ?_
    refine X_icmp_ne (tgt := 131) dX9_readFact_123 (by decide) (fun _ => ?_) (fun c => False.elim (by revert c; decide))
    exact (k2 c1)

theorem s9_readFact_131 {G : am_G} {dp a b : Nat} {m : am_M} {Q : am_Q} {i1 i2 : Int} {r0 : Nat} {o3 : Option am_V} (hdp : 1 ≤ dp) (h1 : am_ob m r0 8) (k1 : ∀ Q' : am_Q, (∀ (m' : am_M), X G dp a b M9_readFact 135 [some (rV (some r0)), some (iV (i1)), some (iV (i2)), o3] [] m' Q → Q' (.inl none) m') → T G (dp - 1) 0 0 M9_pass [rV (some r0)] m Q')  : X G dp a b M9_readFact 131 [some (rV (some r0)), some (iV (i1)), some (iV (i2)), o3] [] m Q := by
  refine X_aload_n dX9_readFact_131 rfl rfl ?_
  exact X_callV (As := []) (rest := []) (a' := 0) (b' := 0) dX9_readFact_132 t9_pass ml_9_377 h1 rfl rfl (Nat.le_of_ble_eq_true rfl) rfl hdp (Nat.zero_le _) (Nat.zero_le _) (k1 _ (fun m' h => h))

theorem s9_readFact_135 {G : am_G} {dp a b : Nat} {m : am_M} {Q : am_Q} {i1 i2 : Int} {r0 : Nat} {o3 : Option am_V} (hdp : 1 ≤ dp) (h1 : am_ob m r0 8) (k1 : ∀ Q' : am_Q, (∀ (z : Int) (m' : am_M), X G dp a b M9_readFact 139 [some (rV (some r0)), some (iV (i1)), some (iV (i2)), o3] [iV (z)] m' Q → Q' (.inl (some (iV (z)))) m') → T G (dp - 1) 0 0 M9_readValue [rV (some r0)] m Q')  : X G dp a b M9_readFact 135 [some (rV (some r0)), some (iV (i1)), some (iV (i2)), o3] [] m Q := by
  refine X_aload_n dX9_readFact_135 rfl rfl ?_
  exact X_callV (As := []) (rest := []) (a' := 0) (b' := 0) dX9_readFact_136 t9_readValue ml_9_473 h1 rfl rfl (Nat.le_of_ble_eq_true rfl) rfl hdp (Nat.zero_le _) (Nat.zero_le _) (k1 _ (fun z m' h => h))

theorem s9_readFact_139 {G : am_G} {dp a b : Nat} {m : am_M} {Q : am_Q} {i1 i2 i90 : Int} {r0 : Nat} {o3 : Option am_V}  (k1 : (0 ≤ i2) → ¬ (i2 = 0) → (i1 ≤ i90) → Q (.inl (some (iV (0)))) m) (k2 : (0 ≤ i2) → ¬ (i2 = 0) → ¬ (i1 ≤ i90) → Q (.inl (some (iV (1)))) m) (k3 : (0 ≤ i2) → (i2 = 0) → ¬ (i1 = i90) → Q (.inl (some (iV (0)))) m) (k4 : (0 ≤ i2) → (i2 = 0) → (i1 = i90) → Q (.inl (some (iV (1)))) m) (k5 : ¬ (0 ≤ i2) → (i90 ≤ i1) → Q (.inl (some (iV (0)))) m) (k6 : ¬ (0 ≤ i2) → ¬ (i90 ≤ i1) → Q (.inl (some (iV (1)))) m)  : X G dp a b M9_readFact 139 [some (rV (some r0)), some (iV (i1)), some (iV (i2)), o3] [iV (i90)] m Q := by
  refine X_istore_n dX9_readFact_139 rfl (Nat.le_of_ble_eq_true rfl) ?_
  refine X_iload_n dX9_readFact_140 rfl rfl ?_
  refine X_if_ge (tgt := 157) dX9_readFact_141 (by decide) (fun c1 => ?_) (fun c1 => ?_)
  · refine X_iload_n dX9_readFact_157 rfl rfl ?_
    refine X_if_ne (tgt := 174) dX9_readFact_158 (by decide) (fun c2 => ?_) (fun c2 => ?_)
    · refine X_iload_n dX9_readFact_174 rfl rfl ?_
      refine X_iload_n dX9_readFact_175 rfl rfl ?_
      refine X_icmp_le (tgt := 183) dX9_readFact_176 (by decide) (fun c3 => ?_) (fun c3 => ?_)
      · refine Y_iconst dX9_readFact_183 (by unfold i32; omega) ?_
        exact X_zret dX9_readFact_184 rfl (by decide) (k1 c1 c2 c3)
      · refine Y_iconst dX9_readFact_179 (by unfold i32; omega) ?_
        refine X_goto (tgt := 184) dX9_readFact_180 (by decide) ?_
        exact X_zret dX9_readFact_184 rfl (by decide) (k2 c1 c2 c3)
    · refine X_iload_n dX9_readFact_161 rfl rfl ?_
      refine X_iload_n dX9_readFact_162 rfl rfl ?_
      refine X_icmp_ne (tgt := 170) dX9_readFact_163 (by decide) (fun c4 => ?_) (fun c4 => ?_)
      · refine Y_iconst dX9_readFact_170 (by unfold i32; omega) ?_
        refine X_goto (tgt := 184) dX9_readFact_171 (by decide) ?_
        exact X_zret dX9_readFact_184 rfl (by decide) (k3 c1 c2 c4)
      · refine Y_iconst dX9_readFact_166 (by unfold i32; omega) ?_
        refine X_goto (tgt := 184) dX9_readFact_167 (by decide) ?_
        exact X_zret dX9_readFact_184 rfl (by decide) (k4 c1 c2 c4)
  · refine X_iload_n dX9_readFact_144 rfl rfl ?_
    refine X_iload_n dX9_readFact_145 rfl rfl ?_
    refine X_icmp_ge (tgt := 153) dX9_readFact_146 (by decide) (fun c5 => ?_) (fun c5 => ?_)
    · refine Y_iconst dX9_readFact_153 (by unfold i32; omega) ?_
      refine X_goto (tgt := 184) dX9_readFact_154 (by decide) ?_
      exact X_zret dX9_readFact_184 rfl (by decide) (k5 c1 c5)
    · refine Y_iconst dX9_readFact_149 (by unfold i32; omega) ?_
      refine X_goto (tgt := 184) dX9_readFact_150 (by decide) ?_
      exact X_zret dX9_readFact_184 rfl (by decide) (k6 c1 c5)

theorem s9_readBoth_0 {G : am_G} {dp a b : Nat} {m : am_M} {Q : am_Q} {r0 : Nat} {o1 o2 : Option am_V} (hdp : 1 ≤ dp) (h1 : am_ob m r0 8) (k1 : ∀ Q' : am_Q, (∀ (z : Int) (m' : am_M), X G dp a b M9_readBoth 4 [some (rV (some r0)), o1, o2] [iV (z)] m' Q → Q' (.inl (some (iV (z)))) m') → T G (dp - 1) 0 0 M9_readFact [rV (some r0)] m Q')  : X G dp a b M9_readBoth 0 [some (rV (some r0)), o1, o2] [] m Q := by
  refine X_aload_n dX9_readBoth_0 rfl rfl ?_
  exact X_callV (As := []) (rest := []) (a' := 0) (b' := 0) dX9_readBoth_1 t9_readFact ml_9_467 h1 rfl rfl (Nat.le_of_ble_eq_true rfl) rfl hdp (Nat.zero_le _) (Nat.zero_le _) (k1 _ (fun z m' h => h))

theorem s9_readBoth_4 {G : am_G} {dp a b : Nat} {m : am_M} {Q : am_Q} {i90 : Int} {r0 : Nat} {o1 o2 : Option am_V}  (k1 : X G dp a b M9_readBoth 5 [some (rV (some r0)), some (iV (i90)), o2] [] m Q)  : X G dp a b M9_readBoth 4 [some (rV (some r0)), o1, o2] [iV (i90)] m Q := by
  refine X_istore_n dX9_readBoth_4 rfl (Nat.le_of_ble_eq_true rfl) ?_
  exact k1

theorem s9_readBoth_5 {G : am_G} {dp a b : Nat} {m : am_M} {Q : am_Q} {i1 : Int} {r0 : Nat} {o2 : Option am_V} (hdp : 1 ≤ dp) (h1 : am_ob m r0 8) (k1 : ∀ Q' : am_Q, (∀ (z : Int) (m' : am_M), X G dp a b M9_readBoth 12 [some (rV (some r0)), some (iV (i1)), o2] [iV (z)] m' Q → Q' (.inl (some (iV (z)))) m') → T G (dp - 1) 0 0 M9_isWord [rV (some r0), sV (63)] m Q')  : X G dp a b M9_readBoth 5 [some (rV (some r0)), some (iV (i1)), o2] [] m Q := by
  refine X_aload_n dX9_readBoth_5 rfl rfl ?_
  refine X_ldcSw (j := 63) (tx := "and") dX9_readBoth_6 rfl ?_
  exact X_callV (As := [sV (63)]) (rest := []) (a' := 0) (b' := 0) dX9_readBoth_9 t9_isWord ml_9_398 h1 rfl rfl (Nat.le_of_ble_eq_true rfl) rfl hdp (Nat.zero_le _) (Nat.zero_le _) (k1 _ (fun z m' h => h))

theorem s9_readBoth_12 {G : am_G} {dp a b : Nat} {m : am_M} {Q : am_Q} {i1 i90 : Int} {r0 : Nat} {o2 : Option am_V} (hdp : 1 ≤ dp) (h2 : am_ob m r0 8) (k1 : (i90 = 0) → Q (.inl (some (iV (i1)))) m) (k2 : ¬ (i90 = 0) → ∀ Q' : am_Q, (∀ (m' : am_M), X G dp a b M9_readBoth 19 [some (rV (some r0)), some (iV (i1)), o2] [] m' Q → Q' (.inl none) m') → T G (dp - 1) 0 0 M9_pass [rV (some r0)] m Q') (h1 : i90 = 0 → i1 = 0 ∨ i1 = 1 := by intros; first | omega | (dsimp only at *; omega)) : X G dp a b M9_readBoth 12 [some (rV (some r0)), some (iV (i1)), o2] [iV (i90)] m Q := by
  refine X_if_eq (tgt := 41) dX9_readBoth_12 (by decide) (fun c1 => ?_) (fun c1 => ?_)
  · refine X_iload_n dX9_readBoth_41 rfl rfl ?_
    exact X_zret dX9_readBoth_42 rfl (h1 c1) (k1 c1)
  · refine X_aload_n dX9_readBoth_15 rfl rfl ?_
    exact X_callV (As := []) (rest := []) (a' := 0) (b' := 0) dX9_readBoth_16 t9_pass ml_9_377 h2 rfl rfl (Nat.le_of_ble_eq_true rfl) rfl hdp (Nat.zero_le _) (Nat.zero_le _) ((k2 c1) _ (fun m' h => h))

theorem s9_readBoth_19 {G : am_G} {dp a b : Nat} {m : am_M} {Q : am_Q} {i1 : Int} {r0 : Nat} {o2 : Option am_V} (hdp : 1 ≤ dp) (h1 : am_ob m r0 8) (k1 : ∀ Q' : am_Q, (∀ (z : Int) (m' : am_M), X G dp a b M9_readBoth 23 [some (rV (some r0)), some (iV (i1)), o2] [iV (z)] m' Q → Q' (.inl (some (iV (z)))) m') → T G (dp - 1) 0 0 M9_readFact [rV (some r0)] m Q')  : X G dp a b M9_readBoth 19 [some (rV (some r0)), some (iV (i1)), o2] [] m Q := by
  refine X_aload_n dX9_readBoth_19 rfl rfl ?_
  exact X_callV (As := []) (rest := []) (a' := 0) (b' := 0) dX9_readBoth_20 t9_readFact ml_9_467 h1 rfl rfl (Nat.le_of_ble_eq_true rfl) rfl hdp (Nat.zero_le _) (Nat.zero_le _) (k1 _ (fun z m' h => h))

theorem s9_readBoth_23 {G : am_G} {dp a b : Nat} {m : am_M} {Q : am_Q} {i1 i90 : Int} {r0 : Nat} {o2 : Option am_V}  (k1 : (i1 = 0) → X G dp a b M9_readBoth 5 [some (rV (some r0)), some (iV (0)), some (iV (i90))] [] m Q) (k2 : ¬ (i1 = 0) → (i90 = 0) → X G dp a b M9_readBoth 5 [some (rV (some r0)), some (iV (0)), some (iV (i90))] [] m Q) (k3 : ¬ (i1 = 0) → ¬ (i90 = 0) → X G dp a b M9_readBoth 5 [some (rV (some r0)), some (iV (1)), some (iV (i90))] [] m Q)  : X G dp a b M9_readBoth 23 [some (rV (some r0)), some (iV (i1)), o2] [iV (i90)] m Q := by
  refine X_istore_n dX9_readBoth_23 rfl (Nat.le_of_ble_eq_true rfl) ?_
  refine X_iload_n dX9_readBoth_24 rfl rfl ?_
  refine X_if_eq (tgt := 36) dX9_readBoth_25 (by decide) (fun c1 => ?_) (fun c1 => ?_)
  · refine Y_iconst dX9_readBoth_36 (by unfold i32; omega) ?_
    refine X_istore_n dX9_readBoth_37 rfl (Nat.le_of_ble_eq_true rfl) ?_
    refine X_goto (tgt := 5) dX9_readBoth_38 (by decide) ?_
    exact (k1 c1)
  · refine X_iload_n dX9_readBoth_28 rfl rfl ?_
    refine X_if_eq (tgt := 36) dX9_readBoth_29 (by decide) (fun c2 => ?_) (fun c2 => ?_)
    · refine Y_iconst dX9_readBoth_36 (by unfold i32; omega) ?_
      refine X_istore_n dX9_readBoth_37 rfl (Nat.le_of_ble_eq_true rfl) ?_
      refine X_goto (tgt := 5) dX9_readBoth_38 (by decide) ?_
      exact (k2 c1 c2)
    · refine Y_iconst dX9_readBoth_32 (by unfold i32; omega) ?_
      refine X_goto (tgt := 37) dX9_readBoth_33 (by decide) ?_
      refine X_istore_n dX9_readBoth_37 rfl (Nat.le_of_ble_eq_true rfl) ?_
      refine X_goto (tgt := 5) dX9_readBoth_38 (by decide) ?_
      exact (k3 c1 c2)

theorem s9_readTest_0 {G : am_G} {dp a b : Nat} {m : am_M} {Q : am_Q} {r0 : Nat} {o1 o2 : Option am_V} (hdp : 1 ≤ dp) (h1 : am_ob m r0 8) (k1 : ∀ Q' : am_Q, (∀ (z : Int) (m' : am_M), X G dp a b M9_readTest 4 [some (rV (some r0)), o1, o2] [iV (z)] m' Q → Q' (.inl (some (iV (z)))) m') → T G (dp - 1) 0 0 M9_readBoth [rV (some r0)] m Q')  : X G dp a b M9_readTest 0 [some (rV (some r0)), o1, o2] [] m Q := by
  refine X_aload_n dX9_readTest_0 rfl rfl ?_
  exact X_callV (As := []) (rest := []) (a' := 0) (b' := 0) dX9_readTest_1 t9_readBoth ml_9_478 h1 rfl rfl (Nat.le_of_ble_eq_true rfl) rfl hdp (Nat.zero_le _) (Nat.zero_le _) (k1 _ (fun z m' h => h))

theorem s9_readTest_4 {G : am_G} {dp a b : Nat} {m : am_M} {Q : am_Q} {i90 : Int} {r0 : Nat} {o1 o2 : Option am_V}  (k1 : X G dp a b M9_readTest 5 [some (rV (some r0)), some (iV (i90)), o2] [] m Q)  : X G dp a b M9_readTest 4 [some (rV (some r0)), o1, o2] [iV (i90)] m Q := by
  refine X_istore_n dX9_readTest_4 rfl (Nat.le_of_ble_eq_true rfl) ?_
  exact k1

theorem s9_readTest_5 {G : am_G} {dp a b : Nat} {m : am_M} {Q : am_Q} {i1 : Int} {r0 : Nat} {o2 : Option am_V} (hdp : 1 ≤ dp) (h1 : am_ob m r0 8) (k1 : ∀ Q' : am_Q, (∀ (z : Int) (m' : am_M), X G dp a b M9_readTest 12 [some (rV (some r0)), some (iV (i1)), o2] [iV (z)] m' Q → Q' (.inl (some (iV (z)))) m') → T G (dp - 1) 0 0 M9_isWord [rV (some r0), sV (64)] m Q')  : X G dp a b M9_readTest 5 [some (rV (some r0)), some (iV (i1)), o2] [] m Q := by
  refine X_aload_n dX9_readTest_5 rfl rfl ?_
  refine X_ldcSw (j := 64) (tx := "or") dX9_readTest_6 rfl ?_
  exact X_callV (As := [sV (64)]) (rest := []) (a' := 0) (b' := 0) dX9_readTest_9 t9_isWord ml_9_398 h1 rfl rfl (Nat.le_of_ble_eq_true rfl) rfl hdp (Nat.zero_le _) (Nat.zero_le _) (k1 _ (fun z m' h => h))

theorem s9_readTest_12 {G : am_G} {dp a b : Nat} {m : am_M} {Q : am_Q} {i1 i90 : Int} {r0 : Nat} {o2 : Option am_V} (hdp : 1 ≤ dp) (h2 : am_ob m r0 8) (k1 : (i90 = 0) → Q (.inl (some (iV (i1)))) m) (k2 : ¬ (i90 = 0) → ∀ Q' : am_Q, (∀ (m' : am_M), X G dp a b M9_readTest 19 [some (rV (some r0)), some (iV (i1)), o2] [] m' Q → Q' (.inl none) m') → T G (dp - 1) 0 0 M9_pass [rV (some r0)] m Q') (h1 : i90 = 0 → i1 = 0 ∨ i1 = 1 := by intros; first | omega | (dsimp only at *; omega)) : X G dp a b M9_readTest 12 [some (rV (some r0)), some (iV (i1)), o2] [iV (i90)] m Q := by
  refine X_if_eq (tgt := 41) dX9_readTest_12 (by decide) (fun c1 => ?_) (fun c1 => ?_)
  · refine X_iload_n dX9_readTest_41 rfl rfl ?_
    exact X_zret dX9_readTest_42 rfl (h1 c1) (k1 c1)
  · refine X_aload_n dX9_readTest_15 rfl rfl ?_
    exact X_callV (As := []) (rest := []) (a' := 0) (b' := 0) dX9_readTest_16 t9_pass ml_9_377 h2 rfl rfl (Nat.le_of_ble_eq_true rfl) rfl hdp (Nat.zero_le _) (Nat.zero_le _) ((k2 c1) _ (fun m' h => h))

theorem s9_readTest_19 {G : am_G} {dp a b : Nat} {m : am_M} {Q : am_Q} {i1 : Int} {r0 : Nat} {o2 : Option am_V} (hdp : 1 ≤ dp) (h1 : am_ob m r0 8) (k1 : ∀ Q' : am_Q, (∀ (z : Int) (m' : am_M), X G dp a b M9_readTest 23 [some (rV (some r0)), some (iV (i1)), o2] [iV (z)] m' Q → Q' (.inl (some (iV (z)))) m') → T G (dp - 1) 0 0 M9_readBoth [rV (some r0)] m Q')  : X G dp a b M9_readTest 19 [some (rV (some r0)), some (iV (i1)), o2] [] m Q := by
  refine X_aload_n dX9_readTest_19 rfl rfl ?_
  exact X_callV (As := []) (rest := []) (a' := 0) (b' := 0) dX9_readTest_20 t9_readBoth ml_9_478 h1 rfl rfl (Nat.le_of_ble_eq_true rfl) rfl hdp (Nat.zero_le _) (Nat.zero_le _) (k1 _ (fun z m' h => h))

theorem s9_readTest_23 {G : am_G} {dp a b : Nat} {m : am_M} {Q : am_Q} {i1 i90 : Int} {r0 : Nat} {o2 : Option am_V}  (k1 : ¬ (i1 = 0) → X G dp a b M9_readTest 5 [some (rV (some r0)), some (iV (1)), some (iV (i90))] [] m Q) (k2 : (i1 = 0) → (i90 = 0) → X G dp a b M9_readTest 5 [some (rV (some r0)), some (iV (0)), some (iV (i90))] [] m Q) (k3 : (i1 = 0) → ¬ (i90 = 0) → X G dp a b M9_readTest 5 [some (rV (some r0)), some (iV (1)), some (iV (i90))] [] m Q)  : X G dp a b M9_readTest 23 [some (rV (some r0)), some (iV (i1)), o2] [iV (i90)] m Q := by
  refine X_istore_n dX9_readTest_23 rfl (Nat.le_of_ble_eq_true rfl) ?_
  refine X_iload_n dX9_readTest_24 rfl rfl ?_
  refine X_if_ne (tgt := 32) dX9_readTest_25 (by decide) (fun c1 => ?_) (fun c1 => ?_)
  · refine Y_iconst dX9_readTest_32 (by unfold i32; omega) ?_
    refine X_goto (tgt := 37) dX9_readTest_33 (by decide) ?_
    refine X_istore_n dX9_readTest_37 rfl (Nat.le_of_ble_eq_true rfl) ?_
    refine X_goto (tgt := 5) dX9_readTest_38 (by decide) ?_
    exact (k1 c1)
  · refine X_iload_n dX9_readTest_28 rfl rfl ?_
    refine X_if_eq (tgt := 36) dX9_readTest_29 (by decide) (fun c2 => ?_) (fun c2 => ?_)
    · refine Y_iconst dX9_readTest_36 (by unfold i32; omega) ?_
      refine X_istore_n dX9_readTest_37 rfl (Nat.le_of_ble_eq_true rfl) ?_
      refine X_goto (tgt := 5) dX9_readTest_38 (by decide) ?_
      exact (k2 c1 c2)
    · refine Y_iconst dX9_readTest_32 (by unfold i32; omega) ?_
      refine X_goto (tgt := 37) dX9_readTest_33 (by decide) ?_
      refine X_istore_n dX9_readTest_37 rfl (Nat.le_of_ble_eq_true rfl) ?_
      refine X_goto (tgt := 5) dX9_readTest_38 (by decide) ?_
      exact (k3 c1 c2)

theorem s9_readQuestion_0 {G : am_G} {dp a b : Nat} {m : am_M} {Q : am_Q} {i1 i2 : Int} {r0 : Nat} {o3 : Option am_V} (hdp : 1 ≤ dp) (h1 : am_obw m r0 8) (k1 : ∀ Q' : am_Q, (∀ (m' : am_M), X G dp a b M9_readQuestion 10 [some (rV (some r0)), some (iV (i1)), some (iV (i2)), o3] [] m' Q → Q' (.inl none) m') → T G (dp - 1) 0 0 M9_opens [rV (some r0), iV (i1)] ((u2 m.1 r0 34 (i2)), m.2.1, m.2.2) Q')  : X G dp a b M9_readQuestion 0 [some (rV (some r0)), some (iV (i1)), some (iV (i2)), o3] [] m Q := by
  refine X_aload_n dX9_readQuestion_0 rfl rfl ?_
  refine X_iload_n dX9_readQuestion_1 rfl rfl ?_
  refine X_putI dX9_readQuestion_2 fw_9_447 rfl h1 ?_
  refine X_aload_n dX9_readQuestion_5 rfl rfl ?_
  refine X_iload_n dX9_readQuestion_6 rfl rfl ?_
  exact X_callV (As := [iV (i1)]) (rest := []) (a' := 0) (b' := 0) dX9_readQuestion_7 t9_opens ml_9_433 (am_ow h1) rfl rfl (Nat.le_of_ble_eq_true rfl) rfl hdp (Nat.zero_le _) (Nat.zero_le _) (k1 _ (fun m' h => h))

theorem s9_readQuestion_10 {G : am_G} {dp a b : Nat} {m : am_M} {Q : am_Q} {i1 i2 : Int} {r0 : Nat} {o3 : Option am_V} (hdp : 1 ≤ dp) (h1 : am_ob m r0 8) (k1 : ∀ Q' : am_Q, (∀ (z : Int) (m' : am_M), X G dp a b M9_readQuestion 17 [some (rV (some r0)), some (iV (i1)), some (iV (i2)), o3] [iV (z)] m' Q → Q' (.inl (some (iV (z)))) m') → T G (dp - 1) 0 0 M9_isWord [rV (some r0), sV (55)] m Q')  : X G dp a b M9_readQuestion 10 [some (rV (some r0)), some (iV (i1)), some (iV (i2)), o3] [] m Q := by
  refine X_aload_n dX9_readQuestion_10 rfl rfl ?_
  refine X_ldcSw (j := 55) (tx := "many") dX9_readQuestion_11 rfl ?_
  exact X_callV (As := [sV (55)]) (rest := []) (a' := 0) (b' := 0) dX9_readQuestion_14 t9_isWord ml_9_398 h1 rfl rfl (Nat.le_of_ble_eq_true rfl) rfl hdp (Nat.zero_le _) (Nat.zero_le _) (k1 _ (fun z m' h => h))

theorem s9_readQuestion_17 {G : am_G} {dp a b : Nat} {m : am_M} {Q : am_Q} {i1 i2 i90 : Int} {r0 : Nat} {o3 : Option am_V} (hdp : 1 ≤ dp) (h1 : am_ob m r0 8) (k1 : ¬ (i90 = 0) → X G dp a b M9_readQuestion 45 [some (rV (some r0)), some (iV (i1)), some (iV (i2)), o3] [] m Q) (k2 : (i90 = 0) → ∀ Q' : am_Q, (∀ (z : Int) (m' : am_M), X G dp a b M9_readQuestion 27 [some (rV (some r0)), some (iV (i1)), some (iV (i2)), o3] [iV (z)] m' Q → Q' (.inl (some (iV (z)))) m') → T G (dp - 1) 0 0 M9_isWord [rV (some r0), sV (56)] m Q')  : X G dp a b M9_readQuestion 17 [some (rV (some r0)), some (iV (i1)), some (iV (i2)), o3] [iV (i90)] m Q := by
  refine X_if_ne (tgt := 45) dX9_readQuestion_17 (by decide) (fun c1 => ?_) (fun c1 => ?_)
  · exact (k1 c1)
  · refine X_aload_n dX9_readQuestion_20 rfl rfl ?_
    refine X_ldcSw (j := 56) (tx := "first") dX9_readQuestion_21 rfl ?_
    exact X_callV (As := [sV (56)]) (rest := []) (a' := 0) (b' := 0) dX9_readQuestion_24 t9_isWord ml_9_398 h1 rfl rfl (Nat.le_of_ble_eq_true rfl) rfl hdp (Nat.zero_le _) (Nat.zero_le _) ((k2 c1) _ (fun z m' h => h))

theorem s9_readQuestion_27 {G : am_G} {dp a b : Nat} {m : am_M} {Q : am_Q} {i1 i2 i90 : Int} {r0 : Nat} {o3 : Option am_V} (hdp : 1 ≤ dp) (h1 : am_ob m r0 8) (k1 : ¬ (i90 = 0) → X G dp a b M9_readQuestion 45 [some (rV (some r0)), some (iV (i1)), some (iV (i2)), o3] [] m Q) (k2 : (i90 = 0) → ∀ Q' : am_Q, (∀ (z : Int) (m' : am_M), X G dp a b M9_readQuestion 37 [some (rV (some r0)), some (iV (i1)), some (iV (i2)), o3] [iV (z)] m' Q → Q' (.inl (some (iV (z)))) m') → T G (dp - 1) 0 0 M9_isWord [rV (some r0), sV (57)] m Q')  : X G dp a b M9_readQuestion 27 [some (rV (some r0)), some (iV (i1)), some (iV (i2)), o3] [iV (i90)] m Q := by
  refine X_if_ne (tgt := 45) dX9_readQuestion_27 (by decide) (fun c1 => ?_) (fun c1 => ?_)
  · exact (k1 c1)
  · refine X_aload_n dX9_readQuestion_30 rfl rfl ?_
    refine X_ldcSw (j := 57) (tx := "drawn") dX9_readQuestion_31 rfl ?_
    exact X_callV (As := [sV (57)]) (rest := []) (a' := 0) (b' := 0) dX9_readQuestion_34 t9_isWord ml_9_398 h1 rfl rfl (Nat.le_of_ble_eq_true rfl) rfl hdp (Nat.zero_le _) (Nat.zero_le _) ((k2 c1) _ (fun z m' h => h))

theorem s9_readQuestion_37 {G : am_G} {dp a b : Nat} {m : am_M} {Q : am_Q} {i1 i2 i90 : Int} {r0 : Nat} {o3 : Option am_V} (hdp : 1 ≤ dp) (h1 : am_ob m r0 8) (k1 : ¬ (i90 = 0) → X G dp a b M9_readQuestion 45 [some (rV (some r0)), some (iV (i1)), some (iV (i2)), o3] [] m Q) (k2 : (i90 = 0) → ∀ Q' : am_Q, (∀ (m' : am_M), X G dp a b M9_readQuestion 45 [some (rV (some r0)), some (iV (i1)), some (iV (i2)), o3] [] m' Q → Q' (.inl none) m') → T G (dp - 1) 0 0 M9_wrong [rV (some r0), iV (1)] m Q')  : X G dp a b M9_readQuestion 37 [some (rV (some r0)), some (iV (i1)), some (iV (i2)), o3] [iV (i90)] m Q := by
  refine X_if_ne (tgt := 45) dX9_readQuestion_37 (by decide) (fun c1 => ?_) (fun c1 => ?_)
  · exact (k1 c1)
  · refine X_aload_n dX9_readQuestion_40 rfl rfl ?_
    refine Y_iconst dX9_readQuestion_41 (by unfold i32; omega) ?_
    exact X_callV (As := [iV (1)]) (rest := []) (a' := 0) (b' := 0) dX9_readQuestion_42 t9_wrong ml_9_374 h1 rfl rfl (Nat.le_of_ble_eq_true rfl) rfl hdp (Nat.zero_le _) (Nat.zero_le _) ((k2 c1) _ (fun m' h => h))

theorem s9_readQuestion_45 {G : am_G} {dp a b : Nat} {m : am_M} {Q : am_Q} {i1 i2 : Int} {r0 : Nat} {o3 : Option am_V} (hdp : 1 ≤ dp) (h1 : am_ob m r0 8) (k1 : ∀ Q' : am_Q, (∀ (m' : am_M), X G dp a b M9_readQuestion 49 [some (rV (some r0)), some (iV (i1)), some (iV (i2)), o3] [] m' Q → Q' (.inl none) m') → T G (dp - 1) 0 0 M9_pass [rV (some r0)] m Q')  : X G dp a b M9_readQuestion 45 [some (rV (some r0)), some (iV (i1)), some (iV (i2)), o3] [] m Q := by
  refine X_aload_n dX9_readQuestion_45 rfl rfl ?_
  exact X_callV (As := []) (rest := []) (a' := 0) (b' := 0) dX9_readQuestion_46 t9_pass ml_9_377 h1 rfl rfl (Nat.le_of_ble_eq_true rfl) rfl hdp (Nat.zero_le _) (Nat.zero_le _) (k1 _ (fun m' h => h))

theorem s9_readQuestion_49 {G : am_G} {dp a b : Nat} {m : am_M} {Q : am_Q} {i1 i2 : Int} {r0 : Nat} {o3 : Option am_V} (hdp : 1 ≤ dp) (h1 : am_ob m r0 8) (k1 : ∀ Q' : am_Q, (∀ (z : Int) (m' : am_M), X G dp a b M9_readQuestion 53 [some (rV (some r0)), some (iV (i1)), some (iV (i2)), o3] [iV (z)] m' Q → Q' (.inl (some (iV (z)))) m') → T G (dp - 1) 0 0 M9_readTest [rV (some r0)] m Q')  : X G dp a b M9_readQuestion 49 [some (rV (some r0)), some (iV (i1)), some (iV (i2)), o3] [] m Q := by
  refine X_aload_n dX9_readQuestion_49 rfl rfl ?_
  exact X_callV (As := []) (rest := []) (a' := 0) (b' := 0) dX9_readQuestion_50 t9_readTest ml_9_470 h1 rfl rfl (Nat.le_of_ble_eq_true rfl) rfl hdp (Nat.zero_le _) (Nat.zero_le _) (k1 _ (fun z m' h => h))

theorem s9_readQuestion_53 {G : am_G} {dp a b : Nat} {m : am_M} {Q : am_Q} {i1 i2 i90 : Int} {r0 : Nat} {o3 : Option am_V} (hdp : 1 ≤ dp) (h1 : am_ob m r0 8) (k1 : ¬ ((m.1 r0 30) = 0) → X G dp a b M9_readQuestion 73 [some (rV (some r0)), some (iV (i1)), some (iV (i2)), some (iV (i90))] [] m Q) (k2 : ((m.1 r0 30) = 0) → ((m.1 r0 27) = 0) → X G dp a b M9_readQuestion 73 [some (rV (some r0)), some (iV (i1)), some (iV (i2)), some (iV (i90))] [] m Q) (k3 : ((m.1 r0 30) = 0) → ¬ ((m.1 r0 27) = 0) → ∀ Q' : am_Q, (∀ (m' : am_M), X G dp a b M9_readQuestion 73 [some (rV (some r0)), some (iV (i1)), some (iV (i2)), some (iV (i90))] [] m' Q → Q' (.inl none) m') → T G (dp - 1) 0 0 M9_wrong [rV (some r0), iV (1)] m Q')  : X G dp a b M9_readQuestion 53 [some (rV (some r0)), some (iV (i1)), some (iV (i2)), o3] [iV (i90)] m Q := by
  refine X_istore_n dX9_readQuestion_53 rfl (Nat.le_of_ble_eq_true rfl) ?_
  refine X_aload_n dX9_readQuestion_54 rfl rfl ?_
  refine X_getI dX9_readQuestion_55 fl_9_350 (by decide) h1 ?_
  refine X_if_ne (tgt := 73) dX9_readQuestion_58 (by decide) (fun c1 => ?_) (fun c1 => ?_)
  · exact (k1 c1)
  · refine X_aload_n dX9_readQuestion_61 rfl rfl ?_
    refine X_getI dX9_readQuestion_62 fl_9_338 (by decide) h1 ?_
    refine X_if_eq (tgt := 73) dX9_readQuestion_65 (by decide) (fun c2 => ?_) (fun c2 => ?_)
    · exact (k2 c1 c2)
    · refine X_aload_n dX9_readQuestion_68 rfl rfl ?_
      refine Y_iconst dX9_readQuestion_69 (by unfold i32; omega) ?_
      exact X_callV (As := [iV (1)]) (rest := []) (a' := 0) (b' := 0) dX9_readQuestion_70 t9_wrong ml_9_374 h1 rfl rfl (Nat.le_of_ble_eq_true rfl) rfl hdp (Nat.zero_le _) (Nat.zero_le _) ((k3 c1 c2) _ (fun m' h => h))

theorem s9_readQuestion_73 {G : am_G} {dp a b : Nat} {m : am_M} {Q : am_Q} {i1 i2 i3 : Int} {r0 : Nat}  (k1 : Q (.inl (some (iV (i3)))) m) (h1 : i3 = 0 ∨ i3 = 1 := by intros; first | omega | (dsimp only at *; omega)) : X G dp a b M9_readQuestion 73 [some (rV (some r0)), some (iV (i1)), some (iV (i2)), some (iV (i3))] [] m Q := by
  refine X_iload_n dX9_readQuestion_73 rfl rfl ?_
  exact X_zret dX9_readQuestion_74 rfl h1 k1

theorem s9_ask_0 {G : am_G} {dp a b : Nat} {m : am_M} {Q : am_Q} {i1 : Int} {r0 : Nat} {o2 o3 o4 o5 o6 : Option am_V} (hdp : 1 ≤ dp) (h1 : am_obw m r0 8) (k1 : (i1 < 0) → ∀ Q' : am_Q, (∀ (z : Int) (m' : am_M), X G dp a b M9_ask 29 [some (rV (some r0)), some (iV (i1)), o2, o3, o4, o5, o6] [iV (z)] m' Q → Q' (.inl (some (iV (z)))) m') → T G (dp - 1) 0 0 M9_fail [rV (some r0), iV (1)] ((u2 m.1 r0 7 (0)), m.2.1, m.2.2) Q') (k2 : ¬ (i1 < 0) → (((u2 m.1 r0 7 (0)) r0 24) < i1) → ∀ Q' : am_Q, (∀ (z : Int) (m' : am_M), X G dp a b M9_ask 29 [some (rV (some r0)), some (iV (i1)), o2, o3, o4, o5, o6] [iV (z)] m' Q → Q' (.inl (some (iV (z)))) m') → T G (dp - 1) 0 0 M9_fail [rV (some r0), iV (1)] ((u2 m.1 r0 7 (0)), m.2.1, m.2.2) Q') (k3 : ¬ (i1 < 0) → ¬ (((u2 m.1 r0 7 (0)) r0 24) < i1) → (i1 ≤ 200) → ∀ Q' : am_Q, (∀ (m' : am_M), X G dp a b M9_ask 34 [some (rV (some r0)), some (iV (i1)), o2, o3, o4, o5, o6] [] m' Q → Q' (.inl none) m') → T G (dp - 1) 0 0 M9_goes [rV (some r0)] ((u2 m.1 r0 7 (0)), m.2.1, m.2.2) Q') (k4 : ¬ (i1 < 0) → ¬ (((u2 m.1 r0 7 (0)) r0 24) < i1) → ¬ (i1 ≤ 200) → ∀ Q' : am_Q, (∀ (z : Int) (m' : am_M), X G dp a b M9_ask 29 [some (rV (some r0)), some (iV (i1)), o2, o3, o4, o5, o6] [iV (z)] m' Q → Q' (.inl (some (iV (z)))) m') → T G (dp - 1) 0 0 M9_fail [rV (some r0), iV (1)] ((u2 m.1 r0 7 (0)), m.2.1, m.2.2) Q')  : X G dp a b M9_ask 0 [some (rV (some r0)), some (iV (i1)), o2, o3, o4, o5, o6] [] m Q := by
  refine X_aload_n dX9_ask_0 rfl rfl ?_
  refine Y_iconst dX9_ask_1 (by unfold i32; omega) ?_
  refine X_putI dX9_ask_2 fw_9_73 rfl h1 ?_
  refine X_iload_n dX9_ask_5 rfl rfl ?_
  refine X_if_lt (tgt := 24) dX9_ask_6 (by decide) (fun c1 => ?_) (fun c1 => ?_)
  · refine X_aload_n dX9_ask_24 rfl rfl ?_
    refine Y_iconst dX9_ask_25 (by unfold i32; omega) ?_
    exact X_callV (As := [iV (1)]) (rest := []) (a' := 0) (b' := 0) dX9_ask_26 t9_fail ml_9_210 (am_ow h1) rfl rfl (Nat.le_of_ble_eq_true rfl) rfl hdp (Nat.zero_le _) (Nat.zero_le _) ((k1 c1) _ (fun z m' h => h))
  · refine X_iload_n dX9_ask_9 rfl rfl ?_
    refine X_aload_n dX9_ask_10 rfl rfl ?_
    refine X_getI dX9_ask_11 fl_9_237 (by decide) (am_ow h1) ?_
    refine X_icmp_gt (tgt := 24) dX9_ask_14 (by decide) (fun c2 => ?_) (fun c2 => ?_)
    · refine X_aload_n dX9_ask_24 rfl rfl ?_
      refine Y_iconst dX9_ask_25 (by unfold i32; omega) ?_
      exact X_callV (As := [iV (1)]) (rest := []) (a' := 0) (b' := 0) dX9_ask_26 t9_fail ml_9_210 (am_ow h1) rfl rfl (Nat.le_of_ble_eq_true rfl) rfl hdp (Nat.zero_le _) (Nat.zero_le _) ((k2 c1 c2) _ (fun z m' h => h))
    · refine X_iload_n dX9_ask_17 rfl rfl ?_
      refine Y_sipush dX9_ask_18 (by omega) ?_
      refine X_icmp_le (tgt := 30) dX9_ask_21 (by decide) (fun c3 => ?_) (fun c3 => ?_)
      · refine X_aload_n dX9_ask_30 rfl rfl ?_
        exact X_callV (As := []) (rest := []) (a' := 0) (b' := 0) dX9_ask_31 t9_goes ml_9_213 (am_ow h1) rfl rfl (Nat.le_of_ble_eq_true rfl) rfl hdp (Nat.zero_le _) (Nat.zero_le _) ((k3 c1 c2 c3) _ (fun m' h => h))
      · refine X_aload_n dX9_ask_24 rfl rfl ?_
        refine Y_iconst dX9_ask_25 (by unfold i32; omega) ?_
        exact X_callV (As := [iV (1)]) (rest := []) (a' := 0) (b' := 0) dX9_ask_26 t9_fail ml_9_210 (am_ow h1) rfl rfl (Nat.le_of_ble_eq_true rfl) rfl hdp (Nat.zero_le _) (Nat.zero_le _) ((k4 c1 c2 c3) _ (fun z m' h => h))

theorem s9_ask_29 {G : am_G} {dp a b : Nat} {m : am_M} {Q : am_Q} {i1 i90 : Int} {r0 : Nat} {o2 o3 o4 o5 o6 : Option am_V}  (k1 : Q (.inl (some (iV (i90)))) m)  : X G dp a b M9_ask 29 [some (rV (some r0)), some (iV (i1)), o2, o3, o4, o5, o6] [iV (i90)] m Q := by
  exact X_iret dX9_ask_29 rfl k1

theorem s9_ask_34 {G : am_G} {dp a b : Nat} {m : am_M} {Q : am_Q} {i1 : Int} {r0 : Nat} {o2 o3 o4 o5 o6 : Option am_V} (hdp : 1 ≤ dp) (h1 : am_ob m r0 8) (k1 : ∀ Q' : am_Q, (∀ (m' : am_M), X G dp a b M9_ask 38 [some (rV (some r0)), some (iV (i1)), o2, o3, o4, o5, o6] [] m' Q → Q' (.inl none) m') → T G (dp - 1) 0 0 M9_layTimes [rV (some r0)] m Q')  : X G dp a b M9_ask 34 [some (rV (some r0)), some (iV (i1)), o2, o3, o4, o5, o6] [] m Q := by
  refine X_aload_n dX9_ask_34 rfl rfl ?_
  exact X_callV (As := []) (rest := []) (a' := 0) (b' := 0) dX9_ask_35 t9_layTimes ml_9_225 h1 rfl rfl (Nat.le_of_ble_eq_true rfl) rfl hdp (Nat.zero_le _) (Nat.zero_le _) (k1 _ (fun m' h => h))

theorem s9_ask_38 {G : am_G} {dp a b : Nat} {m : am_M} {Q : am_Q} {i1 : Int} {r0 : Nat} {o2 o3 o4 o5 o6 : Option am_V} (hdp : 1 ≤ dp) (h1 : am_ob m r0 8) (k1 : ∀ Q' : am_Q, (∀ (m' : am_M), X G dp a b M9_ask 43 [some (rV (some r0)), some (iV (i1)), o2, o3, o4, o5, o6] [] m' Q → Q' (.inl none) m') → T G (dp - 1) 0 0 M9_opens [rV (some r0), iV (i1)] m Q')  : X G dp a b M9_ask 38 [some (rV (some r0)), some (iV (i1)), o2, o3, o4, o5, o6] [] m Q := by
  refine X_aload_n dX9_ask_38 rfl rfl ?_
  refine X_iload_n dX9_ask_39 rfl rfl ?_
  exact X_callV (As := [iV (i1)]) (rest := []) (a' := 0) (b' := 0) dX9_ask_40 t9_opens ml_9_433 h1 rfl rfl (Nat.le_of_ble_eq_true rfl) rfl hdp (Nat.zero_le _) (Nat.zero_le _) (k1 _ (fun m' h => h))

theorem s9_ask_43 {G : am_G} {dp a b : Nat} {m : am_M} {Q : am_Q} {i1 : Int} {r0 : Nat} {o2 o3 o4 o5 o6 : Option am_V} (hdp : 1 ≤ dp) (h1 : am_ob m r0 8) (k1 : ∀ Q' : am_Q, (∀ (z : Int) (m' : am_M), X G dp a b M9_ask 50 [some (rV (some r0)), some (iV (i1)), o2, o3, o4, o5, o6] [iV (z)] m' Q → Q' (.inl (some (iV (z)))) m') → T G (dp - 1) 0 0 M9_isWord [rV (some r0), sV (55)] m Q')  : X G dp a b M9_ask 43 [some (rV (some r0)), some (iV (i1)), o2, o3, o4, o5, o6] [] m Q := by
  refine X_aload_n dX9_ask_43 rfl rfl ?_
  refine X_ldcSw (j := 55) (tx := "many") dX9_ask_44 rfl ?_
  exact X_callV (As := [sV (55)]) (rest := []) (a' := 0) (b' := 0) dX9_ask_47 t9_isWord ml_9_398 h1 rfl rfl (Nat.le_of_ble_eq_true rfl) rfl hdp (Nat.zero_le _) (Nat.zero_le _) (k1 _ (fun z m' h => h))

theorem s9_ask_50 {G : am_G} {dp a b : Nat} {m : am_M} {Q : am_Q} {i1 i90 : Int} {r0 : Nat} {o2 o3 o4 o5 o6 : Option am_V} (hdp : 1 ≤ dp) (h1 : am_ob m r0 8) (k1 : (i90 = 0) → ∀ Q' : am_Q, (∀ (z : Int) (m' : am_M), X G dp a b M9_ask 64 [some (rV (some r0)), some (iV (i1)), o2, o3, o4, o5, o6] [iV (z)] m' Q → Q' (.inl (some (iV (z)))) m') → T G (dp - 1) 0 0 M9_isWord [rV (some r0), sV (56)] m Q') (k2 : ¬ (i90 = 0) → ∀ Q' : am_Q, (∀ (z : Int) (m' : am_M), X G dp a b M9_ask 79 [some (rV (some r0)), some (iV (i1)), some (iV (0)), o3, o4, o5, o6] [iV (z)] m' Q → Q' (.inl (some (iV (z)))) m') → T G (dp - 1) 0 0 M9_readQuestion [rV (some r0), iV (i1), iV ((-1))] m Q')  : X G dp a b M9_ask 50 [some (rV (some r0)), some (iV (i1)), o2, o3, o4, o5, o6] [iV (i90)] m Q := by
  refine X_if_eq (tgt := 57) dX9_ask_50 (by decide) (fun c1 => ?_) (fun c1 => ?_)
  · refine X_aload_n dX9_ask_57 rfl rfl ?_
    refine X_ldcSw (j := 56) (tx := "first") dX9_ask_58 rfl ?_
    exact X_callV (As := [sV (56)]) (rest := []) (a' := 0) (b' := 0) dX9_ask_61 t9_isWord ml_9_398 h1 rfl rfl (Nat.le_of_ble_eq_true rfl) rfl hdp (Nat.zero_le _) (Nat.zero_le _) ((k1 c1) _ (fun z m' h => h))
  · refine Y_iconst dX9_ask_53 (by unfold i32; omega) ?_
    refine X_goto (tgt := 72) dX9_ask_54 (by decide) ?_
    refine X_istore_n dX9_ask_72 rfl (Nat.le_of_ble_eq_true rfl) ?_
    refine X_aload_n dX9_ask_73 rfl rfl ?_
    refine X_iload_n dX9_ask_74 rfl rfl ?_
    refine Y_iconst dX9_ask_75 (by unfold i32; omega) ?_
    exact X_callV (As := [iV (i1), iV ((-1))]) (rest := []) (a' := 0) (b' := 0) dX9_ask_76 t9_readQuestion ml_9_489 h1 rfl rfl (Nat.le_of_ble_eq_true rfl) rfl hdp (Nat.zero_le _) (Nat.zero_le _) ((k2 c1) _ (fun z m' h => h))

theorem s9_ask_64 {G : am_G} {dp a b : Nat} {m : am_M} {Q : am_Q} {i1 i90 : Int} {r0 : Nat} {o2 o3 o4 o5 o6 : Option am_V} (hdp : 1 ≤ dp) (h1 : am_ob m r0 8) (k1 : (i90 = 0) → ∀ Q' : am_Q, (∀ (z : Int) (m' : am_M), X G dp a b M9_ask 79 [some (rV (some r0)), some (iV (i1)), some (iV (2)), o3, o4, o5, o6] [iV (z)] m' Q → Q' (.inl (some (iV (z)))) m') → T G (dp - 1) 0 0 M9_readQuestion [rV (some r0), iV (i1), iV ((-1))] m Q') (k2 : ¬ (i90 = 0) → ∀ Q' : am_Q, (∀ (z : Int) (m' : am_M), X G dp a b M9_ask 79 [some (rV (some r0)), some (iV (i1)), some (iV (1)), o3, o4, o5, o6] [iV (z)] m' Q → Q' (.inl (some (iV (z)))) m') → T G (dp - 1) 0 0 M9_readQuestion [rV (some r0), iV (i1), iV ((-1))] m Q')  : X G dp a b M9_ask 64 [some (rV (some r0)), some (iV (i1)), o2, o3, o4, o5, o6] [iV (i90)] m Q := by
  refine X_if_eq (tgt := 71) dX9_ask_64 (by decide) (fun c1 => ?_) (fun c1 => ?_)
  · refine Y_iconst dX9_ask_71 (by unfold i32; omega) ?_
    refine X_istore_n dX9_ask_72 rfl (Nat.le_of_ble_eq_true rfl) ?_
    refine X_aload_n dX9_ask_73 rfl rfl ?_
    refine X_iload_n dX9_ask_74 rfl rfl ?_
    refine Y_iconst dX9_ask_75 (by unfold i32; omega) ?_
    exact X_callV (As := [iV (i1), iV ((-1))]) (rest := []) (a' := 0) (b' := 0) dX9_ask_76 t9_readQuestion ml_9_489 h1 rfl rfl (Nat.le_of_ble_eq_true rfl) rfl hdp (Nat.zero_le _) (Nat.zero_le _) ((k1 c1) _ (fun z m' h => h))
  · refine Y_iconst dX9_ask_67 (by unfold i32; omega) ?_
    refine X_goto (tgt := 72) dX9_ask_68 (by decide) ?_
    refine X_istore_n dX9_ask_72 rfl (Nat.le_of_ble_eq_true rfl) ?_
    refine X_aload_n dX9_ask_73 rfl rfl ?_
    refine X_iload_n dX9_ask_74 rfl rfl ?_
    refine Y_iconst dX9_ask_75 (by unfold i32; omega) ?_
    exact X_callV (As := [iV (i1), iV ((-1))]) (rest := []) (a' := 0) (b' := 0) dX9_ask_76 t9_readQuestion ml_9_489 h1 rfl rfl (Nat.le_of_ble_eq_true rfl) rfl hdp (Nat.zero_le _) (Nat.zero_le _) ((k2 c1) _ (fun z m' h => h))

theorem s9_ask_79 {G : am_G} {dp a b : Nat} {m : am_M} {Q : am_Q} {i1 i2 i90 : Int} {r0 : Nat} {o3 o4 o5 o6 : Option am_V} (hdp : 1 ≤ dp) (h1 : am_ob m r0 8) (k1 : ∀ Q' : am_Q, (∀ (z : Int) (m' : am_M), X G dp a b M9_ask 84 [some (rV (some r0)), some (iV (i1)), some (iV (i2)), some (iV (i90)), o4, o5, o6] [iV (z)] m' Q → Q' (.inl (some (iV (z)))) m') → T G (dp - 1) 0 0 M9_ends [rV (some r0)] m Q')  : X G dp a b M9_ask 79 [some (rV (some r0)), some (iV (i1)), some (iV (i2)), o3, o4, o5, o6] [iV (i90)] m Q := by
  refine X_istore_n dX9_ask_79 rfl (Nat.le_of_ble_eq_true rfl) ?_
  refine X_aload_n dX9_ask_80 rfl rfl ?_
  exact X_callV (As := []) (rest := []) (a' := 0) (b' := 0) dX9_ask_81 t9_ends ml_9_444 h1 rfl rfl (Nat.le_of_ble_eq_true rfl) rfl hdp (Nat.zero_le _) (Nat.zero_le _) (k1 _ (fun z m' h => h))

theorem s9_ask_84 {G : am_G} {dp a b : Nat} {m : am_M} {Q : am_Q} {i1 i2 i3 i90 : Int} {r0 : Nat} {o4 o5 o6 : Option am_V}  (k1 : (i90 = 0) → X G dp a b M9_ask 104 [some (rV (some r0)), some (iV (i1)), some (iV (i2)), some (iV (i3)), some (iV (i90)), some (iV (0)), some (iV (0))] [] m Q) (k2 : ¬ (i90 = 0) → Q (.inl (some (iV (wr ((-1000000000) - i90))))) m)  : X G dp a b M9_ask 84 [some (rV (some r0)), some (iV (i1)), some (iV (i2)), some (iV (i3)), o4, o5, o6] [iV (i90)] m Q := by
  refine X_istore dX9_ask_84 (Nat.le_of_ble_eq_true rfl) ?_
  refine X_iload dX9_ask_86 rfl ?_
  refine X_if_eq (tgt := 98) dX9_ask_88 (by decide) (fun c1 => ?_) (fun c1 => ?_)
  · refine Y_iconst dX9_ask_98 (by unfold i32; omega) ?_
    refine X_istore dX9_ask_99 (Nat.le_of_ble_eq_true rfl) ?_
    refine Y_iconst dX9_ask_101 (by unfold i32; omega) ?_
    refine X_istore dX9_ask_102 (Nat.le_of_ble_eq_true rfl) ?_
    exact (k1 c1)
  · refine X_ldcwI dX9_ask_91 kc_9_492 (by unfold i32; omega) ?_
    refine X_iload dX9_ask_94 rfl ?_
    refine X_isub dX9_ask_96  ?_
    exact X_iret dX9_ask_97 rfl (k2 c1)

theorem s9_ask_104 {G : am_G} {dp a b : Nat} {m : am_M} {Q : am_Q} {i1 i2 i3 i4 i5 i6 : Int} {r0 : Nat} (hdp : 1 ≤ dp) (h1 : am_ob m r0 8) (k1 : ∀ Q' : am_Q, (∀ (z : Int) (m' : am_M), X G dp a b M9_ask 110 [some (rV (some r0)), some (iV (i1)), some (iV (i2)), some (iV (i3)), some (iV (i4)), some (iV (i5)), some (iV (i6))] [iV (z), iV (i6)] m' Q → Q' (.inl (some (iV (z)))) m') → T G (dp - 1) 0 0 M9_ballots [rV (some r0)] m Q')  : X G dp a b M9_ask 104 [some (rV (some r0)), some (iV (i1)), some (iV (i2)), some (iV (i3)), some (iV (i4)), some (iV (i5)), some (iV (i6))] [] m Q := by
  refine X_iload dX9_ask_104 rfl ?_
  refine X_aload_n dX9_ask_106 rfl rfl ?_
  exact X_callV (As := []) (rest := [iV (i6)]) (a' := 0) (b' := 0) dX9_ask_107 t9_ballots ml_9_84 h1 rfl rfl (Nat.le_of_ble_eq_true rfl) rfl hdp (Nat.zero_le _) (Nat.zero_le _) (k1 _ (fun z m' h => h))

theorem s9_ask_110 {G : am_G} {dp a b : Nat} {m : am_M} {Q : am_Q} {i1 i2 i3 i4 i5 i6 i90 i91 : Int} {r0 : Nat} (hdp : 1 ≤ dp) (h1 : am_ob m r0 8) (k1 : (i90 ≤ i91) → ¬ (i2 = 1) → Q (.inl (some (iV (i5)))) m) (k2 : (i90 ≤ i91) → (i2 = 1) → Q (.inl (some (iV ((-1))))) m) (k3 : ¬ (i90 ≤ i91) → ∀ Q' : am_Q, (∀ (z : Int) (m' : am_M), X G dp a b M9_ask 120 [some (rV (some r0)), some (iV (i1)), some (iV (i2)), some (iV (i3)), some (iV (i4)), some (iV (i5)), some (iV (i6))] [iV (z)] m' Q → Q' (.inl (some (iV (z)))) m') → T G (dp - 1) 0 0 M9_readQuestion [rV (some r0), iV (i1), iV (i6)] m Q')  : X G dp a b M9_ask 110 [some (rV (some r0)), some (iV (i1)), some (iV (i2)), some (iV (i3)), some (iV (i4)), some (iV (i5)), some (iV (i6))] [iV (i90), iV (i91)] m Q := by
  refine X_icmp_ge (tgt := 160) dX9_ask_110 (by decide) (fun c1 => ?_) (fun c1 => ?_)
  · refine X_iload_n dX9_ask_160 rfl rfl ?_
    refine Y_iconst dX9_ask_161 (by unfold i32; omega) ?_
    refine X_icmp_ne (tgt := 169) dX9_ask_162 (by decide) (fun c2 => ?_) (fun c2 => ?_)
    · refine X_iload dX9_ask_169 rfl ?_
      exact X_iret dX9_ask_171 rfl (k1 c1 c2)
    · refine Y_iconst dX9_ask_165 (by unfold i32; omega) ?_
      refine X_goto (tgt := 171) dX9_ask_166 (by decide) ?_
      exact X_iret dX9_ask_171 rfl (k2 c1 c2)
  · refine X_aload_n dX9_ask_113 rfl rfl ?_
    refine X_iload_n dX9_ask_114 rfl rfl ?_
    refine X_iload dX9_ask_115 rfl ?_
    exact X_callV (As := [iV (i1), iV (i6)]) (rest := []) (a' := 0) (b' := 0) dX9_ask_117 t9_readQuestion ml_9_489 h1 rfl rfl (Nat.le_of_ble_eq_true rfl) rfl hdp (Nat.zero_le _) (Nat.zero_le _) ((k3 c1) _ (fun z m' h => h))

theorem s9_ask_120 {G : am_G} {dp a b : Nat} {m : am_M} {Q : am_Q} {i1 i2 i3 i4 i5 i6 i90 : Int} {r0 p1 : Nat} {n_p1 : Nat} (h1 : am_ob m r0 8) (h2 : m.2.1 r0 19 = some p1) (h3 : am_ar m p1 100 n_p1) (k1 : ¬ (i90 = 0) → ¬ (i2 = 1) → ¬ (i2 = 0) → X G dp a b M9_ask 104 [some (rV (some r0)), some (iV (i1)), some (iV (i2)), some (iV (i3)), some (iV (i4)), some (iV (wr (i5 + (m.1 p1 (i6).toNat)))), some (iV (wr (i6 + 1)))] [] m Q) (k2 : ¬ (i90 = 0) → ¬ (i2 = 1) → (i2 = 0) → X G dp a b M9_ask 104 [some (rV (some r0)), some (iV (i1)), some (iV (i2)), some (iV (i3)), some (iV (i4)), some (iV (wr (i5 + 1))), some (iV (wr (i6 + 1)))] [] m Q) (k3 : ¬ (i90 = 0) → (i2 = 1) → Q (.inl (some (iV (i6)))) m) (k4 : (i90 = 0) → X G dp a b M9_ask 104 [some (rV (some r0)), some (iV (i1)), some (iV (i2)), some (iV (i3)), some (iV (i4)), some (iV (i5)), some (iV (wr (i6 + 1)))] [] m Q) (h4 : ¬ (i90 = 0) → ¬ (i2 = 1) → ¬ (i2 = 0) → 0 ≤ i6 := by intros; first | omega | (dsimp only at *; omega)) (h5 : ¬ (i90 = 0) → ¬ (i2 = 1) → ¬ (i2 = 0) → i6 < (n_p1 : Int) := by intros; first | omega | (dsimp only at *; omega)) : X G dp a b M9_ask 120 [some (rV (some r0)), some (iV (i1)), some (iV (i2)), some (iV (i3)), some (iV (i4)), some (iV (i5)), some (iV (i6))] [iV (i90)] m Q := by
  refine X_if_ne (tgt := 126) dX9_ask_120 (by decide) (fun c1 => ?_) (fun c1 => ?_)
  · refine X_iload_n dX9_ask_126 rfl rfl ?_
    refine Y_iconst dX9_ask_127 (by unfold i32; omega) ?_
    refine X_icmp_ne (tgt := 134) dX9_ask_128 (by decide) (fun c2 => ?_) (fun c2 => ?_)
    · refine X_iload dX9_ask_134 rfl ?_
      refine X_iload_n dX9_ask_136 rfl rfl ?_
      refine X_if_ne (tgt := 144) dX9_ask_137 (by decide) (fun c3 => ?_) (fun c3 => ?_)
      · refine X_aload_n dX9_ask_144 rfl rfl ?_
        refine X_getP dX9_ask_145 fl_9_53 rfl h1 ?_
        refine am_ptr h2 ?_
        refine X_iload dX9_ask_148 rfl ?_
        refine X_iald dX9_ask_150 h3 (h4 c1 c2 c3) (h5 c1 c2 c3) ?_
        refine X_iadd dX9_ask_151  ?_
        refine X_istore dX9_ask_152 (Nat.le_of_ble_eq_true rfl) ?_
        refine X_iinc dX9_ask_154 rfl ?_
        refine X_goto (tgt := 104) dX9_ask_157 (by decide) ?_
        exact (k1 c1 c2 c3)
      · refine Y_iconst dX9_ask_140 (by unfold i32; omega) ?_
        refine X_goto (tgt := 151) dX9_ask_141 (by decide) ?_
        refine X_iadd dX9_ask_151  ?_
        refine X_istore dX9_ask_152 (Nat.le_of_ble_eq_true rfl) ?_
        refine X_iinc dX9_ask_154 rfl ?_
        refine X_goto (tgt := 104) dX9_ask_157 (by decide) ?_
        exact (k2 c1 c2 c3)
    · refine X_iload dX9_ask_131 rfl ?_
      exact X_iret dX9_ask_133 rfl (k3 c1 c2)
  · refine X_goto (tgt := 154) dX9_ask_123 (by decide) ?_
    refine X_iinc dX9_ask_154 rfl ?_
    refine X_goto (tgt := 104) dX9_ask_157 (by decide) ?_
    exact (k4 c1)

