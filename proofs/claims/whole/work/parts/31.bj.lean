/-! TREES of bytecode, by program: J7_fill* -/
theorem sJ7_fill_d0a16_0 {G : am_G} {dp a b : Nat} {m : am_M} {Q : am_Q} {l1 : Int} {r0 : Nat} {o3 o4 : Option am_V} {n_r0 t_r0 : Nat} (h1 : am_ar m r0 t_r0 n_r0) (h2 : 100 ≤ t_r0) (k1 : X G dp a b MJ7_fill_d0a16 6 [some (rV (some r0)), some (lV (l1)), none, some (iV (0)), some (iV ((n_r0 : Int)))] [] m Q)  : X G dp a b MJ7_fill_d0a16 0 [some (rV (some r0)), some (lV (l1)), none, o3, o4] [] m Q := by
  refine Y_iconst dJ7_fill_d0a16_0 (by unfold i32; omega) ?_
  refine X_istore_n dJ7_fill_d0a16_1 rfl (Nat.le_of_ble_eq_true rfl) ?_
  refine X_aload_n dJ7_fill_d0a16_2 rfl rfl ?_
  refine X_alen dJ7_fill_d0a16_3 h2 h1 ?_
  refine X_istore dJ7_fill_d0a16_4 (Nat.le_of_ble_eq_true rfl) ?_
  exact k1

theorem sJ7_fill_d0a16_6 {G : am_G} {dp a b : Nat} {m : am_M} {Q : am_Q} {i3 i4 l1 : Int} {r0 : Nat} {n_r0 : Nat} (h1 : am_arw m r0 101 n_r0) (k1 : (i4 ≤ i3) → Q (.inl none) m) (k2 : ¬ (i4 ≤ i3) → X G dp a b MJ7_fill_d0a16 6 [some (rV (some r0)), some (lV (l1)), none, some (iV (wr (i3 + 1))), some (iV (i4))] [] ((u2 m.1 r0 (i3).toNat (l1)), m.2.1, m.2.2) Q) (h2 : ¬ (i4 ≤ i3) → 0 ≤ i3 := by intros; first | omega | (dsimp only at *; omega)) (h3 : ¬ (i4 ≤ i3) → i3 < (n_r0 : Int) := by intros; first | omega | (dsimp only at *; omega)) : X G dp a b MJ7_fill_d0a16 6 [some (rV (some r0)), some (lV (l1)), none, some (iV (i3)), some (iV (i4))] [] m Q := by
  refine X_iload_n dJ7_fill_d0a16_6 rfl rfl ?_
  refine X_iload dJ7_fill_d0a16_7 rfl ?_
  refine X_icmp_ge (tgt := 22) dJ7_fill_d0a16_9 (by decide) (fun c1 => ?_) (fun c1 => ?_)
  · exact X_vret dJ7_fill_d0a16_22 rfl (k1 c1)
  · refine X_aload_n dJ7_fill_d0a16_12 rfl rfl ?_
    refine X_iload_n dJ7_fill_d0a16_13 rfl rfl ?_
    refine X_lload_n dJ7_fill_d0a16_14 rfl rfl ?_
    refine X_last dJ7_fill_d0a16_15 h1 (h2 c1) (h3 c1) ?_
    refine X_iinc dJ7_fill_d0a16_16 rfl ?_
    refine X_goto (tgt := 6) dJ7_fill_d0a16_19 (by decide) ?_
    exact (k2 c1)

theorem sJ7_fill_53178_0 {G : am_G} {dp a b : Nat} {m : am_M} {Q : am_Q} {i1 : Int} {r0 : Nat} {o2 o3 : Option am_V} {n_r0 t_r0 : Nat} (h1 : am_ar m r0 t_r0 n_r0) (h2 : 100 ≤ t_r0) (k1 : X G dp a b MJ7_fill_53178 5 [some (rV (some r0)), some (iV (i1)), some (iV (0)), some (iV ((n_r0 : Int)))] [] m Q)  : X G dp a b MJ7_fill_53178 0 [some (rV (some r0)), some (iV (i1)), o2, o3] [] m Q := by
  refine Y_iconst dJ7_fill_53178_0 (by unfold i32; omega) ?_
  refine X_istore_n dJ7_fill_53178_1 rfl (Nat.le_of_ble_eq_true rfl) ?_
  refine X_aload_n dJ7_fill_53178_2 rfl rfl ?_
  refine X_alen dJ7_fill_53178_3 h2 h1 ?_
  refine X_istore_n dJ7_fill_53178_4 rfl (Nat.le_of_ble_eq_true rfl) ?_
  exact k1

theorem sJ7_fill_53178_5 {G : am_G} {dp a b : Nat} {m : am_M} {Q : am_Q} {i1 i2 i3 : Int} {r0 : Nat} {n_r0 : Nat} (h1 : am_arw m r0 100 n_r0) (k1 : (i3 ≤ i2) → Q (.inl none) m) (k2 : ¬ (i3 ≤ i2) → X G dp a b MJ7_fill_53178 5 [some (rV (some r0)), some (iV (i1)), some (iV (wr (i2 + 1))), some (iV (i3))] [] ((u2 m.1 r0 (i2).toNat (i1)), m.2.1, m.2.2) Q) (h2 : ¬ (i3 ≤ i2) → 0 ≤ i2 := by intros; first | omega | (dsimp only at *; omega)) (h3 : ¬ (i3 ≤ i2) → i2 < (n_r0 : Int) := by intros; first | omega | (dsimp only at *; omega)) : X G dp a b MJ7_fill_53178 5 [some (rV (some r0)), some (iV (i1)), some (iV (i2)), some (iV (i3))] [] m Q := by
  refine X_iload_n dJ7_fill_53178_5 rfl rfl ?_
  refine X_iload_n dJ7_fill_53178_6 rfl rfl ?_
  refine X_icmp_ge (tgt := 20) dJ7_fill_53178_7 (by decide) (fun c1 => ?_) (fun c1 => ?_)
  · exact X_vret dJ7_fill_53178_20 rfl (k1 c1)
  · refine X_aload_n dJ7_fill_53178_10 rfl rfl ?_
    refine X_iload_n dJ7_fill_53178_11 rfl rfl ?_
    refine X_iload_n dJ7_fill_53178_12 rfl rfl ?_
    refine X_iast dJ7_fill_53178_13 h1 (h2 c1) (h3 c1) ?_
    refine X_iinc dJ7_fill_53178_14 rfl ?_
    refine X_goto (tgt := 5) dJ7_fill_53178_17 (by decide) ?_
    exact (k2 c1)

