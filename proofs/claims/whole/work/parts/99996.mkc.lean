/-! CONSTRUCTORS, by program -/
theorem ct_new2 {G : am_G} {dp : Nat} {Q : am_Q} {m : am_M} {c : Nat} (hF : Fz m c) (hc : c ≠ 0) (hci : (m.2.2.1 c).1 = 2) (h : ∀ m', Bd m m' c [(0, 100, 200), (1, 100, 200), (2, 100, 200), (3, 100, 4), (4, 100, 4)] → Q (.inl none) m') : T G dp 5 608 M2_init [rV (some c)] m Q := by
  have B0 := Bd.o hF
  refine T2_init ?_
  refine X_aload_n dX2_init_0 rfl rfl ?_
  refine X_objInit dX2_init_1 ml_2_3 ob_i ob_c (by simp) ?_
  refine X_aload_n dX2_init_4 rfl rfl ?_
  refine Y_sipush dX2_init_5 (by omega) ?_
  refine X_mkA (t := 100) (n := 200) dX2_init_8 dX2_init_10 ff_2_9 rfl rfl (Or.inl ⟨rfl, rfl⟩) ac_i rfl (by omega) hF B0 hc hci (by simp) (by omega) (by omega) (fun m1 B1 => ?_)
  simp only [List.nil_append, List.cons_append] at B1
  refine X_aload_n dX2_init_13 rfl rfl ?_
  refine Y_sipush dX2_init_14 (by omega) ?_
  refine X_mkA (t := 100) (n := 200) dX2_init_17 dX2_init_19 ff_2_15 rfl rfl (Or.inl ⟨rfl, rfl⟩) ac_i rfl (by omega) hF B1 hc hci (by simp) (by omega) (by omega) (fun m2 B2 => ?_)
  simp only [List.nil_append, List.cons_append] at B2
  refine X_aload_n dX2_init_22 rfl rfl ?_
  refine Y_sipush dX2_init_23 (by omega) ?_
  refine X_mkA (t := 100) (n := 200) dX2_init_26 dX2_init_28 ff_2_18 rfl rfl (Or.inl ⟨rfl, rfl⟩) ac_i rfl (by omega) hF B2 hc hci (by simp) (by omega) (by omega) (fun m3 B3 => ?_)
  simp only [List.nil_append, List.cons_append] at B3
  refine X_aload_n dX2_init_31 rfl rfl ?_
  refine Y_iconst dX2_init_32 (by unfold i32; omega) ?_
  refine X_mkA (t := 100) (n := 4) dX2_init_33 dX2_init_35 ff_2_21 rfl rfl (Or.inl ⟨rfl, rfl⟩) ac_i rfl (by omega) hF B3 hc hci (by simp) (by omega) (by omega) (fun m4 B4 => ?_)
  simp only [List.nil_append, List.cons_append] at B4
  refine X_aload_n dX2_init_38 rfl rfl ?_
  refine Y_iconst dX2_init_39 (by unfold i32; omega) ?_
  refine X_mkA (t := 100) (n := 4) dX2_init_40 dX2_init_42 ff_2_24 rfl rfl (Or.inl ⟨rfl, rfl⟩) ac_i rfl (by omega) hF B4 hc hci (by simp) (by omega) (by omega) (fun m5 B5 => ?_)
  simp only [List.nil_append, List.cons_append] at B5
  refine X_aload_n dX2_init_45 rfl rfl ?_
  refine Y_iconst dX2_init_46 (by unfold i32; omega) ?_
  refine X_put0 dX2_init_47 fw_2_27 rfl (B5.ob hc hci) (by rw [B5.1]; exact (hF.2.2 c (Nat.le_refl _)).1 _) ?_
  refine X_aload_n dX2_init_50 rfl rfl ?_
  refine Y_iconst dX2_init_51 (by unfold i32; omega) ?_
  refine X_put0 dX2_init_52 fw_2_31 rfl (B5.ob hc hci) (by rw [B5.1]; exact (hF.2.2 c (Nat.le_refl _)).1 _) ?_
  refine X_aload_n dX2_init_55 rfl rfl ?_
  refine Y_iconst dX2_init_56 (by unfold i32; omega) ?_
  refine X_put0 dX2_init_57 fw_2_34 rfl (B5.ob hc hci) (by rw [B5.1]; exact (hF.2.2 c (Nat.le_refl _)).1 _) ?_
  refine X_aload_n dX2_init_60 rfl rfl ?_
  refine Y_iconst dX2_init_61 (by unfold i32; omega) ?_
  refine X_put0 dX2_init_62 fw_2_37 rfl (B5.ob hc hci) (by rw [B5.1]; exact (hF.2.2 c (Nat.le_refl _)).1 _) ?_
  refine X_aload_n dX2_init_65 rfl rfl ?_
  refine Y_iconst dX2_init_66 (by unfold i32; omega) ?_
  refine X_put0 dX2_init_67 fw_2_40 rfl (B5.ob hc hci) (by rw [B5.1]; exact (hF.2.2 c (Nat.le_refl _)).1 _) ?_
  exact X_vret dX2_init_70 rfl (h _ B5)
theorem ct_new0 {G : am_G} {dp : Nat} {Q : am_Q} {m : am_M} {c : Nat} (hF : Fz m c) (hc : c ≠ 0) (hci : (m.2.2.1 c).1 = 0) (h : ∀ m', Bd m m' c [(0, 100, 12), (1, 100, 12), (2, 100, 12), (3, 100, 12)] → Q (.inl none) m') : T G dp 4 48 M0_init [rV (some c)] m Q := by
  have B0 := Bd.o hF
  refine T0_init ?_
  refine X_aload_n dX0_init_0 rfl rfl ?_
  refine X_objInit dX0_init_1 ml_0_3 ob_i ob_c (by simp) ?_
  refine X_aload_n dX0_init_4 rfl rfl ?_
  refine Y_bipush dX0_init_5 (by omega) ?_
  refine X_mkA (t := 100) (n := 12) dX0_init_7 dX0_init_9 ff_0_9 rfl rfl (Or.inl ⟨rfl, rfl⟩) ac_i rfl (by omega) hF B0 hc hci (by simp) (by omega) (by omega) (fun m1 B1 => ?_)
  simp only [List.nil_append, List.cons_append] at B1
  refine X_aload_n dX0_init_12 rfl rfl ?_
  refine Y_bipush dX0_init_13 (by omega) ?_
  refine X_mkA (t := 100) (n := 12) dX0_init_15 dX0_init_17 ff_0_15 rfl rfl (Or.inl ⟨rfl, rfl⟩) ac_i rfl (by omega) hF B1 hc hci (by simp) (by omega) (by omega) (fun m2 B2 => ?_)
  simp only [List.nil_append, List.cons_append] at B2
  refine X_aload_n dX0_init_20 rfl rfl ?_
  refine Y_bipush dX0_init_21 (by omega) ?_
  refine X_mkA (t := 100) (n := 12) dX0_init_23 dX0_init_25 ff_0_18 rfl rfl (Or.inl ⟨rfl, rfl⟩) ac_i rfl (by omega) hF B2 hc hci (by simp) (by omega) (by omega) (fun m3 B3 => ?_)
  simp only [List.nil_append, List.cons_append] at B3
  refine X_aload_n dX0_init_28 rfl rfl ?_
  refine Y_bipush dX0_init_29 (by omega) ?_
  refine X_mkA (t := 100) (n := 12) dX0_init_31 dX0_init_33 ff_0_21 rfl rfl (Or.inl ⟨rfl, rfl⟩) ac_i rfl (by omega) hF B3 hc hci (by simp) (by omega) (by omega) (fun m4 B4 => ?_)
  simp only [List.nil_append, List.cons_append] at B4
  refine X_aload_n dX0_init_36 rfl rfl ?_
  refine Y_iconst dX0_init_37 (by unfold i32; omega) ?_
  refine X_put0 dX0_init_38 fw_0_24 rfl (B4.ob hc hci) (by rw [B4.1]; exact (hF.2.2 c (Nat.le_refl _)).1 _) ?_
  refine X_aload_n dX0_init_41 rfl rfl ?_
  refine Y_iconst dX0_init_42 (by unfold i32; omega) ?_
  refine X_put0 dX0_init_43 fw_0_28 rfl (B4.ob hc hci) (by rw [B4.1]; exact (hF.2.2 c (Nat.le_refl _)).1 _) ?_
  refine X_aload_n dX0_init_46 rfl rfl ?_
  refine Y_iconst dX0_init_47 (by unfold i32; omega) ?_
  refine X_put0 dX0_init_48 fw_0_31 rfl (B4.ob hc hci) (by rw [B4.1]; exact (hF.2.2 c (Nat.le_refl _)).1 _) ?_
  refine X_aload_n dX0_init_51 rfl rfl ?_
  refine Y_iconst dX0_init_52 (by unfold i32; omega) ?_
  refine X_put0 dX0_init_53 fw_0_34 rfl (B4.ob hc hci) (by rw [B4.1]; exact (hF.2.2 c (Nat.le_refl _)).1 _) ?_
  refine X_aload_n dX0_init_56 rfl rfl ?_
  refine Y_iconst dX0_init_57 (by unfold i32; omega) ?_
  refine X_put0 dX0_init_58 fw_0_37 rfl (B4.ob hc hci) (by rw [B4.1]; exact (hF.2.2 c (Nat.le_refl _)).1 _) ?_
  exact X_vret dX0_init_61 rfl (h _ B4)
theorem ct_new7 {G : am_G} {dp : Nat} {Q : am_Q} {m : am_M} {c : Nat} (hF : Fz m c) (hc : c ≠ 0) (hci : (m.2.2.1 c).1 = 6) (h : ∀ m', Bd m m' c [(0, 100, 64)] → Q (.inl none) m') : T G dp 1 64 M7_init [rV (some c)] m Q := by
  have B0 := Bd.o hF
  refine T7_init ?_
  refine X_aload_n dX7_init_0 rfl rfl ?_
  refine X_objInit dX7_init_1 ml_7_1 ob_i ob_c (by simp) ?_
  refine X_aload_n dX7_init_4 rfl rfl ?_
  refine Y_bipush dX7_init_5 (by omega) ?_
  refine X_mkA (t := 100) (n := 64) dX7_init_7 dX7_init_9 ff_7_7 rfl rfl (Or.inl ⟨rfl, rfl⟩) ac_i rfl (by omega) hF B0 hc hci (by simp) (by omega) (by omega) (fun m1 B1 => ?_)
  simp only [List.nil_append, List.cons_append] at B1
  refine X_aload_n dX7_init_12 rfl rfl ?_
  refine Y_iconst dX7_init_13 (by unfold i32; omega) ?_
  refine X_put0 dX7_init_14 fw_7_13 rfl (B1.ob hc hci) (by rw [B1.1]; exact (hF.2.2 c (Nat.le_refl _)).1 _) ?_
  exact X_vret dX7_init_17 rfl (h _ B1)
theorem ct_new5 {G : am_G} {dp : Nat} {Q : am_Q} {m : am_M} {c : Nat} (hF : Fz m c) (hc : c ≠ 0) (hci : (m.2.2.1 c).1 = 4) (h : ∀ m', Bd m m' c [(0, 100, 200), (1, 100, 200), (2, 100, 64)] → Q (.inl none) m') : T G dp 3 464 M5_init [rV (some c)] m Q := by
  have B0 := Bd.o hF
  refine T5_init ?_
  refine X_aload_n dX5_init_0 rfl rfl ?_
  refine X_objInit dX5_init_1 ml_5_3 ob_i ob_c (by simp) ?_
  refine X_aload_n dX5_init_4 rfl rfl ?_
  refine Y_sipush dX5_init_5 (by omega) ?_
  refine X_mkA (t := 100) (n := 200) dX5_init_8 dX5_init_10 ff_5_9 rfl rfl (Or.inl ⟨rfl, rfl⟩) ac_i rfl (by omega) hF B0 hc hci (by simp) (by omega) (by omega) (fun m1 B1 => ?_)
  simp only [List.nil_append, List.cons_append] at B1
  refine X_aload_n dX5_init_13 rfl rfl ?_
  refine Y_sipush dX5_init_14 (by omega) ?_
  refine X_mkA (t := 100) (n := 200) dX5_init_17 dX5_init_19 ff_5_15 rfl rfl (Or.inl ⟨rfl, rfl⟩) ac_i rfl (by omega) hF B1 hc hci (by simp) (by omega) (by omega) (fun m2 B2 => ?_)
  simp only [List.nil_append, List.cons_append] at B2
  refine X_aload_n dX5_init_22 rfl rfl ?_
  refine Y_bipush dX5_init_23 (by omega) ?_
  refine X_mkA (t := 100) (n := 64) dX5_init_25 dX5_init_27 ff_5_18 rfl rfl (Or.inl ⟨rfl, rfl⟩) ac_i rfl (by omega) hF B2 hc hci (by simp) (by omega) (by omega) (fun m3 B3 => ?_)
  simp only [List.nil_append, List.cons_append] at B3
  refine X_aload_n dX5_init_30 rfl rfl ?_
  refine Y_iconst dX5_init_31 (by unfold i32; omega) ?_
  refine X_put0 dX5_init_32 fw_5_21 rfl (B3.ob hc hci) (by rw [B3.1]; exact (hF.2.2 c (Nat.le_refl _)).1 _) ?_
  refine X_aload_n dX5_init_35 rfl rfl ?_
  refine Y_iconst dX5_init_36 (by unfold i32; omega) ?_
  refine X_put0 dX5_init_37 fw_5_25 rfl (B3.ob hc hci) (by rw [B3.1]; exact (hF.2.2 c (Nat.le_refl _)).1 _) ?_
  refine X_aload_n dX5_init_40 rfl rfl ?_
  refine Y_iconst dX5_init_41 (by unfold i32; omega) ?_
  refine X_put0 dX5_init_42 fw_5_28 rfl (B3.ob hc hci) (by rw [B3.1]; exact (hF.2.2 c (Nat.le_refl _)).1 _) ?_
  exact X_vret dX5_init_45 rfl (h _ B3)
