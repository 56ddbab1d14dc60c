/-! THE REFERENCE is made -/
def l9 : List (Nat × Nat × Nat) := [(0, 100, 1514), (1, 100, 1514), (2, 100, 1514), (3, 100, 1514), (4, 100, 18168), (8, 100, 12), (9, 100, 12), (10, 100, 3), (11, 100, 3), (12, 100, 3), (13, 100, 600), (14, 101, 12), (15, 100, 3), (17, 101, 903), (19, 100, 200), (20, 101, 4), (21, 100, 100), (23, 100, 600)]
theorem ct_new9 {G : am_G} {dp : Nat} {Q : am_Q} {m : am_M} (hd : 1 ≤ dp) (hF : Fz m 103) (hci : (m.2.2.1 103).1 = 8) (h : ∀ (I' : Nat → Nat → Int) (m' : am_M), Bd m m' 103 l9 → (∀ x, x ≠ 103 → x ≠ 104 → I' x = m.1 x) → I' 103 32 = -1 → (∀ j, j ≠ 32 → I' 103 j = 0) → (∀ j, j < 1514 → I' 104 j = row0 j) → Q (.inl none) (I', m'.2)) : T G dp 18 26679 M9_init [rV (some 103)] m Q := by
  have B0 := Bd.o hF
  refine T9_init ?_
  refine X_aload_n dX9_init_0 rfl rfl ?_
  refine X_objInit dX9_init_1 ml_9_1 ob_i ob_c (by simp) ?_
  refine X_aload_n dX9_init_4 rfl rfl ?_
  refine Y_sipush dX9_init_5 (by omega) ?_
  refine X_mkA (t := 100) (n := 1514) dX9_init_8 dX9_init_10 ff_9_9 rfl rfl (Or.inl ⟨rfl, rfl⟩) ac_i rfl (by omega) hF B0 (by omega) hci (by simp) (by omega) (by omega) (fun m1 B1 => ?_)
  simp only [List.nil_append, List.cons_append] at B1
  refine X_aload_n dX9_init_13 rfl rfl ?_
  refine Y_sipush dX9_init_14 (by omega) ?_
  refine X_mkA (t := 100) (n := 1514) dX9_init_17 dX9_init_19 ff_9_13 rfl rfl (Or.inl ⟨rfl, rfl⟩) ac_i rfl (by omega) hF B1 (by omega) hci (by simp) (by omega) (by omega) (fun m2 B2 => ?_)
  simp only [List.nil_append, List.cons_append] at B2
  refine X_aload_n dX9_init_22 rfl rfl ?_
  refine Y_sipush dX9_init_23 (by omega) ?_
  refine X_mkA (t := 100) (n := 1514) dX9_init_26 dX9_init_28 ff_9_16 rfl rfl (Or.inl ⟨rfl, rfl⟩) ac_i rfl (by omega) hF B2 (by omega) hci (by simp) (by omega) (by omega) (fun m3 B3 => ?_)
  simp only [List.nil_append, List.cons_append] at B3
  refine X_aload_n dX9_init_31 rfl rfl ?_
  refine Y_sipush dX9_init_32 (by omega) ?_
  refine X_mkA (t := 100) (n := 1514) dX9_init_35 dX9_init_37 ff_9_19 rfl rfl (Or.inl ⟨rfl, rfl⟩) ac_i rfl (by omega) hF B3 (by omega) hci (by simp) (by omega) (by omega) (fun m4 B4 => ?_)
  simp only [List.nil_append, List.cons_append] at B4
  refine X_aload_n dX9_init_40 rfl rfl ?_
  refine Y_sipush dX9_init_41 (by omega) ?_
  refine X_mkA (t := 100) (n := 18168) dX9_init_44 dX9_init_46 ff_9_22 rfl rfl (Or.inl ⟨rfl, rfl⟩) ac_i rfl (by omega) hF B4 (by omega) hci (by simp) (by omega) (by omega) (fun m5 B5 => ?_)
  simp only [List.nil_append, List.cons_append] at B5
  refine X_aload_n dX9_init_49 rfl rfl ?_
  refine Y_bipush dX9_init_50 (by omega) ?_
  refine X_mkA (t := 100) (n := 12) dX9_init_52 dX9_init_54 ff_9_25 rfl rfl (Or.inl ⟨rfl, rfl⟩) ac_i rfl (by omega) hF B5 (by omega) hci (by simp) (by omega) (by omega) (fun m6 B6 => ?_)
  simp only [List.nil_append, List.cons_append] at B6
  refine X_aload_n dX9_init_57 rfl rfl ?_
  refine Y_bipush dX9_init_58 (by omega) ?_
  refine X_mkA (t := 100) (n := 12) dX9_init_60 dX9_init_62 ff_9_28 rfl rfl (Or.inl ⟨rfl, rfl⟩) ac_i rfl (by omega) hF B6 (by omega) hci (by simp) (by omega) (by omega) (fun m7 B7 => ?_)
  simp only [List.nil_append, List.cons_append] at B7
  refine X_aload_n dX9_init_65 rfl rfl ?_
  refine Y_iconst dX9_init_66 (by unfold i32; omega) ?_
  refine X_mkA (t := 100) (n := 3) dX9_init_67 dX9_init_69 ff_9_31 rfl rfl (Or.inl ⟨rfl, rfl⟩) ac_i rfl (by omega) hF B7 (by omega) hci (by simp) (by omega) (by omega) (fun m8 B8 => ?_)
  simp only [List.nil_append, List.cons_append] at B8
  refine X_aload_n dX9_init_72 rfl rfl ?_
  refine Y_iconst dX9_init_73 (by unfold i32; omega) ?_
  refine X_mkA (t := 100) (n := 3) dX9_init_74 dX9_init_76 ff_9_34 rfl rfl (Or.inl ⟨rfl, rfl⟩) ac_i rfl (by omega) hF B8 (by omega) hci (by simp) (by omega) (by omega) (fun m9 B9 => ?_)
  simp only [List.nil_append, List.cons_append] at B9
  refine X_aload_n dX9_init_79 rfl rfl ?_
  refine Y_iconst dX9_init_80 (by unfold i32; omega) ?_
  refine X_mkA (t := 100) (n := 3) dX9_init_81 dX9_init_83 ff_9_37 rfl rfl (Or.inl ⟨rfl, rfl⟩) ac_i rfl (by omega) hF B9 (by omega) hci (by simp) (by omega) (by omega) (fun m10 B10 => ?_)
  simp only [List.nil_append, List.cons_append] at B10
  refine X_aload_n dX9_init_86 rfl rfl ?_
  refine Y_sipush dX9_init_87 (by omega) ?_
  refine X_mkA (t := 100) (n := 600) dX9_init_90 dX9_init_92 ff_9_40 rfl rfl (Or.inl ⟨rfl, rfl⟩) ac_i rfl (by omega) hF B10 (by omega) hci (by simp) (by omega) (by omega) (fun m11 B11 => ?_)
  simp only [List.nil_append, List.cons_append] at B11
  refine X_aload_n dX9_init_95 rfl rfl ?_
  refine Y_bipush dX9_init_96 (by omega) ?_
  refine X_mkA (t := 101) (n := 12) dX9_init_98 dX9_init_100 ff_9_43 rfl rfl (Or.inr (Or.inl ⟨rfl, rfl⟩)) ac_l rfl (by omega) hF B11 (by omega) hci (by simp) (by omega) (by omega) (fun m12 B12 => ?_)
  simp only [List.nil_append, List.cons_append] at B12
  refine X_aload_n dX9_init_103 rfl rfl ?_
  refine Y_iconst dX9_init_104 (by unfold i32; omega) ?_
  refine X_mkA (t := 100) (n := 3) dX9_init_105 dX9_init_107 ff_9_47 rfl rfl (Or.inl ⟨rfl, rfl⟩) ac_i rfl (by omega) hF B12 (by omega) hci (by simp) (by omega) (by omega) (fun m13 B13 => ?_)
  simp only [List.nil_append, List.cons_append] at B13
  refine X_aload_n dX9_init_110 rfl rfl ?_
  refine Y_sipush dX9_init_111 (by omega) ?_
  refine X_mkA (t := 101) (n := 903) dX9_init_114 dX9_init_116 ff_9_50 rfl rfl (Or.inr (Or.inl ⟨rfl, rfl⟩)) ac_l rfl (by omega) hF B13 (by omega) hci (by simp) (by omega) (by omega) (fun m14 B14 => ?_)
  simp only [List.nil_append, List.cons_append] at B14
  refine X_aload_n dX9_init_119 rfl rfl ?_
  refine Y_sipush dX9_init_120 (by omega) ?_
  refine X_mkA (t := 100) (n := 200) dX9_init_123 dX9_init_125 ff_9_53 rfl rfl (Or.inl ⟨rfl, rfl⟩) ac_i rfl (by omega) hF B14 (by omega) hci (by simp) (by omega) (by omega) (fun m15 B15 => ?_)
  simp only [List.nil_append, List.cons_append] at B15
  refine X_aload_n dX9_init_128 rfl rfl ?_
  refine Y_iconst dX9_init_129 (by unfold i32; omega) ?_
  refine X_mkA (t := 101) (n := 4) dX9_init_130 dX9_init_132 ff_9_56 rfl rfl (Or.inr (Or.inl ⟨rfl, rfl⟩)) ac_l rfl (by omega) hF B15 (by omega) hci (by simp) (by omega) (by omega) (fun m16 B16 => ?_)
  simp only [List.nil_append, List.cons_append] at B16
  refine X_aload_n dX9_init_135 rfl rfl ?_
  refine Y_bipush dX9_init_136 (by omega) ?_
  refine X_mkA (t := 100) (n := 100) dX9_init_138 dX9_init_140 ff_9_59 rfl rfl (Or.inl ⟨rfl, rfl⟩) ac_i rfl (by omega) hF B16 (by omega) hci (by simp) (by omega) (by omega) (fun m17 B17 => ?_)
  simp only [List.nil_append, List.cons_append] at B17
  refine X_aload_n dX9_init_143 rfl rfl ?_
  refine Y_sipush dX9_init_144 (by omega) ?_
  refine X_mkA (t := 100) (n := 600) dX9_init_147 dX9_init_149 ff_9_62 rfl rfl (Or.inl ⟨rfl, rfl⟩) ac_i rfl (by omega) hF B17 (by omega) hci (by simp) (by omega) (by omega) (fun m18 B18 => ?_)
  simp only [List.nil_append, List.cons_append] at B18
  have B18 : Bd m m18 103 l9 := B18
  have hob : am_obw m18 103 8 := B18.ob (by omega) hci
  have h0 := B18.ar (i := 0) rfl
  refine X_aload_n dX9_init_152 rfl rfl ?_
  refine Y_iconst dX9_init_153 (by unfold i32; omega) ?_
  refine X_putI dX9_init_154 fw_9_65 rfl hob ?_
  refine X_aload_n dX9_init_157 rfl rfl ?_
  refine X_getP dX9_init_158 fl_9_9 rfl (am_ow hob) ?_
  refine am_ptr h0.1 ?_
  refine X_callS (a' := 0) (b' := 0) dX9_init_161 t9_bare ml_9_69 (As := [rV (some 104)]) (rest := []) rfl rfl (by simp) rfl hd (Nat.zero_le _) (Nat.zero_le _) (md_bare (I := u2 m18.1 103 32 (-1)) (Z := m18.2) h0.2 fun I1 f1 g1 => ?_)
  refine X_vret dX9_init_164 rfl (h I1 m18 B18 (fun x a b => ?_) ?_ (fun j hj => ?_) g1)
  · rw [f1 x b, u2r a, B18.1]
  · rw [f1 103 (by omega), u2_at]
  · rw [f1 103 (by omega), u2n hj, B18.1]
    exact (hF.2.2 103 (Nat.le_refl _)).1 j
theorem Md.mk {m m' : am_M} {I' : Nat → Nat → Int} (h : Bd m m' 103 l9) (hci : (m.2.2.1 103).1 = 8) : Md (I', m'.2) := by
  refine ⟨h.ob (by omega) hci, fun q hq => ?_⟩
  have a : ∀ (i : Nat) (x : Nat × Nat × Nat), l9[i]? = some x → m'.2.1 103 x.1 = some (103 + 1 + i) ∧ am_arw m' (103 + 1 + i) x.2.1 x.2.2 := fun i x hx => h.ar hx
  unfold mdp at hq
  simp only [List.mem_cons, List.not_mem_nil, or_false] at hq
  rcases hq with rfl | rfl | rfl | rfl | rfl | rfl | rfl | rfl | rfl | rfl | rfl | rfl | rfl | rfl | rfl | rfl | rfl | rfl
  · exact a 0 _ rfl
  · exact a 1 _ rfl
  · exact a 2 _ rfl
  · exact a 3 _ rfl
  · exact a 4 _ rfl
  · exact a 5 _ rfl
  · exact a 6 _ rfl
  · exact a 7 _ rfl
  · exact a 8 _ rfl
  · exact a 9 _ rfl
  · exact a 10 _ rfl
  · exact a 11 _ rfl
  · exact a 12 _ rfl
  · exact a 13 _ rfl
  · exact a 14 _ rfl
  · exact a 15 _ rfl
  · exact a 16 _ rfl
  · exact a 17 _ rfl
