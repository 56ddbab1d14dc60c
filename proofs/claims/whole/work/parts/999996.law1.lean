/-! THE LAW: both objects and the answer's place are made -/
theorem cl_L_8 : Cond.classLink RL 8 RX8 ∈ lw_tbl := List.mem_of_getElem? (i := 128) (by decide +kernel)
theorem in_8 : Cond.instantiable RX8 13 ∈ lw_tbl := List.mem_of_getElem? (i := 129) (by decide +kernel)
theorem cl_L_99 : Cond.classLink RL 99 RX9 ∈ lw_tbl := List.mem_of_getElem? (i := 1235) (by decide +kernel)
theorem in_9 : Cond.instantiable RX9 35 ∈ lw_tbl := List.mem_of_getElem? (i := 1236) (by decide +kernel)
theorem law_mk {G : am_G} {dp a b : Nat} {Q : am_Q} {m : am_M} {r0 : Nat} (hd : 4 ≤ dp) (ha : 122 ≤ a) (hb : 36393 ≤ b) (z : Gz m 1) (h : ∀ m' : am_M, Cl m' 5 26 → Md m' → am_arw m' 122 101 1 → m'.2.1 0 = m.2.1 0 → m'.2.2.1 0 = m.2.2.1 0 → m'.2.2.2.1 = 123 → (∃ J, I8 J m.1 ∧ ∀ x, x ≠ 103 → x ≠ 104 → m'.1 x = J x) → m'.1 103 32 = -1 → (∀ j, j ≠ 32 → m'.1 103 j = 0) → (∀ j, j < 1514 → m'.1 104 j = row0 j) → X G dp (a - 122) (b - 36393) ML_law 23 [some (rV (some r0)), some (rV (some 1)), some (rV (some 103)), some (rV (some 122)), some (iV 0), none, none, none] [] m' Q) : X G dp a b ML_law 0 [some (rV (some r0)), none, none, none, none, none, none, none] [] m Q := by
  refine X_newO (ci := 7) dL_law_0 rfl cl_L_8 in_8 t8_init.1.2.2.1 z.fr (by omega) (by omega) ?_
  rw [z.2.1]
  refine X_dup dL_law_3 rfl ?_
  refine X_callI (a' := 101) (b' := 9665) (As := []) (r := 1) dL_law_4 t8_init ml_L_98 rfl rfl (by simp [am_wd]) rfl (by omega) (by omega) (by omega) (ct_new8 (by omega) z.fz z.ci fun m1 z1 c1 p1 s1 i1 => ?_)
  have s1 : m1.2.2.1 0 = m.2.2.1 0 := (s1 0 (by omega)).trans (by show (if 0 = m.2.2.2.1 then _ else m.2.2.1 0) = _; rw [z.2.1]; rfl)
  have p1 : m1.2.1 0 = m.2.1 0 := p1 0 (by omega)
  have i1 : I8 m1.1 m.1 := i1
  refine X_astore_n dL_law_7 rfl (Nat.le_of_ble_eq_true rfl) ?_
  refine X_newO (ci := 8) dL_law_8 rfl cl_L_99 in_9 t9_init.1.2.2.1 z1.fr (by omega) (by omega) ?_
  rw [z1.2.1]
  refine X_dup dL_law_11 rfl ?_
  refine X_callI (a' := 18) (b' := 26679) (As := []) (r := 103) dL_law_12 t9_init ml_L_101 rfl rfl (by simp [am_wd]) rfl (by omega) (by omega) (by omega) (ct_new9 (by omega) z1.fz z1.ci fun I2 m2 B f2 k32 k0 kr => ?_)
  have hM : Md (I2, m2.2) := Md.mk B z1.ci
  have gn : Gn (am_al m1 8 0) m2 103 122 := B.gn z1.fz
  have f2 : ∀ x, x ≠ 103 → x ≠ 104 → I2 x = m1.1 x := f2
  refine X_astore_n dL_law_15 rfl (Nat.le_of_ble_eq_true rfl) ?_
  refine Y_iconst dL_law_16 (by unfold i32; omega) ?_
  have cnt : m2.2.2.2.1 = 122 := gn.2.2.2.2.1
  refine X_newA (t := 101) (n := 1) dL_law_17 (Or.inr (Or.inl ⟨rfl, rfl⟩)) ac_l rfl (by omega) ⟨gn.2.2.2.1, fun j => ?_, fun j => (gn.2.2.2.2.2 _ (Nat.le_of_eq cnt.symm)).2 j⟩ (by omega) (by omega) ?_
  · show I2 m2.2.2.2.1 j = 0
    rw [f2 _ (by omega) (by omega)]
    exact (z1.2.2 _ (by omega)).1 j
  have e9 : ((I2, m2.2) : am_M).2.2.2.1 = 122 := cnt
  rw [e9]
  refine X_astore_n dL_law_19 rfl (Nat.le_of_ble_eq_true rfl) ?_
  refine Y_iconst dL_law_20 (by unfold i32; omega) ?_
  refine X_istore dL_law_21 (Nat.le_of_ble_eq_true rfl) ?_
  have ea : a - 1 - 101 - 1 - 18 - 1 = a - 122 := by omega
  have eb : b - 13 - 9665 - 35 - 26679 - 1 = b - 36393 := by omega
  rw [ea, eb]
  refine X_weak ?_
  have sh : ∀ x, (am_al (I2, m2.2) 101 1).2.2.1 x = if x = 122 then (101, 1) else m2.2.2.1 x := fun x => by show (if x = m2.2.2.2.1 then _ else _) = _; rw [cnt]
  have S1 : ∀ x, x < 103 → (am_al (I2, m2.2) 101 1).2.2.1 x = m1.2.2.1 x := fun x hx => by
    rw [sh, if_neg (by omega), gn.2.2.1 x hx]
    show (if x = m1.2.2.2.1 then _ else m1.2.2.1 x) = _
    rw [z1.2.1, if_neg (by omega)]
  refine h _ (c1.tr rfl (fun x _ hx => gn.2.1 x hx) S1 (by show m1.2.2.2.1 ≤ m2.2.2.2.1 + 1; rw [cnt, z1.2.1]; omega)) ⟨hM.1.tr ((sh 103).trans (if_neg (by omega))) (Nat.le_succ _), fun q hq => ⟨(hM.2 q hq).1, (hM.2 q hq).2.tr ((sh _).trans (if_neg ?_)) (Nat.le_succ _)⟩⟩ ⟨?_, (sh 122).trans (if_pos rfl), by omega⟩ ((gn.2.1 0 (by omega)).trans p1) ((S1 0 (by omega)).trans s1) ?_ ⟨m1.1, i1, f2⟩ k32 k0 kr
  · have h9 : q.2.1 < m2.2.2.2.1 := (hM.2 q hq).2.1
    omega
  · show 122 < m2.2.2.2.1 + 1
    omega
  · show m2.2.2.2.1 + 1 = 123
    omega
