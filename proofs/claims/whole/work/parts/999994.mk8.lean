/-! THE CLASS is made -/
theorem wP_row {m : am_M} {f x : Nat} {v : Option Nat} (h : x ≠ 1) : (am_wP m 1 f v).2.1 x = m.2.1 x := u2_row _ h
def Kq (m m2 : am_M) (cnt : Nat) : Prop := (∀ x, x < cnt → m2.1 x = m.1 x) ∧ (∀ x, x ≠ 1 → x < cnt → m2.2.1 x = m.2.1 x) ∧ (∀ x, x < cnt → m2.2.2.1 x = m.2.2.1 x) ∧ m.2.2.2.1 ≤ m2.2.2.2.1
theorem Kq.rf {m : am_M} {cnt : Nat} : Kq m m cnt := ⟨fun _ _ => rfl, fun _ _ _ => rfl, fun _ _ => rfl, Nat.le_refl _⟩
theorem Gp.kq {m m2 : am_M} {cnt cnt2 f : Nat} (h : Gp m m2 cnt cnt2 f) : m.2.2.2.1 ≤ m2.2.2.2.1 → Kq m m2 cnt := fun k => ⟨h.1, h.2.1, h.2.2.1, k⟩
theorem Kq.tr {m m1 m2 : am_M} {cnt cnt2 : Nat} (h : Kq m m1 cnt) (k : Kq m1 m2 cnt2) (hc : cnt ≤ cnt2) : Kq m m2 cnt :=
  ⟨fun x hx => (k.1 x (by omega)).trans (h.1 x hx), fun x h1 hx => (k.2.1 x h1 (by omega)).trans (h.2.1 x h1 hx), fun x hx => (k.2.2.1 x (by omega)).trans (h.2.2.1 x hx), Nat.le_trans h.2.2.2 k.2.2.2⟩
theorem Gn.ob {m m2 : am_M} {ci n cnt cnt2 : Nat} (h : Gn (am_al m ci n) m2 cnt cnt2) (hm : am_obw m 1 7) (h9 : m.2.2.2.1 = cnt) (hc : 2 ≤ cnt) (hc2 : cnt ≤ cnt2) : am_obw m2 1 7 :=
  ⟨by rw [h.2.2.2.2.1]; omega, by
    rw [h.2.2.1 1 (by omega)]
    show (if 1 = m.2.2.2.1 then _ else m.2.2.1 1).1 = 7
    rw [if_neg (by omega)]; exact hm.2.1, by omega⟩
theorem Gz.gn6 {m : am_M} {cnt ci : Nat} {I : Nat → Nat → Int} {P : Nat → Nat → Option Nat} {S : Nat → Nat × Nat} (h : Gz m cnt) (hI : ∀ x, x ≠ cnt → I x = (am_al m ci 0).1 x) (hP : ∀ x, x ≠ cnt → P x = (am_al m ci 0).2.1 x) (hS : ∀ x, x < cnt + 1 → S x = (am_al m ci 0).2.2.1 x) : Gn (am_al m ci 0) (I, P, S, cnt + 2, true) cnt (cnt + 2) :=
  ⟨fun x hx => hI x (by omega), fun x hx => hP x (by omega), fun x hx => hS x (by omega), rfl, rfl, fun x hx => ⟨fun j => by
    show I x j = 0
    rw [hI x (by omega)]; exact (h.2.2 x (by omega)).1 j, fun j => by
    show P x j = none
    rw [hP x (by omega)]; exact (h.2.2 x (by omega)).2 j⟩⟩
/-- what the class's constructor tells of the figures -/
def I8 (I J : Nat → Nat → Int) : Prop := (∀ x, x ≠ 1 → x ≠ 5 → x ≠ 7 → x ≠ 26 → x ≠ 28 → x ≠ 76 → x ≠ 82 → x ≠ 84 → I x = J x) ∧ (∀ j, j ≠ 2 → I 1 j = 0) ∧ I 1 2 = -1 ∧ (∀ j, I 5 j = 0) ∧ ∀ j, I 7 j = if j = 0 then 50 else if j = 1 then 110 else if j = 2 then 100 else 0
theorem ct_new8 {G : am_G} {dp : Nat} {Q : am_Q} {m : am_M} (hd : 3 ≤ dp) (hF : Fz m 1) (hci : (m.2.2.1 1).1 = 7) (h : ∀ m' : am_M, Gz m' 103 → Cl (m'.1, m'.2.1, m'.2.2.1, m'.2.2.2.1, false) 5 26 → (∀ x, x < 1 → m'.2.1 x = m.2.1 x) → (∀ x, x < 2 → m'.2.2.1 x = m.2.2.1 x) → I8 m'.1 m.1 → Q (.inl none) m') : T G dp 101 9665 M8_init [rV (some 1)] m Q := by
  have hc : 1 ≠ 0 := by omega
  have B0 := Gr.o hF
  have y0 := fun j => (hF.2.2 1 (Nat.le_refl _)).1 j
  refine T8_init ?_
  refine X_aload_n dX8_init_0 rfl rfl ?_
  refine X_objInit dX8_init_1 ml_8_1 ob_i ob_c (by simp) ?_
  refine X_aload_n dX8_init_4 rfl rfl ?_
  refine Y_sipush dX8_init_5 (by omega) ?_
  refine X_gA (t := 102) (n := 600) dX8_init_8 dX8_init_10 ff_8_9 rfl rfl (Or.inr (Or.inr ⟨rfl, rfl⟩)) ac_b rfl (by omega) hF B0 hc hci (by omega) (by omega) (fun m1 B1 p1 s1 k1 t1 => ?_)
  have obn := B1.ob hc hci
  refine X_aload_n dX8_init_13 rfl rfl ?_
  refine Y_iconst dX8_init_14 (by unfold i32; omega) ?_
  refine X_put0 dX8_init_15 fw_8_13 rfl obn (by rw [B1.1]; exact y0 _) ?_
  refine X_aload_n dX8_init_18 rfl rfl ?_
  refine Y_iconst dX8_init_19 (by unfold i32; omega) ?_
  refine X_putI dX8_init_20 fw_8_17 rfl obn ?_
  have z0 : Gz (am_wI m1 1 2 (-1)) 3 := ⟨B1.2.2.2.2.1, B1.2.2.2.1, fun x hx => ⟨fun j => by
    show u2 m1.1 1 2 (-1) x j = 0
    rw [u2r (by omega), B1.1]; exact (hF.2.2 x (by omega)).1 j, B1.2.2.2.2.2.2 x hx⟩⟩
  have q0 : (am_wI m1 1 2 (-1)).2.1 1 0 = some 2 ∧ (am_wI m1 1 2 (-1)).2.2.1 2 = (102, 600) := ⟨p1, s1⟩
  have v0 : (∀ x, x < 1 → (am_wI m1 1 2 (-1)).2.1 x = m.2.1 x) ∧ ∀ x, x < 2 → (am_wI m1 1 2 (-1)).2.2.1 x = m.2.2.1 x := ⟨B1.2.1, B1.2.2.1⟩
  have ob0 : am_obw (am_wI m1 1 2 (-1)) 1 7 := obn
  have i0 : ∀ x, x ≠ 1 → (am_wI m1 1 2 (-1)).1 x = m.1 x := fun x hx => (u2r hx).trans (congrFun B1.1 x)
  have f0 : (∀ j, j ≠ 2 → (am_wI m1 1 2 (-1)).1 1 j = 0) ∧ (am_wI m1 1 2 (-1)).1 1 2 = -1 := ⟨fun j hj => (u2n hj).trans ((congrFun (congrFun B1.1 1) j).trans (y0 j)), show u2 m1.1 1 2 (-1) 1 2 = -1 from u2_at⟩
  generalize am_wI m1 1 2 (-1) = n0 at *
  clear B1 p1 s1 k1 t1 obn
  refine X_aload_n dX8_init_23 rfl rfl ?_
  refine X_newO (ci := 6) dX8_init_24 rfl cl_8_20 in_7 t7_init.1.2.2.1 z0.fr (by omega) (by omega) ?_
  rw [z0.2.1]
  refine X_dup dX8_init_27 rfl ?_
  refine X_callIN (a' := 1) (b' := 64) (As := []) (r := 3) dX8_init_28 t7_init mn_8_22 rfl rfl (by simp [am_wd]) rfl (by omega) (by omega) (by omega) (ct_new7 z0.fz (by omega) z0.ci fun mC eB => ?_)
  have gn : Gn (am_al n0 6 0) mC 3 5 := eB.gn z0.fz
  have iB : ∀ x, mC.1 x = n0.1 x := fun x => congrFun eB.1 x
  have oB : Sp mC 3 := Sp.mk eB (by omega) z0.ci
  have obB := gn.ob ob0 z0.2.1 (by omega) (by omega)
  refine X_putPF dX8_init_31 ff_8_23 rfl rfl obB ?_
  have g1 : Gp n0 (am_wP mC 1 3 (some 3)) 3 5 3 := gn.put rfl z0.2.1 (by omega) (by omega)
  have o1 : Sp (am_wP mC 1 3 (some 3)) 3 := oB.tr (wP_row (show (3 : Nat) ≠ 1 by omega)) (fun _ _ _ => rfl) (Nat.le_refl _)
  have ob1 : am_obw (am_wP mC 1 3 (some 3)) 1 7 := obB
  have i1 : ∀ x, (am_wP mC 1 3 (some 3)).1 x = n0.1 x := iB
  clear gn iB oB obB eB
  generalize am_wP mC 1 3 (some 3) = n1 at *
  have z1 := g1.2.2.2.2.2
  have f1 : (∀ j, j ≠ 2 → n1.1 1 j = 0) ∧ n1.1 1 2 = -1 := by rw [g1.1 1 (by omega)]; exact f0
  refine X_aload_n dX8_init_34 rfl rfl ?_
  refine X_newO (ci := 3) dX8_init_35 rfl cl_8_27 in_3 t3_init.1.2.2.1 z1.fr (by omega) (by omega) ?_
  rw [z1.2.1]
  refine X_dup dX8_init_38 rfl ?_
  refine X_callI (a' := 20) (b' := 1860) (As := []) (r := 5) dX8_init_39 t3_init ml_8_29 rfl rfl (by simp [am_wd]) rfl (by omega) (by omega) (by omega) (ct_new3 (by omega) z1.fz (by omega) z1.ci fun IB mC eB oB fB gB hB => ?_)
  have gn : Gn (am_al n1 3 0) (IB, mC.2) 5 26 := eB.gn z1.fz fB
  have iB : ∀ x, x ≠ 5 → x ≠ 7 → IB x = n1.1 x := fB
  have obB := gn.ob ob1 z1.2.1 (by omega) (by omega)
  refine X_putP dX8_init_42 fw_8_30 rfl obB ?_
  have g2 : Gp n1 (am_wP (IB, mC.2) 1 4 (some 5)) 5 26 4 := gn.put rfl z1.2.1 (by omega) (by omega)
  have o2 : El (am_wP (IB, mC.2) 1 4 (some 5)) 5 := oB.tr (fun x h1 h2 => wP_row (show x ≠ 1 by omega)) (fun _ _ _ => rfl) (Nat.le_refl _)
  have ob2 : am_obw (am_wP (IB, mC.2) 1 4 (some 5)) 1 7 := obB
  have i2 : ∀ x, x ≠ 5 → x ≠ 7 → (am_wP (IB, mC.2) 1 4 (some 5)).1 x = n1.1 x := iB
  have e5 : (∀ j, (am_wP (IB, mC.2) 1 4 (some 5)).1 5 j = 0) ∧ ∀ j, (am_wP (IB, mC.2) 1 4 (some 5)).1 7 j = if j = 0 then 50 else if j = 1 then 110 else if j = 2 then 100 else 0 := ⟨gB, hB⟩
  clear gn iB oB obB eB fB gB hB
  generalize am_wP (IB, mC.2) 1 4 (some 5) = n2 at *
  have z2 := g2.2.2.2.2.2
  have f2 : (∀ j, j ≠ 2 → n2.1 1 j = 0) ∧ n2.1 1 2 = -1 := by rw [g2.1 1 (by omega)]; exact f1
  refine X_aload_n dX8_init_45 rfl rfl ?_
  refine X_newO (ci := 3) dX8_init_46 rfl cl_8_27 in_3 t3_init.1.2.2.1 z2.fr (by omega) (by omega) ?_
  rw [z2.2.1]
  refine X_dup dX8_init_49 rfl ?_
  refine X_callI (a' := 20) (b' := 1860) (As := []) (r := 26) dX8_init_50 t3_init ml_8_29 rfl rfl (by simp [am_wd]) rfl (by omega) (by omega) (by omega) (ct_new3 (by omega) z2.fz (by omega) z2.ci fun IB mC eB oB fB gB hB => ?_)
  have gn : Gn (am_al n2 3 0) (IB, mC.2) 26 47 := eB.gn z2.fz fB
  have iB : ∀ x, x ≠ 26 → x ≠ 28 → IB x = n2.1 x := fB
  have obB := gn.ob ob2 z2.2.1 (by omega) (by omega)
  refine X_putP dX8_init_53 fw_8_34 rfl obB ?_
  have g3 : Gp n2 (am_wP (IB, mC.2) 1 5 (some 26)) 26 47 5 := gn.put rfl z2.2.1 (by omega) (by omega)
  have o3 : El (am_wP (IB, mC.2) 1 5 (some 26)) 26 := oB.tr (fun x h1 h2 => wP_row (show x ≠ 1 by omega)) (fun _ _ _ => rfl) (Nat.le_refl _)
  have ob3 : am_obw (am_wP (IB, mC.2) 1 5 (some 26)) 1 7 := obB
  have i3 : ∀ x, x ≠ 26 → x ≠ 28 → (am_wP (IB, mC.2) 1 5 (some 26)).1 x = n2.1 x := iB
  clear gn iB oB obB eB fB gB hB
  generalize am_wP (IB, mC.2) 1 5 (some 26) = n3 at *
  have z3 := g3.2.2.2.2.2
  have f3 : (∀ j, j ≠ 2 → n3.1 1 j = 0) ∧ n3.1 1 2 = -1 := by rw [g3.1 1 (by omega)]; exact f2
  refine X_aload_n dX8_init_56 rfl rfl ?_
  refine X_newO (ci := 1) dX8_init_57 rfl cl_8_37 in_1 t1_init.1.2.2.1 z3.fr (by omega) (by omega) ?_
  rw [z3.2.1]
  refine X_dup dX8_init_60 rfl ?_
  refine X_callIN (a' := 11) (b' := 1424) (As := []) (r := 47) dX8_init_61 t1_init mn_8_39 rfl rfl (by simp [am_wd]) rfl (by omega) (by omega) (by omega) (ct_new1 z3.fz (by omega) z3.ci fun mC eB oB => ?_)
  have gn : Gn (am_al n3 1 0) mC 47 59 := eB.gn z3.fz
  have iB : ∀ x, mC.1 x = n3.1 x := fun x => congrFun eB.1 x
  have obB := gn.ob ob3 z3.2.1 (by omega) (by omega)
  refine X_putPF dX8_init_64 ff_8_40 rfl rfl obB ?_
  have g4 : Gp n3 (am_wP mC 1 6 (some 47)) 47 59 6 := gn.put rfl z3.2.1 (by omega) (by omega)
  have o4 : Au (am_wP mC 1 6 (some 47)) 47 := oB.tr (fun x h1 h2 => wP_row (show x ≠ 1 by omega)) (fun _ _ _ => rfl) (Nat.le_refl _)
  have ob4 : am_obw (am_wP mC 1 6 (some 47)) 1 7 := obB
  have i4 : ∀ x, (am_wP mC 1 6 (some 47)).1 x = n3.1 x := iB
  clear gn iB oB obB eB
  generalize am_wP mC 1 6 (some 47) = n4 at *
  have z4 := g4.2.2.2.2.2
  have f4 : (∀ j, j ≠ 2 → n4.1 1 j = 0) ∧ n4.1 1 2 = -1 := by rw [g4.1 1 (by omega)]; exact f3
  refine X_aload_n dX8_init_67 rfl rfl ?_
  refine X_newO (ci := 1) dX8_init_68 rfl cl_8_37 in_1 t1_init.1.2.2.1 z4.fr (by omega) (by omega) ?_
  rw [z4.2.1]
  refine X_dup dX8_init_71 rfl ?_
  refine X_callIN (a' := 11) (b' := 1424) (As := []) (r := 59) dX8_init_72 t1_init mn_8_39 rfl rfl (by simp [am_wd]) rfl (by omega) (by omega) (by omega) (ct_new1 z4.fz (by omega) z4.ci fun mC eB oB => ?_)
  have gn : Gn (am_al n4 1 0) mC 59 71 := eB.gn z4.fz
  have iB : ∀ x, mC.1 x = n4.1 x := fun x => congrFun eB.1 x
  have obB := gn.ob ob4 z4.2.1 (by omega) (by omega)
  refine X_putPF dX8_init_75 ff_8_44 rfl rfl obB ?_
  have g5 : Gp n4 (am_wP mC 1 7 (some 59)) 59 71 7 := gn.put rfl z4.2.1 (by omega) (by omega)
  have o5 : Au (am_wP mC 1 7 (some 59)) 59 := oB.tr (fun x h1 h2 => wP_row (show x ≠ 1 by omega)) (fun _ _ _ => rfl) (Nat.le_refl _)
  have ob5 : am_obw (am_wP mC 1 7 (some 59)) 1 7 := obB
  have i5 : ∀ x, (am_wP mC 1 7 (some 59)).1 x = n4.1 x := iB
  clear gn iB oB obB eB
  generalize am_wP mC 1 7 (some 59) = n5 at *
  have z5 := g5.2.2.2.2.2
  have f5 : (∀ j, j ≠ 2 → n5.1 1 j = 0) ∧ n5.1 1 2 = -1 := by rw [g5.1 1 (by omega)]; exact f4
  refine X_aload_n dX8_init_78 rfl rfl ?_
  refine X_newO (ci := 0) dX8_init_79 rfl cl_8_47 in_0 t0_init.1.2.2.1 z5.fr (by omega) (by omega) ?_
  rw [z5.2.1]
  refine X_dup dX8_init_82 rfl ?_
  refine X_callIN (a' := 4) (b' := 48) (As := []) (r := 71) dX8_init_83 t0_init mn_8_49 rfl rfl (by simp [am_wd]) rfl (by omega) (by omega) (by omega) (ct_new0 z5.fz (by omega) z5.ci fun mC eB => ?_)
  have gn : Gn (am_al n5 0 0) mC 71 76 := eB.gn z5.fz
  have iB : ∀ x, mC.1 x = n5.1 x := fun x => congrFun eB.1 x
  have oB : Ac mC 71 := Ac.mk eB (by omega) z5.ci
  have obB := gn.ob ob5 z5.2.1 (by omega) (by omega)
  refine X_putPF dX8_init_86 ff_8_50 rfl rfl obB ?_
  have g6 : Gp n5 (am_wP mC 1 8 (some 71)) 71 76 8 := gn.put rfl z5.2.1 (by omega) (by omega)
  have o6 : Ac (am_wP mC 1 8 (some 71)) 71 := oB.tr (wP_row (show (71 : Nat) ≠ 1 by omega)) (fun _ _ _ => rfl) (Nat.le_refl _)
  have ob6 : am_obw (am_wP mC 1 8 (some 71)) 1 7 := obB
  have i6 : ∀ x, (am_wP mC 1 8 (some 71)).1 x = n5.1 x := iB
  clear gn iB oB obB eB
  generalize am_wP mC 1 8 (some 71) = n6 at *
  have z6 := g6.2.2.2.2.2
  have f6 : (∀ j, j ≠ 2 → n6.1 1 j = 0) ∧ n6.1 1 2 = -1 := by rw [g6.1 1 (by omega)]; exact f5
  refine X_aload_n dX8_init_89 rfl rfl ?_
  refine X_newO (ci := 5) dX8_init_90 rfl cl_8_54 in_6 t6_init.1.2.2.1 z6.fr (by omega) (by omega) ?_
  rw [z6.2.1]
  refine X_dup dX8_init_93 rfl ?_
  refine X_callIN (a' := 1) (b' := 0) (As := []) (r := 76) dX8_init_94 t6_init mn_8_56 rfl rfl (by simp [am_wd]) rfl (by omega) (by omega) (by omega) (ct_new6 z6.fz (by omega) z6.ci fun IB PB SB iB pB sB => ?_)
  have gn : Gn (am_al n6 5 0) (IB, PB, SB, 76 + 2, true) 76 78 := z6.gn6 iB pB sB
  have iB : ∀ x, x ≠ 76 → IB x = n6.1 x := iB
  have oB : am_obw (IB, PB, SB, 76 + 2, true) 76 5 := ⟨by show 76 < 76 + 2; omega, by show (SB 76).1 = 5; rw [sB 76 (by omega)]; exact z6.ci, by omega⟩
  have obB := gn.ob ob6 z6.2.1 (by omega) (by omega)
  refine X_putPF dX8_init_97 ff_8_57 rfl rfl obB ?_
  have g7 : Gp n6 (am_wP (IB, PB, SB, 76 + 2, true) 1 9 (some 76)) 76 78 9 := gn.put rfl z6.2.1 (by omega) (by omega)
  have o7 : am_obw (am_wP (IB, PB, SB, 76 + 2, true) 1 9 (some 76)) 76 5 := oB
  have ob7 : am_obw (am_wP (IB, PB, SB, 76 + 2, true) 1 9 (some 76)) 1 7 := obB
  have i7 : ∀ x, x ≠ 76 → (am_wP (IB, PB, SB, 76 + 2, true) 1 9 (some 76)).1 x = n6.1 x := iB
  clear gn iB oB obB pB sB
  generalize am_wP (IB, PB, SB, 76 + 2, true) 1 9 (some 76) = n7 at *
  have z7 := g7.2.2.2.2.2
  have f7 : (∀ j, j ≠ 2 → n7.1 1 j = 0) ∧ n7.1 1 2 = -1 := by rw [g7.1 1 (by omega)]; exact f6
  refine X_aload_n dX8_init_100 rfl rfl ?_
  refine X_newO (ci := 4) dX8_init_101 rfl cl_8_61 in_5 t5_init.1.2.2.1 z7.fr (by omega) (by omega) ?_
  rw [z7.2.1]
  refine X_dup dX8_init_104 rfl ?_
  refine X_callIN (a' := 3) (b' := 464) (As := []) (r := 78) dX8_init_105 t5_init mn_8_63 rfl rfl (by simp [am_wd]) rfl (by omega) (by omega) (by omega) (ct_new5 z7.fz (by omega) z7.ci fun mC eB => ?_)
  have gn : Gn (am_al n7 4 0) mC 78 82 := eB.gn z7.fz
  have iB : ∀ x, mC.1 x = n7.1 x := fun x => congrFun eB.1 x
  have oB : Qu mC 78 := Qu.mk eB (by omega) z7.ci
  have obB := gn.ob ob7 z7.2.1 (by omega) (by omega)
  refine X_putPF dX8_init_108 ff_8_64 rfl rfl obB ?_
  have g8 : Gp n7 (am_wP mC 1 10 (some 78)) 78 82 10 := gn.put rfl z7.2.1 (by omega) (by omega)
  have o8 : Qu (am_wP mC 1 10 (some 78)) 78 := oB.tr (wP_row (show (78 : Nat) ≠ 1 by omega)) (fun _ _ _ => rfl) (Nat.le_refl _)
  have ob8 : am_obw (am_wP mC 1 10 (some 78)) 1 7 := obB
  have i8 : ∀ x, (am_wP mC 1 10 (some 78)).1 x = n7.1 x := iB
  clear gn iB oB obB eB
  generalize am_wP mC 1 10 (some 78) = n8 at *
  have z8 := g8.2.2.2.2.2
  have f8 : (∀ j, j ≠ 2 → n8.1 1 j = 0) ∧ n8.1 1 2 = -1 := by rw [g8.1 1 (by omega)]; exact f7
  refine X_aload_n dX8_init_111 rfl rfl ?_
  refine Y_iconst dX8_init_112 (by unfold i32; omega) ?_
  refine X_put0Z dX8_init_113 fw_8_68 rfl ob8 (f8.1 _ (by omega)) ?_
  refine X_aload_n dX8_init_116 rfl rfl ?_
  refine X_newO (ci := 3) dX8_init_117 rfl cl_8_27 in_3 t3_init.1.2.2.1 z8.fr (by omega) (by omega) ?_
  rw [z8.2.1]
  refine X_dup dX8_init_120 rfl ?_
  refine X_callI (a' := 20) (b' := 1860) (As := []) (r := 82) dX8_init_121 t3_init ml_8_29 rfl rfl (by simp [am_wd]) rfl (by omega) (by omega) (by omega) (ct_new3 (by omega) z8.fz (by omega) z8.ci fun IB mC eB oB fB gB hB => ?_)
  have gn : Gn (am_al n8 3 0) (IB, mC.2) 82 103 := eB.gn z8.fz fB
  have iB : ∀ x, x ≠ 82 → x ≠ 84 → IB x = n8.1 x := fB
  have obB := gn.ob ob8 z8.2.1 (by omega) (by omega)
  refine X_putPF dX8_init_124 ff_8_72 rfl rfl obB ?_
  have g9 : Gp n8 (am_wP (IB, mC.2) 1 12 (some 82)) 82 103 12 := gn.put rfl z8.2.1 (by omega) (by omega)
  have o9 : El (am_wP (IB, mC.2) 1 12 (some 82)) 82 := oB.tr (fun x h1 h2 => wP_row (show x ≠ 1 by omega)) (fun _ _ _ => rfl) (Nat.le_refl _)
  have ob9 : am_obw (am_wP (IB, mC.2) 1 12 (some 82)) 1 7 := obB
  have i9 : ∀ x, x ≠ 82 → x ≠ 84 → (am_wP (IB, mC.2) 1 12 (some 82)).1 x = n8.1 x := iB
  clear gn iB oB obB eB fB gB hB
  generalize am_wP (IB, mC.2) 1 12 (some 82) = n9 at *
  have z9 := g9.2.2.2.2.2
  have f9 : (∀ j, j ≠ 2 → n9.1 1 j = 0) ∧ n9.1 1 2 = -1 := by rw [g9.1 1 (by omega)]; exact f8
  have K9 : Kq n9 n9 103 := Kq.rf
  have K8 : Kq n8 n9 82 := Kq.tr (g9.kq (by rw [z8.2.1, z9.2.1]; omega)) K9 (by omega)
  have K7 : Kq n7 n9 78 := Kq.tr (g8.kq (by rw [z7.2.1, z8.2.1]; omega)) K8 (by omega)
  have K6 : Kq n6 n9 76 := Kq.tr (g7.kq (by rw [z6.2.1, z7.2.1]; omega)) K7 (by omega)
  have K5 : Kq n5 n9 71 := Kq.tr (g6.kq (by rw [z5.2.1, z6.2.1]; omega)) K6 (by omega)
  have K4 : Kq n4 n9 59 := Kq.tr (g5.kq (by rw [z4.2.1, z5.2.1]; omega)) K5 (by omega)
  have K3 : Kq n3 n9 47 := Kq.tr (g4.kq (by rw [z3.2.1, z4.2.1]; omega)) K4 (by omega)
  have K2 : Kq n2 n9 26 := Kq.tr (g3.kq (by rw [z2.2.1, z3.2.1]; omega)) K3 (by omega)
  have K1 : Kq n1 n9 5 := Kq.tr (g2.kq (by rw [z1.2.1, z2.2.1]; omega)) K2 (by omega)
  have K0 : Kq n0 n9 3 := Kq.tr (g1.kq (by rw [z0.2.1, z1.2.1]; omega)) K1 (by omega)
  refine X_vret dX8_init_127 rfl (h n9 z9 ⟨rfl, Or.inl ⟨rfl, rfl⟩, ob9, ⟨?_, ?_, ?_, ?_, ?_, ?_, ?_, ?_, ?_, ?_⟩, ⟨?_, ?_, by omega⟩, ⟨?_, ?_, ?_⟩, ⟨?_, ?_⟩, ?_, ?_, ?_, ?_⟩ (fun x hx => ?_) (fun x hx => ?_) ⟨fun x a1 a5 a7 a26 a28 a76 a82 a84 => ?_, f9.1, f9.2, ?_, ?_⟩)
  · show n9.2.1 1 0 = _
    rw [g9.2.2.2.1 0 (by omega), g8.2.2.2.1 0 (by omega), g7.2.2.2.1 0 (by omega), g6.2.2.2.1 0 (by omega), g5.2.2.2.1 0 (by omega), g4.2.2.2.1 0 (by omega), g3.2.2.2.1 0 (by omega), g2.2.2.2.1 0 (by omega), g1.2.2.2.1 0 (by omega)]
    exact q0.1
  · show n9.2.1 1 3 = _
    rw [g9.2.2.2.1 3 (by omega), g8.2.2.2.1 3 (by omega), g7.2.2.2.1 3 (by omega), g6.2.2.2.1 3 (by omega), g5.2.2.2.1 3 (by omega), g4.2.2.2.1 3 (by omega), g3.2.2.2.1 3 (by omega), g2.2.2.2.1 3 (by omega)]
    exact g1.2.2.2.2.1
  · show n9.2.1 1 4 = _
    rw [g9.2.2.2.1 4 (by omega), g8.2.2.2.1 4 (by omega), g7.2.2.2.1 4 (by omega), g6.2.2.2.1 4 (by omega), g5.2.2.2.1 4 (by omega), g4.2.2.2.1 4 (by omega), g3.2.2.2.1 4 (by omega)]
    exact g2.2.2.2.2.1
  · show n9.2.1 1 5 = _
    rw [g9.2.2.2.1 5 (by omega), g8.2.2.2.1 5 (by omega), g7.2.2.2.1 5 (by omega), g6.2.2.2.1 5 (by omega), g5.2.2.2.1 5 (by omega), g4.2.2.2.1 5 (by omega)]
    exact g3.2.2.2.2.1
  · show n9.2.1 1 6 = _
    rw [g9.2.2.2.1 6 (by omega), g8.2.2.2.1 6 (by omega), g7.2.2.2.1 6 (by omega), g6.2.2.2.1 6 (by omega), g5.2.2.2.1 6 (by omega)]
    exact g4.2.2.2.2.1
  · show n9.2.1 1 7 = _
    rw [g9.2.2.2.1 7 (by omega), g8.2.2.2.1 7 (by omega), g7.2.2.2.1 7 (by omega), g6.2.2.2.1 7 (by omega)]
    exact g5.2.2.2.2.1
  · show n9.2.1 1 8 = _
    rw [g9.2.2.2.1 8 (by omega), g8.2.2.2.1 8 (by omega), g7.2.2.2.1 8 (by omega)]
    exact g6.2.2.2.2.1
  · show n9.2.1 1 9 = _
    rw [g9.2.2.2.1 9 (by omega), g8.2.2.2.1 9 (by omega)]
    exact g7.2.2.2.2.1
  · show n9.2.1 1 10 = _
    rw [g9.2.2.2.1 10 (by omega)]
    exact g8.2.2.2.2.1
  · show n9.2.1 1 12 = _
    exact g9.2.2.2.2.1
  · show 2 < n9.2.2.2.1
    rw [z9.2.1]; omega
  · show n9.2.2.1 2 = _
    rw [K0.2.2.1 2 (by omega)]; exact q0.2
  · exact o2.tr (m' := (n9.1, n9.2.1, n9.2.2.1, n9.2.2.2.1, false)) (fun x _ _ => K2.2.1 x (by omega) (by omega)) (fun x _ _ => K2.2.2.1 x (by omega)) K2.2.2.2
  · exact o3.tr (m' := (n9.1, n9.2.1, n9.2.2.1, n9.2.2.2.1, false)) (fun x _ _ => K3.2.1 x (by omega) (by omega)) (fun x _ _ => K3.2.2.1 x (by omega)) K3.2.2.2
  · exact o9.tr (m' := (n9.1, n9.2.1, n9.2.2.1, n9.2.2.2.1, false)) (fun x _ _ => K9.2.1 x (by omega) (by omega)) (fun x _ _ => K9.2.2.1 x (by omega)) K9.2.2.2
  · exact o4.tr (m' := (n9.1, n9.2.1, n9.2.2.1, n9.2.2.2.1, false)) (fun x _ _ => K4.2.1 x (by omega) (by omega)) (fun x _ _ => K4.2.2.1 x (by omega)) K4.2.2.2
  · exact o5.tr (m' := (n9.1, n9.2.1, n9.2.2.1, n9.2.2.2.1, false)) (fun x _ _ => K5.2.1 x (by omega) (by omega)) (fun x _ _ => K5.2.2.1 x (by omega)) K5.2.2.2
  · exact o6.tr (m' := (n9.1, n9.2.1, n9.2.2.1, n9.2.2.2.1, false)) (K6.2.1 _ (by omega) (by omega)) (fun x _ _ => K6.2.2.1 x (by omega)) K6.2.2.2
  · exact o1.tr (m' := (n9.1, n9.2.1, n9.2.2.1, n9.2.2.2.1, false)) (K1.2.1 _ (by omega) (by omega)) (fun x _ _ => K1.2.2.1 x (by omega)) K1.2.2.2
  · refine ⟨?_, ?_, by omega⟩
    · show 76 < n9.2.2.2.1
      rw [z9.2.1]; omega
    · show (n9.2.2.1 76).1 = 5
      rw [K7.2.2.1 76 (by omega)]; exact o7.2.1
  · exact o8.tr (m' := (n9.1, n9.2.1, n9.2.2.1, n9.2.2.2.1, false)) (K8.2.1 _ (by omega) (by omega)) (fun x _ _ => K8.2.2.1 x (by omega)) K8.2.2.2
  · rw [K0.2.1 x (by omega) (by omega)]; exact v0.1 x hx
  · rw [K0.2.2.1 x (by omega)]; exact v0.2 x hx
  · rw [i9 x a82 a84, i8 x, i7 x a76, i6 x, i5 x, i4 x, i3 x a26 a28, i2 x a5 a7, i1 x]; exact i0 x a1
  · rw [K2.1 5 (by omega)]; exact e5.1
  · rw [K2.1 7 (by omega)]; exact e5.2
