/-! THE AUDIT is made -/
def Gr (m0 m : am_M) (c cnt : Nat) : Prop := m.1 = m0.1 ∧ (∀ x, x < c → m.2.1 x = m0.2.1 x) ∧ (∀ x, x < c + 1 → m.2.2.1 x = m0.2.2.1 x) ∧ m.2.2.2.1 = cnt ∧ m.2.2.2.2 = true ∧ c < cnt ∧ ∀ x, cnt ≤ x → ∀ j, m.2.1 x j = none
theorem Gr.o {m0 : am_M} {c : Nat} (h : Fz m0 c) : Gr m0 m0 c (c + 1) := ⟨rfl, fun _ _ => rfl, fun _ _ => rfl, h.2.1, h.1, by omega, fun x hx => (h.2.2 x (by omega)).2⟩
theorem Gr.ob {m0 m : am_M} {c cnt ci : Nat} (h : Gr m0 m c cnt) (hc : c ≠ 0) (hci : (m0.2.2.1 c).1 = ci) : am_obw m c ci := ⟨by rw [h.2.2.2.1]; exact h.2.2.2.2.2.1, by rw [h.2.2.1 c (by omega)]; exact hci, hc⟩
theorem X_gA {G : am_G} {d a b : Nat} {M : am_Me} {pc : Nat} {L : List (Option am_V)} {st : List am_V} {m0 m : am_M} {Q : am_Q} {idx ci c cnt f t n : Nat} {z : Int} {at9 : ArrayType} (hd : decode M.2.1 pc = .ok (.newarray at9, 2)) (hd2 : decode M.2.1 (pc + 2) = .ok (.putfield idx, 3)) (hf : am_ff M.2.2.2.2.1 idx ci f) (hi : M.1.name = "<init>") (hk : am_fk (am_ty ci f) = 1) (ht : t = 100 ∧ at9 = .int ∨ t = 101 ∧ at9 = .long ∨ t = 102 ∧ at9 = .byte) (hcl : Cond.arrayClass (newarray.typeOf at9) ∈ lw_tbl) (hz : z = n) (hn : n ≤ 20000) (hF : Fz m0 c) (hB : Gr m0 m c cnt) (hc : c ≠ 0) (hci : (m0.2.2.1 c).1 = ci) (ha : 1 ≤ a) (hb : n ≤ b) (k : ∀ m', Gr m0 m' c (cnt + 1) → m'.2.1 c f = some cnt → m'.2.2.1 cnt = (t, n) → (∀ x k, x ≠ c ∨ k ≠ f → m'.2.1 x k = m.2.1 x k) → (∀ x, x < cnt → m'.2.2.1 x = m.2.2.1 x) → X G d (a - 1) (b - n) M (pc + 5) L st m' Q) : X G d a b M pc L (iV z :: rV (some c) :: st) m Q := by
  have ob0 := hB.ob hc hci
  obtain ⟨g1, g2, g3, g4, g5, g6, g7⟩ := hB
  refine X_newA (t := t) (n := n) hd ht hcl hz hn ⟨g5, fun j => by rw [g1]; exact (hF.2.2 _ (by omega)).1 j, fun j => g7 _ (by omega) j⟩ ha hb ?_
  have sh : ∀ x, (am_al m t n).2.2.1 x = if x = cnt then (t, n) else m.2.2.1 x := fun x => by show (if x = m.2.2.2.1 then _ else _) = _; rw [g4]
  have ob : am_obw (am_al m t n) c ci := ⟨by show c < m.2.2.2.1 + 1; omega, by rw [sh, if_neg (by omega)]; exact ob0.2.1, hc⟩
  rw [g4]
  have P9 : ∀ x j, x ≠ c ∨ j ≠ f → (am_wP (am_al m t n) c f (some cnt)).2.1 x j = m.2.1 x j := fun x j hx => u2_ne _ hx
  refine X_putPF hd2 hf hi hk ob (k _ ⟨g1, fun x hx => ?_, fun x hx => ?_, ?_, g5, by omega, fun x hx j => ?_⟩ (u2_same _ _ _ _) ?_ P9 (fun x hx => ?_))
  · exact (funext fun j => P9 x j (Or.inl (by omega))).trans (g2 x hx)
  · exact (sh x).trans (by rw [if_neg (by omega)]; exact g3 x hx)
  · show m.2.2.2.1 + 1 = cnt + 1
    omega
  · exact (P9 x j (Or.inl (by omega))).trans (g7 x (by omega) j)
  · exact (sh cnt).trans (if_pos rfl)
  · exact (sh x).trans (if_neg (by omega))
theorem X_gM {G : am_G} {d a b : Nat} {M : am_Me} {pc : Nat} {L : List (Option am_V)} {st : List am_V} {m0 m : am_M} {Q : am_Q} {idx ix2 ci c cnt f n k : Nat} {y z : Int} (hd : decode M.2.1 pc = .ok (.multianewarray ix2 2, 4)) (hd2 : decode M.2.1 (pc + 4) = .ok (.putfield idx, 3)) (hf : am_ff M.2.2.2.2.1 idx ci f) (hi : M.1.name = "<init>") (hk : am_fk (am_ty ci f) = 1) (hcl : Cond.classLink M.2.2.2.2.1 ix2 "[[J" ∈ lw_tbl) (hov : Cond.arrayOver (.array .long) ∈ lw_tbl) (hz : z = n) (hy : y = k) (hn : n ≤ 100) (hk9 : k ≤ 1000) (hF : Fz m0 c) (hB : Gr m0 m c cnt) (hc : c ≠ 0) (hci : (m0.2.2.1 c).1 = ci) (ha : 1 + n ≤ a) (hb : n + n * k ≤ b) (kk : ∀ m', Gr m0 m' c (cnt + 1 + n) → m'.2.1 c f = some cnt → m'.2.2.1 cnt = (104, n) → (∀ j, j < n → m'.2.1 cnt j = some (cnt + 1 + j) ∧ m'.2.2.1 (cnt + 1 + j) = (101, k)) → (∀ x k, x < cnt → x ≠ c ∨ k ≠ f → m'.2.1 x k = m.2.1 x k) → (∀ x, x < cnt → m'.2.2.1 x = m.2.2.1 x) → X G d (a - (1 + n)) (b - (n + n * k)) M (pc + 7) L st m' Q) : X G d a b M pc L (iV y :: iV z :: rV (some c) :: st) m Q := by
  have ob0 := hB.ob hc hci
  obtain ⟨g1, g2, g3, g4, g5, g6, g7⟩ := hB
  refine X_newM (n := n) (k := k) hd hcl hov ac_l hz hy hn hk9 ⟨g5, fun x hx _ => ⟨fun j => by rw [g1]; exact (hF.2.2 _ (by omega)).1 j, fun j => g7 _ (by omega) j⟩⟩ ha hb ?_
  have sh : ∀ x, (am_alM m n k).2.2.1 x = if x = cnt then (104, n) else if cnt < x ∧ x < cnt + 1 + n then (101, k) else m.2.2.1 x := fun x => by show (if x = m.2.2.2.1 then _ else if m.2.2.2.1 < x ∧ x < m.2.2.2.1 + 1 + n then _ else _) = _; rw [g4]
  have pt : ∀ x j, (am_alM m n k).2.1 x j = if x = cnt ∧ j < n then some (cnt + 1 + j) else m.2.1 x j := fun x j => by show (if x = m.2.2.2.1 ∧ j < n then some (m.2.2.2.1 + 1 + j) else _) = _; rw [g4]
  have ob : am_obw (am_alM m n k) c ci := ⟨by show c < m.2.2.2.1 + 1 + n; omega, by rw [sh, if_neg (by omega), if_neg (by omega)]; exact ob0.2.1, hc⟩
  rw [g4]
  have P9 : ∀ x j, x ≠ c ∨ j ≠ f → (am_wP (am_alM m n k) c f (some cnt)).2.1 x j = if x = cnt ∧ j < n then some (cnt + 1 + j) else m.2.1 x j := fun x j hx => (u2_ne _ hx).trans (pt x j)
  refine X_putPF hd2 hf hi hk ob (kk _ ⟨g1, fun x hx => ?_, fun x hx => ?_, ?_, g5, by omega, fun x hx j => ?_⟩ (u2_same _ _ _ _) ?_ (fun j hj => ⟨?_, ?_⟩) (fun x j hx h => ?_) (fun x hx => ?_))
  · exact (funext fun j => (P9 x j (Or.inl (by omega))).trans (if_neg (by omega))).trans (g2 x hx)
  · exact (sh x).trans (by rw [if_neg (by omega), if_neg (by omega)]; exact g3 x hx)
  · show m.2.2.2.1 + 1 + n = cnt + 1 + n
    omega
  · refine (P9 x j (Or.inl (by omega))).trans ?_
    rw [if_neg (by omega)]
    exact g7 x (by omega) j
  · exact (sh cnt).trans (if_pos rfl)
  · refine (P9 cnt j (Or.inl (by omega))).trans ?_
    rw [if_pos ⟨rfl, hj⟩]
  · exact (sh _).trans (by rw [if_neg (by omega), if_pos (by omega)])
  · exact (P9 x j h).trans (if_neg (by omega))
  · exact (sh x).trans (by rw [if_neg (by omega), if_neg (by omega)])
theorem cl_1_9 : Cond.classLink RX1 9 "[[J" ∈ lw_tbl := List.mem_of_getElem? (i := 266) (by decide +kernel)
theorem ao_J : Cond.arrayOver (.array .long) ∈ lw_tbl := List.mem_of_getElem? (i := 267) (by decide +kernel)
theorem ct_new1 {G : am_G} {dp : Nat} {Q : am_Q} {m : am_M} {c : Nat} (hF : Fz m c) (hc : c ≠ 0) (hci : (m.2.2.1 c).1 = 1) (h : ∀ m', Gr m m' c (c + 12) → Au m' c → Q (.inl none) m') : T G dp 11 1424 M1_init [rV (some c)] m Q := by
  have B0 := Gr.o hF
  have z0 := fun j => (hF.2.2 c (Nat.le_refl _)).1 j
  refine T1_init ?_
  refine X_aload_n dX1_init_0 rfl rfl ?_
  refine X_objInit dX1_init_1 ml_1_3 ob_i ob_c (by simp) ?_
  refine X_aload_n dX1_init_4 rfl rfl ?_
  refine Y_iconst dX1_init_5 (by unfold i32; omega) ?_
  refine Y_iconst dX1_init_6 (by unfold i32; omega) ?_
  refine X_gM (n := 3) (k := 4) dX1_init_7 dX1_init_11 ff_1_11 rfl rfl cl_1_9 ao_J rfl rfl (by omega) (by omega) hF B0 hc hci (by omega) (by omega) (fun m1 B1 p1 s1 q1 k1 t1 => ?_)
  refine X_aload_n dX1_init_14 rfl rfl ?_
  refine Y_iconst dX1_init_15 (by unfold i32; omega) ?_
  refine Y_sipush dX1_init_16 (by omega) ?_
  refine X_gM (n := 3) (k := 301) dX1_init_19 dX1_init_23 ff_1_16 rfl rfl cl_1_9 ao_J rfl rfl (by omega) (by omega) hF B1 hc hci (by omega) (by omega) (fun m2 B2 p2 s2 q2 k2 t2 => ?_)
  refine X_aload_n dX1_init_26 rfl rfl ?_
  refine Y_iconst dX1_init_27 (by unfold i32; omega) ?_
  refine X_gA (t := 100) (n := 3) dX1_init_28 dX1_init_30 ff_1_19 rfl rfl (Or.inl ⟨rfl, rfl⟩) ac_i rfl (by omega) hF B2 hc hci (by omega) (by omega) (fun m3 B3 p3 s3 k3 t3 => ?_)
  refine X_aload_n dX1_init_33 rfl rfl ?_
  refine Y_sipush dX1_init_34 (by omega) ?_
  refine X_gA (t := 100) (n := 300) dX1_init_37 dX1_init_39 ff_1_23 rfl rfl (Or.inl ⟨rfl, rfl⟩) ac_i rfl (by omega) hF B3 hc hci (by omega) (by omega) (fun m4 B4 p4 s4 k4 t4 => ?_)
  refine X_aload_n dX1_init_42 rfl rfl ?_
  refine Y_sipush dX1_init_43 (by omega) ?_
  refine X_gA (t := 100) (n := 200) dX1_init_46 dX1_init_48 ff_1_26 rfl rfl (Or.inl ⟨rfl, rfl⟩) ac_i rfl (by omega) hF B4 hc hci (by omega) (by omega) (fun m5 B5 p5 s5 k5 t5 => ?_)
  have ob := B5.ob hc hci
  have z5 : ∀ j, m5.1 c j = 0 := fun j => by rw [B5.1]; exact z0 j
  refine X_aload_n dX1_init_51 rfl rfl ?_
  refine Y_iconst dX1_init_52 (by unfold i32; omega) ?_
  refine X_put0 dX1_init_53 fw_1_29 rfl ob (z5 _) ?_
  refine X_aload_n dX1_init_56 rfl rfl ?_
  refine Y_iconst dX1_init_57 (by unfold i32; omega) ?_
  refine X_put0 dX1_init_58 fw_1_33 rfl ob (z5 _) ?_
  refine X_aload_n dX1_init_61 rfl rfl ?_
  refine Y_iconst dX1_init_62 (by unfold i32; omega) ?_
  refine X_put0 dX1_init_63 fw_1_36 rfl ob (z5 _) ?_
  refine X_aload_n dX1_init_66 rfl rfl ?_
  refine Y_iconst dX1_init_67 (by unfold i32; omega) ?_
  refine X_put0 dX1_init_68 fw_1_39 rfl ob (z5 _) ?_
  have cnt := B5.2.2.2.1
  have a2 : m5.2.1 c 1 = some (c + 5) := by rw [k5 _ _ (Or.inr (by omega)), k4 _ _ (Or.inr (by omega)), k3 _ _ (Or.inr (by omega))]; exact p2
  have a1 : m5.2.1 c 0 = some (c + 1) := by rw [k5 _ _ (Or.inr (by omega)), k4 _ _ (Or.inr (by omega)), k3 _ _ (Or.inr (by omega)), k2 _ _ (by omega) (Or.inr (by omega))]; exact p1
  have a3 : m5.2.1 c 2 = some (c + 9) := by rw [k5 _ _ (Or.inr (by omega)), k4 _ _ (Or.inr (by omega))]; exact p3
  have a4 : m5.2.1 c 3 = some (c + 10) := by rw [k5 _ _ (Or.inr (by omega))]; exact p4
  have b1 : ∀ x, x < c + 5 → m5.2.2.1 x = m1.2.2.1 x := fun x hx => by rw [t5 _ (by omega), t4 _ (by omega), t3 _ (by omega), t2 _ (by omega)]
  have b2 : ∀ x, x < c + 9 → m5.2.2.1 x = m2.2.2.1 x := fun x hx => by rw [t5 _ (by omega), t4 _ (by omega), t3 _ (by omega)]
  refine X_vret dX1_init_71 rfl (h m5 B5 ⟨ob, ⟨a1, a2, a3, a4, p5⟩, ⟨⟨by omega, by rw [b1 _ (by omega)]; exact s1, by omega⟩, ⟨by omega, by rw [b2 _ (by omega)]; exact s2, by omega⟩, ⟨by omega, by rw [t5 _ (by omega), t4 _ (by omega)]; exact s3, by omega⟩, ⟨by omega, by rw [t5 _ (by omega)]; exact s4, by omega⟩, ⟨by omega, s5, by omega⟩⟩, fun r hr => ⟨⟨?_, ?_⟩, ⟨by omega, ?_, by omega⟩, by omega, ?_, by omega⟩⟩)
  · rw [k5 _ _ (Or.inl (by omega)), k4 _ _ (Or.inl (by omega)), k3 _ _ (Or.inl (by omega)), k2 _ _ (by omega) (Or.inl (by omega))]
    exact (q1 r hr).1
  · rw [k5 _ _ (Or.inl (by omega)), k4 _ _ (Or.inl (by omega)), k3 _ _ (Or.inl (by omega))]
    exact (q2 r hr).1
  · rw [b1 _ (by omega)]; exact (q1 r hr).2
  · rw [b2 _ (by omega)]; exact (q2 r hr).2
