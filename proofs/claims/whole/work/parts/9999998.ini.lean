/-! THE LAW: from its entry to its end -/
theorem row0_kN : kN row0 = 0 := by
  have h := kN_R6 row0_ok.1.1
  rw [row0_ok.1.2] at h
  omega
theorem row0_rC : rC row0 = 0 := by
  unfold rC
  rw [row0_ok.2.2]
  rfl
theorem law_ini {m m' : am_M} {len : Nat} (z : Gz m 1) (hl2 : len ≤ 3072) (hC : Cl m' 5 26) (hM : Md m') (ho : am_arw m' 122 101 1) (hJ : ∃ J, I8 J m.1 ∧ ∀ x, x ≠ 103 → x ≠ 104 → m'.1 x = J x) (k32 : m'.1 103 32 = -1) (k0 : ∀ j, j ≠ 32 → m'.1 103 j = 0) (kr : ∀ j, j < 1514 → m'.1 104 j = row0 j) : zJ m' len := by
  obtain ⟨J, ⟨j1, j2, j3, j4, j5⟩, hJ⟩ := hJ
  have zz : ∀ x j, 1 ≤ x → x ≠ 1 → x ≠ 5 → x ≠ 7 → x ≠ 26 → x ≠ 28 → x ≠ 76 → x ≠ 82 → x ≠ 84 → x ≠ 103 → x ≠ 104 → m'.1 x j = 0 := fun x j h h1 h2 h3 h4 h5 h6 h7 h8 h9 h10 => by
    rw [hJ x h9 h10, j1 x h1 h2 h3 h4 h5 h6 h7 h8]
    exact (z.2.2 x h).1 j
  have i1 : ∀ j, j ≠ 2 → m'.1 1 j = 0 := fun j hj => by rw [hJ 1 (by omega) (by omega)]; exact j2 j hj
  have i2 : m'.1 1 2 = -1 := by rw [hJ 1 (by omega) (by omega)]; exact j3
  have i5 : ∀ j, m'.1 5 j = 0 := fun j => by rw [hJ 5 (by omega) (by omega)]; exact j4 j
  have i7 : ∀ j, m'.1 (5 + 2) j = if j = 0 then 50 else if j = 1 then 110 else if j = 2 then 100 else 0 := fun j => by rw [hJ (5 + 2) (by omega) (by omega)]; exact j5 j
  have hEl : ElV m'.1 5 row0 := ⟨i5 2, i5 3, i5 4, i5 5, ⟨i7 0, i7 1, i7 2⟩, fun r hr => by rw [row0_rC] at hr; exact absurd hr (Nat.not_lt_zero r)⟩
  have hAu : AuV m'.1 47 row0 (row0 5) (kN row0) := by
    rw [row0_kN]
    unfold AuV
    rw [row0_rC]
    refine ⟨zz _ _ (by omega) (by omega) (by omega) (by omega) (by omega) (by omega) (by omega) (by omega) (by omega) (by omega) (by omega), zz _ _ (by omega) (by omega) (by omega) (by omega) (by omega) (by omega) (by omega) (by omega) (by omega) (by omega) (by omega), zz _ _ (by omega) (by omega) (by omega) (by omega) (by omega) (by omega) (by omega) (by omega) (by omega) (by omega) (by omega), zz _ _ (by omega) (by omega) (by omega) (by omega) (by omega) (by omega) (by omega) (by omega) (by omega) (by omega) (by omega), fun r hr => absurd hr (Nat.not_lt_zero r), fun j hj => absurd hj (Nat.not_lt_zero j), fun b hb => zz _ _ (by omega) (by omega) (by omega) (by omega) (by omega) (by omega) (by omega) (by omega) (by omega) (by omega) (by omega)⟩
  have hX : CX m'.1 5 row0 0 (fun _ _ => 0) := ⟨⟨row0_ok.1.1, hEl, hAu⟩, fun _ => (0, 0, 0, 0), ⟨zz _ _ (by omega) (by omega) (by omega) (by omega) (by omega) (by omega) (by omega) (by omega) (by omega) (by omega) (by omega), by omega, fun j hj => absurd hj (Nat.not_lt_zero j)⟩, fun j hj => absurd hj (Nat.not_lt_zero j)⟩
  refine ⟨5, 26, row0, 0, fun _ _ => 0, fun _ => 0, 0, [], -1, 0, row0, ⟨hC, hM, ho, hl2⟩, ⟨hX, ⟨i1 1 (by omega), Nat.zero_le _, fun j hj => absurd hj (Nat.not_lt_zero j)⟩, ⟨zz _ _ (by omega) (by omega) (by omega) (by omega) (by omega) (by omega) (by omega) (by omega) (by omega) (by omega) (by omega), fun j v hj => ?_⟩, i2, i1 11 (by omega), fun q => absurd rfl q⟩, ⟨kr, ⟨k0 6 (by omega), Nat.zero_le _, fun j hj => absurd hj (Nat.not_lt_zero j)⟩, ⟨k0 24 (by omega), Nat.zero_le _, fun j hj => absurd hj (Nat.not_lt_zero j)⟩, ⟨k0 22 (by omega), fun j v hj => ?_⟩, k32, k0 5 (by omega), fun q => absurd rfl q⟩, ⟨⟨Or.inl row0_ok.1.2, fun j hj => absurd hj (by rw [row0_ok.1.2]; omega)⟩, fun j hj => absurd hj (Nat.not_lt_zero j), fun _ => ⟨Int.le_refl _, show (0 : Int) ≤ 255 by omega⟩, Nat.zero_le _, fun q => absurd rfl q⟩⟩
  · exact absurd hj (by simp)
  · exact absurd hj (by simp)
theorem law_all {G : am_G} {dp a b len : Nat} {m : am_M} {Q : am_Q} {xs : Nat → Int32} (hsc : va_X G.2.2.1 len xs G.2.1 G.2.1.heap) (hz : SZ G) (hnc : NC G) (hdp : 40 ≤ dp) (hl2 : len ≤ 3072) (ha : 122 + 4096 ≤ a) (hb : 36393 + 24576 ≤ b) (z : Gz m 1) (hQ : ∀ m, Q (.inl (some (iV 1))) m) : X G dp a b ML_law 0 [some (rV (some 0)), none, none, none, none, none, none, none] [] m Q :=
  law_mk (by omega) (by omega) (by omega) z fun m' c1 c2 c3 _ _ _ c7 c8 c9 c10 => law_lp hsc hz hnc hdp hl2 hQ 512 0 _ _ m' none none none (by omega) (by omega) (by omega) (law_ini z hl2 c1 c2 c3 c7 c8 c9 c10)
