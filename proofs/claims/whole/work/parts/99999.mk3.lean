/-! THE ELECTION is made -/
theorem El.mk {m m' : am_M} {I' : Nat → Nat → Int} {c : Nat} (h : Eh m m' c 3) (hc : c ≠ 0) (hci : (m.2.2.1 c).1 = 3) : El (I', m'.2) c := by
  obtain ⟨e1, e2, e3, e4, e5, e6, ⟨e8, e9⟩, e10, e11⟩ := h
  have hec : ec c 3 = c + 21 := by unfold ec; omega
  refine ⟨⟨by show c < m'.2.2.2.1; rw [e4, hec]; omega, by show (m'.2.2.1 c).1 = 3; rw [e3 c (by omega)]; exact hci, hc⟩, e6, ⟨⟨by show c + 1 < m'.2.2.2.1; rw [e4, hec]; omega, e8, by omega⟩, ⟨by show c + 2 < m'.2.2.2.1; rw [e4, hec]; omega, e9, by omega⟩⟩, fun r hr => e10 r hr⟩
theorem ct_new3 {G : am_G} {dp : Nat} {Q : am_Q} {m : am_M} {c : Nat} (hd : 2 ≤ dp) (hF : Fz m c) (hc : c ≠ 0) (hci : (m.2.2.1 c).1 = 3) (h : ∀ (I' : Nat → Nat → Int) (m' : am_M), Eh m m' c 3 → El (I', m'.2) c → (∀ x, x ≠ c → x ≠ c + 2 → I' x = m.1 x) → (∀ j, I' c j = 0) → (∀ j, I' (c + 2) j = if j = 0 then 50 else if j = 1 then 110 else if j = 2 then 100 else 0) → Q (.inl none) (I', m'.2)) : T G dp 20 1860 M3_init [rV (some c)] m Q := by
  have hfl := hF.1
  have hcnt := hF.2.1
  have hz := hF.2.2
  have z0 := fun j => (hz c (Nat.le_refl _)).1 j
  refine T3_init ?_
  refine X_aload_n dX3_init_0 rfl rfl ?_
  refine X_objInit dX3_init_1 ml_3_3 ob_i ob_c (by simp) ?_
  refine X_aload_n dX3_init_4 rfl rfl ?_
  refine Y_iconst dX3_init_5 (by unfold i32; omega) ?_
  refine X_newQ (n := 3) dX3_init_6 cl_3_9 ao_c rfl (by omega) ⟨hfl, fun j => (hz _ (by omega)).1 j, fun j => (hz _ (by omega)).2 j⟩ (by omega) (by omega) ?_
  rw [hcnt]
  have ob1 : am_obw (am_al m 103 3) c 3 := ⟨by show c < m.2.2.2.1 + 1; omega, by
    show ((if c = m.2.2.2.1 then _ else m.2.2.1 c)).1 = 3
    rw [if_neg (by omega)]; exact hci, hc⟩
  refine X_putPF dX3_init_9 ff_3_11 rfl rfl ob1 ?_
  have ob1 : am_obw (am_wP (am_al m 103 3) c 0 (some (c + 1))) c 3 := ob1
  have c1 : (am_wP (am_al m 103 3) c 0 (some (c + 1))).2.2.2.1 = c + 2 := by show m.2.2.2.1 + 1 = c + 2; omega
  have I1 : (am_wP (am_al m 103 3) c 0 (some (c + 1))).1 = m.1 := rfl
  have P1 : ∀ x, x ≠ c → (am_wP (am_al m 103 3) c 0 (some (c + 1))).2.1 x = m.2.1 x := fun x hx => u2_row _ hx
  have P1c : (am_wP (am_al m 103 3) c 0 (some (c + 1))).2.1 c 0 = some (c + 1) := u2_same _ _ _ _
  have S1 : ∀ x, (am_wP (am_al m 103 3) c 0 (some (c + 1))).2.2.1 x = if x = c + 1 then (103, 3) else m.2.2.1 x := fun x => by show (if x = m.2.2.2.1 then _ else _) = _; rw [hcnt]
  have fl1 : (am_wP (am_al m 103 3) c 0 (some (c + 1))).2.2.2.2 = true := hfl
  generalize am_wP (am_al m 103 3) c 0 (some (c + 1)) = m1 at *
  refine X_aload_n dX3_init_12 rfl rfl ?_
  refine Y_iconst dX3_init_13 (by unfold i32; omega) ?_
  refine X_newA (t := 100) (n := 3) dX3_init_14 (Or.inl ⟨rfl, rfl⟩) ac_i rfl (by omega) ⟨fl1, fun j => by rw [I1]; exact (hz _ (by omega)).1 j, fun j => by rw [P1 _ (by omega)]; exact (hz _ (by omega)).2 j⟩ (by omega) (by omega) ?_
  rw [c1]
  have ob2 : am_obw (am_al m1 100 3) c 3 := ⟨by show c < m1.2.2.2.1 + 1; omega, by
    show ((if c = m1.2.2.2.1 then _ else m1.2.2.1 c)).1 = 3
    rw [if_neg (by omega)]; exact ob1.2.1, hc⟩
  refine X_putPF dX3_init_16 ff_3_17 rfl rfl ob2 ?_
  have ob2 : am_obw (am_wP (am_al m1 100 3) c 1 (some (c + 2))) c 3 := ob2
  have hE : Eh m (am_wP (am_al m1 100 3) c 1 (some (c + 2))) c 0 := by
    refine ⟨I1, fun x hx => ?_, fun x hx => ?_, ?_, fl1, ⟨?_, u2_same _ _ _ _⟩, ⟨?_, ?_⟩, fun r' hr' => absurd hr' (Nat.not_lt_zero _), fun x hx j => ?_⟩
    · show u2 m1.2.1 c 1 _ x = _
      rw [u2_row _ (by omega), P1 x (by omega)]
    · show (if x = m1.2.2.2.1 then _ else m1.2.2.1 x) = _
      rw [if_neg (by omega), S1, if_neg (by omega)]
    · show m1.2.2.2.1 + 1 = ec c 0
      unfold ec; omega
    · show u2 m1.2.1 c 1 _ c 0 = _
      rw [u2_ne _ (Or.inr (by omega))]; exact P1c
    · show (if c + 1 = m1.2.2.2.1 then _ else m1.2.2.1 (c + 1)) = _
      rw [if_neg (by omega), S1, if_pos rfl]
    · show (if c + 2 = m1.2.2.2.1 then _ else m1.2.2.1 (c + 2)) = _
      rw [if_pos c1.symm]
    · have hx : c + 3 ≤ x := by unfold ec at hx; omega
      show u2 m1.2.1 c 1 _ x j = none
      rw [u2_row _ (by omega), P1 x (by omega)]
      exact (hz x (by omega)).2 j
  have I2 : (am_wP (am_al m1 100 3) c 1 (some (c + 2))).1 = m.1 := I1
  generalize am_wP (am_al m1 100 3) c 1 (some (c + 2)) = m2 at *
  have zz : ∀ j, m2.1 c j = 0 := fun j => by rw [I2]; exact z0 j
  refine X_aload_n dX3_init_19 rfl rfl ?_
  refine Y_iconst dX3_init_20 (by unfold i32; omega) ?_
  refine X_put0 dX3_init_21 fw_3_21 rfl ob2 (zz _) ?_
  refine X_aload_n dX3_init_24 rfl rfl ?_
  refine Y_iconst dX3_init_25 (by unfold i32; omega) ?_
  refine X_put0 dX3_init_26 fw_3_25 rfl ob2 (zz _) ?_
  refine X_aload_n dX3_init_29 rfl rfl ?_
  refine Y_iconst dX3_init_30 (by unfold i32; omega) ?_
  refine X_put0 dX3_init_31 fw_3_28 rfl ob2 (zz _) ?_
  refine X_aload_n dX3_init_34 rfl rfl ?_
  refine Y_iconst dX3_init_35 (by unfold i32; omega) ?_
  refine X_put0 dX3_init_36 fw_3_31 rfl ob2 (zz _) ?_
  refine Y_iconst dX3_init_39 (by unfold i32; omega) ?_
  refine X_istore_n dX3_init_40 rfl (Nat.le_of_ble_eq_true rfl) ?_
  refine lp_new3 (by omega) hF hc hci (fun m3 hE3 => ?_) 3 0 m2 rfl (by omega) hE
  have hEl := El.mk (I' := m3.1) hE3 hc hci
  have hEl : El m3 c := hEl
  refine X_aload_n dX3_init_65 rfl rfl ?_
  refine X_callV (a' := 0) (b' := 0) (As := []) dX3_init_66 t3_empty ml_3_35 (am_ow hEl.1) rfl rfl (by simp) rfl (by omega) (Nat.zero_le _) (Nat.zero_le _) (T3_empty (s3_empty_0 hEl.1 hEl.2.1.2 hEl.2.2.1.2 ?_))
  have z3 : ∀ j, m3.1 c j = 0 := fun j => by rw [hE3.1]; exact z0 j
  have z4 : ∀ j, m3.1 (c + 2) j = 0 := fun j => by rw [hE3.1]; exact (hz _ (by omega)).1 j
  refine X_vret dX3_init_69 rfl (h _ m3 hE3 (El.mk hE3 hc hci) (fun x a b => ?_) (fun j => ?_) (fun j => ?_))
  · rw [u2r b, u2r b, u2r b, u2r a, u2r a, u2r a, u2r a, hE3.1]
  · rw [u2r (by omega), u2r (by omega), u2r (by omega)]
    by_cases e : j = 5
    · subst e; exact u2_at
    · rw [u2n e]
      by_cases e : j = 4
      · subst e; exact u2_at
      · rw [u2n e]
        by_cases e : j = 3
        · subst e; exact u2_at
        · rw [u2n e]
          by_cases e : j = 2
          · subst e; exact u2_at
          · rw [u2n e]; exact z3 j
  · by_cases e : j = 2
    · subst e; exact u2_at
    · rw [u2n (show j ≠ ((2 : Int)).toNat from e)]
      by_cases e1 : j = 1
      · subst e1; exact u2_at
      · rw [u2n (show j ≠ ((1 : Int)).toNat from e1)]
        by_cases e0 : j = 0
        · subst e0; exact u2_at
        · rw [u2n (show j ≠ ((0 : Int)).toNat from e0), u2r (by omega), u2r (by omega), u2r (by omega), u2r (by omega), if_neg e0, if_neg e1, if_neg e]
          exact z4 j
