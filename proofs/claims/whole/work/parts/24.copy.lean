/-! ARRAYCOPY -/
def cpI (I : Nat → Nat → Int) (r0 sp r1 dp n : Nat) : Nat → Nat → Int := fun x y => if x = r1 ∧ dp ≤ y ∧ y < dp + n then I r0 (sp + (y - dp)) else I x y
theorem am_In_any {G : am_G} {d a b : Nat} {M : am_Me} {p : Program} {R : Room} {s : State} {mid : MethodId} {meth : Method} {c : Code} {H H1 : Heap} {locs locs1 : List Loc} {cells slots mc ms : Nat} (hI : am_In G d a b M p R s mid meth c H locs cells slots mc ms) (z : H.size ≤ H1.size) (hl : ∀ q ∈ locs1, am_fr G q.base) : am_In G d a b M p R s mid meth c H1 locs1 cells slots mc ms := by
  obtain ⟨h1, h2, h3, h4, h5, h6, h7, h8, h9, h10, h11, h12, h13, h14, h15, h16, h17, h18, h19⟩ := hI
  exact ⟨h1, h2, h3, h4, h5, h6, h7, h8, h9, h10, h11, h12, h13, h14, h15, h16, Nat.le_trans h17 z, hl, h19⟩
theorem cp_w : Cond.native arraycopyName ∈ lw_tbl ∧ Cond.static arraycopyName ∈ lw_tbl ∧ Cond.initialized "java/lang/System" ∈ lw_tbl ∧ Cond.methodLink RX0 44 arraycopyName ∈ lw_tbl ∧ Cond.methodLink RX2 43 arraycopyName ∈ lw_tbl ∧ Cond.methodLink RX3 38 arraycopyName ∈ lw_tbl := by decide +kernel
def am_ws (G : am_G) (m : am_M) : va_W := (List.range (m.2.2.2.1 - 1)).map (fun k => (am_ad G (k + 1), am_e G m (k + 1)))
theorem am_ws_at {G : am_G} {m : am_M} {r : Nat} (h0 : r ≠ 0) (h : r < m.2.2.2.1) : (am_ws G m)[r - 1]? = some (am_ad G r, am_e G m r) := by
  unfold am_ws
  rw [List.getElem?_map, List.getElem?_range (by omega)]
  show some (am_ad G (r - 1 + 1), am_e G m (r - 1 + 1)) = _
  rw [show r - 1 + 1 = r by omega]
theorem am_ws_in {G : am_G} {m : am_M} {k : Nat} {q : Nat × va_E} (h : (am_ws G m)[k]? = some q) : k < m.2.2.2.1 - 1 ∧ q = (am_ad G (k + 1), am_e G m (k + 1)) := by
  unfold am_ws at h
  rw [List.getElem?_map] at h
  obtain ⟨x, hx, hq⟩ := Option.map_eq_some_iff.mp h
  have hl := (List.getElem?_eq_some_iff.mp hx)
  obtain ⟨h1, h2⟩ := hl
  rw [List.getElem_range] at h2
  rw [List.length_range] at h1
  subst h2
  exact ⟨h1, hq.symm⟩
theorem X_copy {G : am_G} {d a b : Nat} {M : am_Me} {pc : Nat} {L : List (Option am_V)} {m : am_M} {Q : am_Q} {idx r0 r1 n0 n1 : Nat} {sp dp n : Int} (hd : decode M.2.1 pc = .ok (.invokestatic idx, 3)) (hl : Cond.methodLink M.2.2.2.2.1 idx arraycopyName ∈ lw_tbl) (hz : m.2.2.2.2 = false) (h0 : am_ar m r0 100 n0) (h1 : am_arw m r1 100 n1) (h00 : r0 ≠ 0) (hsp : 0 ≤ sp) (hdp : 0 ≤ dp) (hn : 0 ≤ n) (b0 : sp + n ≤ n0) (b1 : dp + n ≤ n1)
    (kk : X G d a b M (pc + 3) L [] (cpI m.1 r0 sp.toNat r1 dp.toNat n.toNat, m.2) Q) : X G d a b M pc L [iV n, iV dp, rV (some r1), iV sp, rV (some r0)] m Q := by
  intro hG p e R s mid args below meth c H locs cells slots mc ms ls hI hH hL hS
  have hW := hI.2.2.2.2.2.2.2.2.1
  have hr := am_rM (x := 0) hI.2.2.2.2.2.2.2.2.2.1 hI.2.2.2.2.2.2.2.2.2.2.1 (by omega)
  have n0b := am_wl hH.1 h0
  have n1b := am_wl hH.1 (am_rw h1)
  have hb0 := hG.2.2.1
  have e0 := am_ws_at (G := G) h00 h0.1
  have e1 := am_ws_at (G := G) h1.2.2 h1.1
  rw [am_e_i h0.2.1] at e0
  rw [am_e_i h1.2.1] at e1
  have cl : ∀ z : Int, 0 ≤ z → z ≤ 2147483647 → (Int32.ofInt z).toNatClampNeg = z.toNat := fun z => o32_cl
  have nn : ∀ z : Int, 0 ≤ z → z ≤ 2147483647 → ¬ Int32.ofInt z < 0 := fun z q1 q2 => by
    rw [Int32.lt_iff_toInt_lt, o32_ti ⟨by omega, by omega⟩]
    show ¬ z < 0
    omega
  have hP : va_P G.2.2.2.1 vwCl (am_ws G m) H := fun k q hq => by
    obtain ⟨g1, rfl⟩ := am_ws_in hq
    exact hH.2.1 (k + 1) (by omega) (by omega)
  have hD : va_D (am_fr G) (am_ws G m) := ⟨fun i j p q hp hq he => by
    obtain ⟨g1, rfl⟩ := am_ws_in hp
    obtain ⟨g2, rfl⟩ := am_ws_in hq
    have := am_ad_inj hb0 (show am_ad G (i + 1) = am_ad G (j + 1) from he)
    omega, fun k q hq => by
    obtain ⟨g1, rfl⟩ := am_ws_in hq
    exact (show am_fr G (am_ad G (k + 1)) from am_ad_fr (by omega))⟩
  have hSS : va_S (am_fr G) H H locs := ⟨Nat.le_refl _, fun _ _ _ => rfl, hI.2.2.2.2.2.2.2.2.2.2.2.2.2.2.2.2.2.1⟩
  refine va_copyi hI.1 hI.2.1 (hI.2.2.1.trans hL.1.symm) hI.2.2.2.2.2.2.2.1 (am_word hG hW hl rfl _) (am_word hG hW cp_w.1 rfl _) (am_word hG hW cp_w.2.1 rfl _) (am_word hG hW cp_w.2.2.1 rfl _) (am_K hG hW) hP hD hSS (r0 - 1) (r1 - 1) 0 0 e0 e1 rfl rfl rfl (nn sp hsp (by omega)) (nn dp hdp (by omega)) (nn n hn (by omega)) (by rw [cl _ hsp (by omega), cl _ hn (by omega)]; omega) (by rw [cl _ hdp (by omega), cl _ hn (by omega)]; omega) (fun _ _ => rfl) hr.1 ?_ hd (fun H1 locs1 q1 q2 q3 => ?_)
  · have e9 : nativeFrameWords "java/lang/System" "arraycopy" 5 = 7 := by decide
    rw [e9]
    show 0 + (7 + 11) ≤ _
    omega
  · rw [cl _ hsp (by omega), cl _ hdp (by omega), cl _ hn (by omega)] at q1
    have hwm : am_wm (cpI m.1 r0 sp.toNat r1 dp.toNat n.toNat, m.2) := ⟨hH.1.1, fun k hk => ⟨(hH.1.2 k hk).1, (hH.1.2 k hk).2.1, fun j => by
      have g0 := am_w32 hH.1 h0 (by decide)
      show if (m.2.2.1 k).1 = 101 then i64 (cpI m.1 r0 sp.toNat r1 dp.toNat n.toNat k j) else i32 (cpI m.1 r0 sp.toNat r1 dp.toNat n.toNat k j)
      unfold cpI
      by_cases hq : k = r1 ∧ dp.toNat ≤ j ∧ j < dp.toNat + n.toNat
      · rw [if_pos hq, if_neg (by rw [hq.1, h1.2.1]; exact (by decide : ¬ (100 : Nat) = 101))]
        exact g0 _
      · rw [if_neg hq]
        exact (hH.1.2 k hk).2.2 j⟩⟩
    refine kk hG p e R s mid args below meth c H1 locs1 cells slots mc ms ls (am_In_any hI q3.1 q3.2.2) ⟨hwm, fun k k0 hk => ?_, Nat.le_trans hH.2.2.1 q3.1, fun q => absurd (hz.symm.trans q) (by decide), fun q hq => ?_⟩ hL (fun _ h => by cases h)
    · by_cases k9 : k = 0
      · exact absurd k9 k0
      · by_cases k1 : k = r1
        · subst k1
          have g := q1 (k - 1) (am_ad G k, .inl (G.2.2.2.2.2 100, n1, .inl (va_cpy (fun j => Int32.ofInt (m.1 r0 j)) (fun j => Int32.ofInt (m.1 k j)) sp.toNat dp.toNat n.toNat))) (by
            rw [List.getElem?_set_self (by have := (List.getElem?_eq_some_iff.mp e1).1; exact this)])
          have ge : am_e G (cpI m.1 r0 sp.toNat k dp.toNat n.toNat, m.2) k = .inl (G.2.2.2.2.2 100, n1, .inl (va_cpy (fun j => Int32.ofInt (m.1 r0 j)) (fun j => Int32.ofInt (m.1 k j)) sp.toNat dp.toNat n.toNat)) := by
            rw [am_e_i (m := (cpI m.1 r0 sp.toNat k dp.toNat n.toNat, m.2)) h1.2.1]
            congr 4
            funext j
            show Int32.ofInt (cpI m.1 r0 sp.toNat k dp.toNat n.toNat k j) = _
            unfold cpI va_cpy
            by_cases hq : dp.toNat ≤ j ∧ j < dp.toNat + n.toNat
            · rw [if_pos ⟨rfl, hq⟩, if_pos hq]
            · rw [if_neg (fun q => hq q.2), if_neg hq]
          rw [ge]
          exact g
        · have ge : am_e G (cpI m.1 r0 sp.toNat r1 dp.toNat n.toNat, m.2) k = am_e G m k := am_e_congr (by funext j; unfold cpI; exact if_neg (fun q => k1 q.1)) rfl rfl
          rw [ge]
          refine q1 (k - 1) _ ?_
          rw [List.getElem?_set_ne (by have := h1.2.2; omega)]
          exact am_ws_at k0 hk
    · refine (q3.2.1 q ?_ ?_).trans (hH.2.2.2.2 q hq)
      · have h2 := hI.2.2.2.2.2.2.2.2.2.2.2.2.2.2.2
        exact Nat.lt_of_lt_of_le hq (Nat.le_trans h2.1 h2.2.1)
      · exact Nat.not_le.mpr hq
