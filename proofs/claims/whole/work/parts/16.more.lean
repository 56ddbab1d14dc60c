/-! CONSTANTS, THROWS, NEST MATES -/
theorem X_ldcI {G : am_G} {d a b : Nat} {M : am_Me} {pc : Nat} {L : List (Option am_V)} {st : List am_V} {m : am_M} {Q : am_Q} {idx : Nat} {z : Int} (hd : decode M.2.1 pc = .ok (.ldc idx, 2)) (hw : Cond.constant M.2.2.2.2.1 idx (Int32.ofInt z) ∈ lw_tbl) (hz : i32 z) (k : X G d a b M (pc + 2) L (iV z :: st) m Q) : X G d a b M pc L st m Q := by
  intro hG p e R s mid args below meth c H locs cells slots mc ms ls hI hH hL hS
  exact lv_ldc hI.1 hI.2.1 hI.2.2.2.2.2.2.2.1 (am_word hG hI.2.2.2.2.2.2.2.2.1 hw rfl args) hd (k hG p e R s mid args below meth c H locs cells slots mc ms ls hI hH hL (Xs1 hz hS))
theorem X_ldcwI {G : am_G} {d a b : Nat} {M : am_Me} {pc : Nat} {L : List (Option am_V)} {st : List am_V} {m : am_M} {Q : am_Q} {idx : Nat} {z : Int} (hd : decode M.2.1 pc = .ok (.ldc_w idx, 3)) (hw : Cond.constant M.2.2.2.2.1 idx (Int32.ofInt z) ∈ lw_tbl) (hz : i32 z) (k : X G d a b M (pc + 3) L (iV z :: st) m Q) : X G d a b M pc L st m Q := by
  intro hG p e R s mid args below meth c H locs cells slots mc ms ls hI hH hL hS
  exact lv_ldcw hI.1 hI.2.1 hI.2.2.2.2.2.2.2.1 (am_word hG hI.2.2.2.2.2.2.2.2.1 hw rfl args) hd (k hG p e R s mid args below meth c H locs cells slots mc ms ls hI hH hL (Xs1 hz hS))
theorem X_ldc2 {G : am_G} {d a b : Nat} {M : am_Me} {pc : Nat} {L : List (Option am_V)} {st : List am_V} {m : am_M} {Q : am_Q} {idx : Nat} {z : Int} (hd : decode M.2.1 pc = .ok (.ldc2_w idx, 3)) (hw : Cond.constantLong M.2.2.2.2.1 idx (Int64.ofInt z) ∈ lw_tbl) (hz : i64 z) (k : X G d a b M (pc + 3) L (lV z :: st) m Q) : X G d a b M pc L st m Q := by
  intro hG p e R s mid args below meth c H locs cells slots mc ms ls hI hH hL hS
  exact lv_ldc2 hI.1 hI.2.1 hI.2.2.2.2.2.2.2.1 (am_word hG hI.2.2.2.2.2.2.2.2.1 hw rfl args) hd (k hG p e R s mid args below meth c H locs cells slots mc ms ls hI hH hL (Xs1 (v := lV z) hz hS))
theorem X_ldc2d {G : am_G} {d a b : Nat} {M : am_Me} {pc : Nat} {L : List (Option am_V)} {st : List am_V} {m : am_M} {Q : am_Q} {idx : Nat} {z : UInt64} (hd : decode M.2.1 pc = .ok (.ldc2_w idx, 3)) (hw : Cond.constantDouble M.2.2.2.2.1 idx z ∈ lw_tbl) (k : X G d a b M (pc + 3) L (dV z :: st) m Q) : X G d a b M pc L st m Q := by
  intro hG p e R s mid args below meth c H locs cells slots mc ms ls hI hH hL hS
  exact lv_ldc2d hI.1 hI.2.1 hI.2.2.2.2.2.2.2.1 (am_word hG hI.2.2.2.2.2.2.2.2.1 hw rfl args) hd (k hG p e R s mid args below meth c H locs cells slots mc ms ls hI hH hL (Xs1 (v := dV z) trivial hS))
theorem X_ldcS {G : am_G} {d a b : Nat} {M : am_Me} {pc : Nat} {L : List (Option am_V)} {st : List am_V} {m : am_M} {Q : am_Q} {idx j : Nat} {tx : String} (hd : decode M.2.1 pc = .ok (.ldc idx, 2)) (hw : am_str[j]? = some (M.2.2.2.2.1, idx, tx)) (k : X G d a b M (pc + 2) L (sV j :: st) m Q) : X G d a b M pc L st m Q := by
  intro hG p e R s mid args below meth c H locs cells slots mc ms ls hI hH hL hS
  have h9 := hG.2.2.2.2.2.2.1 j _ hw
  exact va_ldcS hI.1 hI.2.1 hI.2.2.2.2.2.2.2.1 (vk_R.warm hI.2.2.2.2.2.2.2.2.1 h9) hd (k hG p e R s mid args below meth c H locs cells slots mc ms ls hI hH hL (Xs1 (v := sV j) trivial hS))
/-- Object's constructor -/
theorem X_objInit {G : am_G} {d a b : Nat} {M : am_Me} {pc : Nat} {L : List (Option am_V)} {rest : List am_V} {m : am_M} {Q : am_Q} {idx r : Nat} (hd : decode M.2.1 pc = .ok (.invokespecial idx, 3)) (hw : Cond.methodLink M.2.2.2.2.1 idx Lib.objectInit ∈ lw_tbl) (hw2 : Cond.instanceMethod Lib.objectInit ∈ lw_tbl) (hw3 : Cond.code Lib.objectInit ⟨#[0xb1]⟩ 1 none ∈ lw_tbl) (h8 : (rest.map am_wd).sum ≤ 8) (k : X G d a b M (pc + 3) L rest m Q) : X G d a b M pc L (rV (some r) :: rest) m Q := by
  intro hG p e R s mid args below meth c H locs cells slots mc ms ls hI hH hL hS
  have hW := hI.2.2.2.2.2.2.2.2.1
  have h9 := am_wdSum (G := G) h8 mid pc ls []
  exact W.objInit hI.1 hI.2.1 hI.2.2.2.2.2.2.2.1 (am_word hG hW hw rfl args) (am_word hG hW hw2 rfl args) (am_word hG hW hw3 rfl args) rfl (hL.1.trans hI.2.2.1.symm) rfl hd (by have := hI.2.2.2.2.2.2.2.2.2.1; omega) (by have := hI.2.2.2.2.2.2.2.2.2.2.1; simp only [F0] at h9 ⊢; omega) (k hG p e R s mid args below meth c H locs cells slots mc ms ls hI hH hL (Xst hS))
abbrev am_nx (m : am_M) : am_M := (m.1, m.2.1, m.2.2.1, m.2.2.2.1, false)
theorem am_HRnx {G : am_G} {m : am_M} {H H1 : Heap} (h : am_HR G m H) (hz : H.size ≤ H1.size) (hq : ∀ q, q < H.size → H1[q]? = H[q]?) : am_HR G (am_nx m) H1 := by
  refine ⟨h.1, fun k k0 hk => ?_, Nat.le_trans h.2.2.1 hz, fun h => (by cases h), fun q hq2 => ?_⟩
  · have h9 := h.2.1 k k0 hk
    exact va_at.kept (q := (am_ad G k, am_e G m k)) h9 (hq _ (va_at.lt h9))
  · rw [hq q (Nat.lt_of_lt_of_le hq2 (am_bs_le h))]
    exact h.2.2.2.2 q hq2
theorem am_thS {G : am_G} {M : am_Me} {R : Room} {s : State} {p : Program} {mid : MethodId} {meth : Method} {c : Code} {H : Heap} {locs : List Loc} {d a b cells slots mc ms : Nat} {m : am_M} (hI : am_In G d a b M p R s mid meth c H locs cells slots mc ms) (hH : am_HR G m H) : va_S (am_fr G) s.heap H locs :=
  ⟨hI.2.2.2.2.2.2.2.2.2.2.2.2.2.2.2.2.1, fun q _ hq => by
    have hq : q < am_bs G := Nat.not_le.mp hq
    rw [hH.2.2.2.2 q hq, hI.2.2.2.2.2.2.2.2.2.2.2.2.2.2.2.2.2.2 q hq], am_locs hI⟩
theorem am_thA {G : am_G} {s : State} {k : Nat} {args : Array Value} (hG : am_ok G) (hW : G.2.1.WarmedH s.vm) (hk : k < 2) : ∀ w ∈ am_at9 k, w.before args s = true := by
  intro w hw
  match k, hk with
  | 0, _ =>
    rcases am_tgg0 w hw with h | h
    · exact am_word hG hW (am_th0 w hw) h args
    · exact am_tBm (k := 0) hG hW h (am_th0 w hw)
  | 1, _ =>
    rcases am_tgg1 w hw with h | h
    · exact am_word hG hW (am_th1 w hw) h args
    · exact am_tBm (k := 0) hG hW h (am_th1 w hw)
theorem am_thZ {G : am_G} {s : State} {n dd : String} (hW : G.2.1.WarmedH s.vm) (hs : ∀ q, q < am_bs G → s.heap[q]? = G.2.1.heap[q]?) (h : vx_Zq Bundle.tN n dd (fun q => am_bs G ≤ q) G.2.1 G.2.1.heap) : vx_Zq Bundle.tN n dd (am_fr G) s s.heap :=
  vx_Zq.moved hW.alike (h.kept (fun q hq _ => hs q hq))
theorem am_rN {d x f l : Nat} (h1 : d + 16 ≤ f) (h2 : 40 * d + 300 ≤ l) (h3 : x ≤ 8) : 2 + 3 < f ∧ x + (13 * (2 + 1) + 43) ≤ l := by omega
theorem X_throw {G : am_G} {d a b : Nat} {M : am_Me} {pc : Nat} {L : List (Option am_V)} {st : List am_V} {m : am_M} {Q : am_Q} {k is j : Nat} {tx : String} (hk : k < 2) (ho : M.2.2.2.2.1 = RX8) (hh : M.2.2.2.2.2 = []) (d0 : decode M.2.1 pc = .ok (.new (am_kc k), 3)) (d3 : decode M.2.1 (pc + 3) = .ok (.dup, 1)) (d4 : decode M.2.1 (pc + 4) = .ok (.ldc is, 2)) (d6 : decode M.2.1 (pc + 6) = .ok (.invokespecial (am_ki k), 3)) (d9 : decode M.2.1 (pc + 9) = .ok (.athrow, 1)) (hj : am_str[j]? = some (RX8, is, tx)) (h8 : (st.map am_wd).sum ≤ 8) (ha : 1 ≤ a) (hb : 6 ≤ b) (hQ : Q (.inr k) (am_nx m)) : X G d a b M pc L st m Q := by
  intro hG p e R s mid args below meth c H locs cells slots mc ms ls hI hH hL hS
  have hW := hI.2.2.2.2.2.2.2.2.1
  have h9 := am_wdSum (G := G) h8 mid pc ls []
  have hr := am_rN hI.2.2.2.2.2.2.2.2.2.1 hI.2.2.2.2.2.2.2.2.2.2.1 (x := ((st.map (am_tr G)).map fun v => v.category).sum) (by simp only [F0] at h9; omega)
  have hs := hI.2.2.2.2.2.2.2.2.2.2.2.2.2.2.2.2.2.2
  have hbud := hI.2.2.2.2.2.2.2.2.2.2.2
  have hown := hI.2.2.2.2.2.2.2.1
  rw [ho] at hown
  exact am_throwSX (x0 := (am_kd k hk).1) (x1 := (am_kd k hk).2.1) (x2 := (am_kd k hk).2.2.1) (x5 := (am_kd k hk).2.2.2) (names := am_up) (cls := am_en k) (own := RX8) hI.1 hI.2.1 hG.2.2.2.1 hown (am_tb k hk).1 am_tu (am_word hG hW (am_tk k hk).1 rfl args) (am_word hG hW (am_tk k hk).2 rfl args) (vk_R.warm hW (hG.2.2.2.2.2.2.1 j _ hj)) (am_thA hG hW hk) (am_tb k hk).2
    (am_thZ hW hs hG.2.2.2.2.1) (am_thZ hW hs hG.2.2.2.2.2.1) (am_thS hI hH) (hL.1.trans hI.2.2.1.symm) d0 d3 d4 d6 d9
    (fun x hx => by rw [hI.2.2.2.2.2.2.1, hh] at hx; exact nomatch hx) hr.1 hr.2 (by omega) (by omega) hI.2.2.2.2.1
    (fun t _ hz hq => ⟨k, am_nx m, hQ, rfl, am_HRnx hH hz hq, Nat.le_trans hI.2.2.2.2.2.2.2.2.2.2.2.2.2.2.2.2.1 hz⟩) (am_locs hI) (by omega) (by omega)
theorem X_throwW {G : am_G} {d a b : Nat} {M : am_Me} {pc : Nat} {L : List (Option am_V)} {st : List am_V} {m : am_M} {Q : am_Q} {k is j : Nat} {tx : String} (hk : k < 2) (ho : M.2.2.2.2.1 = RX8) (hh : M.2.2.2.2.2 = []) (d0 : decode M.2.1 pc = .ok (.new (am_kc k), 3)) (d3 : decode M.2.1 (pc + 3) = .ok (.dup, 1)) (d4 : decode M.2.1 (pc + 4) = .ok (.ldc_w is, 3)) (d7 : decode M.2.1 (pc + 7) = .ok (.invokespecial (am_ki k), 3)) (d10 : decode M.2.1 (pc + 10) = .ok (.athrow, 1)) (hj : am_str[j]? = some (RX8, is, tx)) (h8 : (st.map am_wd).sum ≤ 8) (ha : 1 ≤ a) (hb : 6 ≤ b) (hQ : Q (.inr k) (am_nx m)) : X G d a b M pc L st m Q := by
  intro hG p e R s mid args below meth c H locs cells slots mc ms ls hI hH hL hS
  have hW := hI.2.2.2.2.2.2.2.2.1
  have h9 := am_wdSum (G := G) h8 mid pc ls []
  have hr := am_rN hI.2.2.2.2.2.2.2.2.2.1 hI.2.2.2.2.2.2.2.2.2.2.1 (x := ((st.map (am_tr G)).map fun v => v.category).sum) (by simp only [F0] at h9; omega)
  have hs := hI.2.2.2.2.2.2.2.2.2.2.2.2.2.2.2.2.2.2
  have hbud := hI.2.2.2.2.2.2.2.2.2.2.2
  have hown := hI.2.2.2.2.2.2.2.1
  rw [ho] at hown
  exact am_throwSWX (x0 := (am_kd k hk).1) (x1 := (am_kd k hk).2.1) (x2 := (am_kd k hk).2.2.1) (x5 := (am_kd k hk).2.2.2) (names := am_up) (cls := am_en k) (own := RX8) hI.1 hI.2.1 hG.2.2.2.1 hown (am_tb k hk).1 am_tu (am_word hG hW (am_tk k hk).1 rfl args) (am_word hG hW (am_tk k hk).2 rfl args) (vk_R.warm hW (hG.2.2.2.2.2.2.1 j _ hj)) (am_thA hG hW hk) (am_tb k hk).2
    (am_thZ hW hs hG.2.2.2.2.1) (am_thZ hW hs hG.2.2.2.2.2.1) (am_thS hI hH) (hL.1.trans hI.2.2.1.symm) d0 d3 d4 d7 d10
    (fun x hx => by rw [hI.2.2.2.2.2.2.1, hh] at hx; exact nomatch hx) hr.1 hr.2 (by omega) (by omega) hI.2.2.2.2.1
    (fun t _ hz hq => ⟨k, am_nx m, hQ, rfl, am_HRnx hH hz hq, Nat.le_trans hI.2.2.2.2.2.2.2.2.2.2.2.2.2.2.2.2.1 hz⟩) (am_locs hI) (by omega) (by omega)
