/-! THE READER, THE ELECTION, THE AUDIT are made -/
/-- a nest mate's constructor -/
theorem X_callIN {G : am_G} {d a b a' b' : Nat} {M M' : am_Me} {pc : Nat} {L : List (Option am_V)} {st rest As : List am_V} {m : am_M} {Q : am_Q} {idx n ci r : Nat} (hd : decode M.2.1 pc = .ok (.invokespecial idx, 3)) (hm : am_mc M' n ci) (hl : am_mn M.2.2.2.2.1 idx M') (hst : st = As.reverse ++ rV (some r) :: rest) (hn : As.length = n) (h8 : (rest.map am_wd).sum ≤ 8) (hh : M.2.2.2.2.2 = []) (hd1 : 1 ≤ d) (ha : a' ≤ a) (hb : b' ≤ b)
    (k : T G (d - 1) a' b' M' (rV (some r) :: As) m (am_go (fun r m' => X G d (a - a') (b - b') M (pc + 3) L (r.toList ++ rest) m' Q) (fun k m' => Q (.inr k) m'))) : X G d a b M pc L st m Q := by
  intro hG p e R s mid args below meth c H locs cells slots mc ms ls hI hH hL hS
  subst hst
  have hW := hI.2.2.2.2.2.2.2.2.1
  have hS2 : ∀ v ∈ rest, am_wv v := fun v h => hS v (List.mem_append_right _ (List.mem_cons_of_mem _ h))
  have hSA : ∀ v ∈ (rV (some r) :: As : List am_V), am_wv v := fun v h => by
    rcases List.mem_cons.mp h with h | h
    · subst h; trivial
    · exact hS v (List.mem_append_left _ (List.mem_reverse.mpr h))
  obtain ⟨hmm, hnm, hret, hin, T9, N9, hc⟩ := hm
  obtain ⟨hh', hcw', hi, hmh, hn', h20⟩ := hmm
  obtain ⟨host, hl⟩ := hl
  have hcw : am_cw M' = .code M'.1 M'.2.1 M'.2.2.1 none := by unfold am_cw; rw [if_pos hh', hret]
  have f1 : (am_rm (d - 1) a' b').frames + 1 ≤ R.frames := by have := hI.2.2.2.2.2.2.2.2.2.1; simp only [am_rm]; omega
  have f2 : 8 + (M'.2.2.1 + 11) + (am_rm (d - 1) a' b').locals ≤ R.locals := am_locs20 hd1 h20 hI.2.2.2.2.2.2.2.2.2.2.1
  have f3 : ∀ w ∈ [am_cw M'], ∀ (a9 : Array Value) (U : State), s.WarmedH U.vm → w.before a9 U = true := fun w hw a9 U hU => by
    rw [List.mem_singleton.mp hw]
    exact am_word hG (State.WarmedH.trans hW hU) hcw' (am_cwGood M') _
  have f4 : Cond.code M'.1 M'.2.1 M'.2.2.1 none ∈ [am_cw M'] := List.mem_singleton.mpr hcw.symm
  have f5 : (am_cw M').before args s = true := am_word hG hW hcw' (am_cwGood M') _
  have f6 : (Cond.initialized M'.1.cls).before args s = true := am_word hG hW hi rfl _
  have f7 : (Cond.methodLinkNest M.2.2.2.2.1 idx M'.1 host).before args s = true := va_Nw.use rfl (va_Nw.warmM hW (va_Nw.of rfl (hG.1 _ hl)))
  rw [hcw] at f5
  have hrun := vx_runIN (p := p) (l := G.1) (e := e) (R := R) (s := s) (m := mid) (args := args) (below := below) (meth := meth) (c := c) (H := H) (locs := locs) (cells := cells) (slots := slots) (Ts := []) (nL := M.2.2.1) (n := n) (b := am_ad G r) (As := As.map (am_tr G)) (rest := rest.map (am_tr G)) (g := F0 mid pc ls ((As.reverse ++ rV (some r) :: rest).map (am_tr G)))
    ⟨hI.1, hI.2.1, hI.2.2.1, hI.2.2.2.2.2.2.2.1, fun _ h => nomatch h⟩ (k hG hSA)
    ⟨⟨⟨rfl, rfl, f1, f2, f3, f4⟩, f5, f6, hmh, am_lenA hn', f7⟩, hnm, am_word hG hW hin rfl _⟩
    ⟨am_blind _ _ _, am_pre hW hH rfl⟩ rfl (by simp [hn]) hL.1 (by simp [am_tr]) (am_wdSum h8 _ _ _ _) hd (by have := hI.2.2.2.2.2.2.2.2.2.2.2; omega)
  exact am_after hG hI hL hS2 ha hb hrun (fun _ _ h => h) (fun _ _ _ _ _ _ h1 h2 h3 h4 h5 h6 => am_out hh h2 h1 h3 h4 h5 h6)
theorem ct_new6 {G : am_G} {dp : Nat} {Q : am_Q} {m : am_M} {c : Nat} (hF : Fz m c) (hc : c ≠ 0) (hci : (m.2.2.1 c).1 = 5) (h : ∀ (I' : Nat → Nat → Int) (P' : Nat → Nat → Option Nat) (S' : Nat → Nat × Nat), (∀ x, x ≠ c → I' x = m.1 x) → (∀ x, x ≠ c → P' x = m.2.1 x) → (∀ x, x < c + 1 → S' x = m.2.2.1 x) → Q (.inl none) (I', P', S', c + 2, true)) : T G dp 1 0 M6_init [rV (some c)] m Q := by
  obtain ⟨I, P, S, cnt, fl⟩ := m
  obtain ⟨hfl, hcnt, hz⟩ := hF
  have hfl : fl = true := hfl
  have hcnt : cnt = c + 1 := hcnt
  subst hfl
  subst hcnt
  have z0 := fun j => (hz c (Nat.le_refl _)).1 j
  refine T6_init ?_
  refine X_aload_n dX6_init_0 rfl rfl ?_
  refine X_objInit dX6_init_1 ml_6_3 ob_i ob_c (by simp) ?_
  refine X_aload_n dX6_init_4 rfl rfl ?_
  refine Y_iconst dX6_init_5 (by unfold i32; omega) ?_
  refine X_newA (t := 102) (n := 0) dX6_init_6 (Or.inr (Or.inr ⟨rfl, rfl⟩)) ac_b rfl (by omega) ⟨rfl, (hz (c + 1) (by omega)).1, (hz (c + 1) (by omega)).2⟩ (by omega) (by omega) ?_
  have ob0 : am_obw (am_al (I, P, S, c + 1, true) 102 0) c 5 := ⟨by show c < c + 1 + 1; omega, by
    show ((if c = c + 1 then _ else S c)).1 = 5
    rw [if_neg (by omega)]; exact hci, hc⟩
  refine X_putP dX6_init_8 fw_6_9 rfl ob0 ?_
  have ob1 : am_obw (am_wP (am_al (I, P, S, c + 1, true) 102 0) c 0 (some (c + 1))) c 5 := ob0
  refine X_aload_n dX6_init_11 rfl rfl ?_
  refine Y_iconst dX6_init_12 (by unfold i32; omega) ?_
  refine X_put0 dX6_init_13 fw_6_15 rfl ob1 (z0 _) ?_
  refine X_aload_n dX6_init_16 rfl rfl ?_
  refine Y_iconst dX6_init_17 (by unfold i32; omega) ?_
  refine X_put0 dX6_init_18 fw_6_19 rfl ob1 (z0 _) ?_
  refine X_aload_n dX6_init_21 rfl rfl ?_
  refine Y_iconst dX6_init_22 (by unfold i32; omega) ?_
  refine X_put0 dX6_init_23 fw_6_22 rfl ob1 (z0 _) ?_
  refine X_aload_n dX6_init_26 rfl rfl ?_
  refine Y_iconst dX6_init_27 (by unfold i32; omega) ?_
  refine X_put0 dX6_init_28 fw_6_25 rfl ob1 (z0 _) ?_
  refine X_aload_n dX6_init_31 rfl rfl ?_
  refine Y_iconst dX6_init_32 (by unfold i32; omega) ?_
  refine X_put0 dX6_init_33 fw_6_28 rfl ob1 (z0 _) ?_
  refine X_aload_n dX6_init_36 rfl rfl ?_
  refine Y_iconst dX6_init_37 (by unfold i32; omega) ?_
  refine X_put0 dX6_init_38 fw_6_31 rfl ob1 (z0 _) ?_
  refine X_aload_n dX6_init_41 rfl rfl ?_
  refine Y_iconst dX6_init_42 (by unfold i32; omega) ?_
  refine X_putI dX6_init_43 fw_6_34 rfl ob1 ?_
  exact X_vret dX6_init_46 rfl (h (u2 I c 7 (-1)) (u2 P c 0 (some (c + 1))) (fun x => if x = c + 1 then (102, 0) else S x) (fun x hx => u2r hx) (fun x hx => u2_row _ hx) (fun x hx => if_neg (by omega)))
/-- an election half made: r contests -/
def Eh (m0 m : am_M) (c r : Nat) : Prop := m.1 = m0.1 ∧ (∀ x, x < c → m.2.1 x = m0.2.1 x) ∧ (∀ x, x < c + 1 → m.2.2.1 x = m0.2.2.1 x) ∧ m.2.2.2.1 = ec c r ∧ m.2.2.2.2 = true ∧ (m.2.1 c 0 = some (c + 1) ∧ m.2.1 c 1 = some (c + 2)) ∧ (m.2.2.1 (c + 1) = (103, 3) ∧ m.2.2.1 (c + 2) = (100, 3)) ∧ (∀ r', r' < r → m.2.1 (c + 1) r' = some (ec c r') ∧ Ct m (ec c r')) ∧ ∀ x, ec c r ≤ x → ∀ j, m.2.1 x j = none
def l2 : List (Nat × Nat × Nat) := [(0, 100, 200), (1, 100, 200), (2, 100, 200), (3, 100, 4), (4, 100, 4)]
theorem Ct.mk {m m' : am_M} {c : Nat} (h : Bd m m' c l2) (hc : c ≠ 0) (hci : (m.2.2.1 c).1 = 2) : Ct m' c := by
  have a0 := h.ar (i := 0) (q := (0, 100, 200)) rfl
  have a1 := h.ar (i := 1) (q := (1, 100, 200)) rfl
  have a2 := h.ar (i := 2) (q := (2, 100, 200)) rfl
  have a3 := h.ar (i := 3) (q := (3, 100, 4)) rfl
  have a4 := h.ar (i := 4) (q := (4, 100, 4)) rfl
  exact ⟨h.ob hc hci, ⟨a0.1, a1.1, a2.1, a3.1, a4.1⟩, a0.2, a1.2, a2.2, a3.2, a4.2⟩
theorem Ct.mv {m m' : am_M} {c : Nat} (h : Ct m c) (h1 : m'.2.1 c = m.2.1 c) (h2 : ∀ x, c ≤ x → x < c + 6 → m'.2.2.1 x = m.2.2.1 x) (h3 : m.2.2.2.1 ≤ m'.2.2.2.1) : Ct m' c := by
  obtain ⟨⟨a1, a2, a3⟩, b, ⟨c1, c1', c1n⟩, ⟨c2, c2', c2n⟩, ⟨c3, c3', c3n⟩, ⟨c4, c4', c4n⟩, ⟨c5, c5', c5n⟩⟩ := h
  refine ⟨⟨by omega, by rw [h2 c (by omega) (by omega)]; exact a2, a3⟩, by rw [h1]; exact b, ⟨by omega, by rw [h2 _ (by omega) (by omega)]; exact c1', c1n⟩, ⟨by omega, by rw [h2 _ (by omega) (by omega)]; exact c2', c2n⟩, ⟨by omega, by rw [h2 _ (by omega) (by omega)]; exact c3', c3n⟩, ⟨by omega, by rw [h2 _ (by omega) (by omega)]; exact c4', c4n⟩, ⟨by omega, by rw [h2 _ (by omega) (by omega)]; exact c5', c5n⟩⟩
theorem cl_3_9 : Cond.classLink RX3 9 "DrawnBallots$Contest" ∈ lw_tbl := List.mem_of_getElem? (i := 159) (by decide +kernel)
theorem ao_c : Cond.arrayOver (.object "DrawnBallots$Contest") ∈ lw_tbl := List.mem_of_getElem? (i := 160) (by decide +kernel)
theorem in_2 : Cond.instantiable "DrawnBallots$Contest" 10 ∈ lw_tbl := List.mem_of_getElem? (i := 161) (by decide +kernel)
theorem lp_new3 {G : am_G} {dp : Nat} {Q : am_Q} {m : am_M} {c : Nat} (hd : 1 ≤ dp) (hF : Fz m c) (hc : c ≠ 0) (hci : (m.2.2.1 c).1 = 3) (h : ∀ m' : am_M, Eh m m' c 3 → X G dp 0 0 M3_init 65 [some (rV (some c)), some (iV 3)] [] m' Q) : ∀ (u r : Nat) (m1 : am_M), 3 - r = u → r ≤ 3 → Eh m m1 c r → X G dp (6 * u) (618 * u) M3_init 41 [some (rV (some c)), some (iV r)] [] m1 Q := by
  intro u
  induction u with
  | zero =>
    intro r m1 hu hr hE
    have r3 : r = 3 := by omega
    subst r3
    refine X_iload_n dX3_init_41 rfl rfl ?_
    refine Y_iconst dX3_init_42 (by unfold i32; omega) ?_
    exact X_icmp_ge dX3_init_43 (tgt := 65) rfl (fun _ => h m1 hE) (fun q => absurd (by omega) q)
  | succ u ih =>
    intro r m1 hu hr hE
    obtain ⟨e1, e2, e3, e4, e5, ⟨e6, e7⟩, ⟨e8, e9⟩, e10, e11⟩ := hE
    have hcnt : m1.2.2.2.1 = ec c r := e4
    have hec : c + 3 ≤ ec c r := by unfold ec; omega
    have z1 : ∀ x, ec c r ≤ x → ∀ j, m1.1 x j = 0 := fun x hx j => by rw [e1]; exact (hF.2.2 x (by omega)).1 j
    have obc : am_ob m1 c 3 := ⟨by omega, by rw [e3 c (by omega)]; exact hci, by omega⟩
    refine X_iload_n dX3_init_41 rfl rfl ?_
    refine Y_iconst dX3_init_42 (by unfold i32; omega) ?_
    refine X_icmp_ge dX3_init_43 (tgt := 65) rfl (fun q => absurd q (by omega)) (fun _ => ?_)
    refine X_aload_n dX3_init_46 rfl rfl ?_
    refine X_getP dX3_init_47 fl_3_11 rfl obc ?_
    refine am_ptr e6 ?_
    refine X_iload_n dX3_init_50 rfl rfl ?_
    refine X_newO (ci := 2) dX3_init_51 rfl cl_3_9 in_2 t2_init.1.2.2.1 ⟨e5, fun j => z1 _ (by omega) j, fun j => e11 _ (by omega) j⟩ (by omega) (by omega) ?_
    rw [hcnt]
    have hcm : (am_al m1 2 0).2.2.2.1 = ec c r + 1 := by show m1.2.2.2.1 + 1 = _; rw [hcnt]
    have sh : ∀ x, (am_al m1 2 0).2.2.1 x = if x = ec c r then (2, 0) else m1.2.2.1 x := fun x => by show (if x = m1.2.2.2.1 then _ else _) = _; rw [hcnt]
    have hF1 : Fz (am_al m1 2 0) (ec c r) := ⟨e5, hcm, fun x hx => ⟨z1 x hx, e11 x hx⟩⟩
    have hci1 : ((am_al m1 2 0).2.2.1 (ec c r)).1 = 2 := by rw [sh, if_pos rfl]
    refine X_dup dX3_init_54 rfl ?_
    refine X_callIN (a' := 5) (b' := 608) (As := []) (r := ec c r) dX3_init_55 t2_init mn_3_34 rfl rfl (by simp [am_wd]) rfl hd (by omega) (by omega) (ct_new2 hF1 (by omega) hci1 fun m2 B => ?_)
    have B : Bd (am_al m1 2 0) m2 (ec c r) l2 := B
    have hCt := Ct.mk B (by omega) hci1
    have b4 : m2.2.2.2.1 = ec c r + 6 := B.2.2.2.1
    have p1 : m2.2.1 (c + 1) = m1.2.1 (c + 1) := B.2.1 (c + 1) (by omega)
    have s1 : ∀ x, x < ec c r → m2.2.2.1 x = m1.2.2.1 x := fun x hx => by rw [B.2.2.1 x (by omega), sh, if_neg (by omega)]
    refine X_aast dX3_init_58 (n := 3) ⟨by rw [b4]; omega, by rw [s1 _ (by omega)]; exact e8, by omega⟩ hCt.1 (by omega) (by omega) ?_
    rw [Int.toNat_natCast]
    refine X_iinc dX3_init_59 rfl ?_
    refine X_goto dX3_init_62 (tgt := 41) rfl ?_
    rw [wr_s (by omega)]
    have hb1 : 6 * (u + 1) - 1 - 5 = 6 * u := by omega
    have hb2 : 618 * (u + 1) - 10 - 608 = 618 * u := by omega
    rw [hb1, hb2]
    have ec1 : ec c (r + 1) = ec c r + 6 := by unfold ec; omega
    refine ih (r + 1) _ (by omega) (by omega) ⟨?_, fun x hx => ?_, fun x hx => ?_, ?_, B.2.2.2.2.1, ⟨?_, ?_⟩, ⟨?_, ?_⟩, fun r' hr' => ?_, fun x hx j => ?_⟩
    · exact B.1.trans e1
    · show u2 m2.2.1 (c + 1) r _ x = _
      rw [u2_row _ (by omega), B.2.1 x (by omega)]; exact e2 x hx
    · exact (s1 x (by omega)).trans (e3 x hx)
    · exact b4.trans ec1.symm
    · show u2 m2.2.1 (c + 1) r _ c 0 = _
      rw [u2_row _ (by omega), B.2.1 c (by omega)]; exact e6
    · show u2 m2.2.1 (c + 1) r _ c 1 = _
      rw [u2_row _ (by omega), B.2.1 c (by omega)]; exact e7
    · exact (s1 _ (by omega)).trans e8
    · exact (s1 _ (by omega)).trans e9
    · by_cases z : r' = r
      · subst z
        refine ⟨u2_same _ _ _ _, hCt.mv ?_ (fun _ _ _ => rfl) (Nat.le_refl _)⟩
        show u2 m2.2.1 (c + 1) r' _ (ec c r') = _
        exact u2_row _ (by omega)
      · have q := e10 r' (by omega)
        have hl : ec c r' + 6 ≤ ec c r := by unfold ec; omega
        have hl2 : c + 3 ≤ ec c r' := by unfold ec; omega
        refine ⟨?_, q.2.mv ?_ (fun x a1 a2 => s1 x (by omega)) (by show m1.2.2.2.1 ≤ m2.2.2.2.1; rw [b4, hcnt]; omega)⟩
        · show u2 m2.2.1 (c + 1) r _ (c + 1) r' = _
          rw [u2_ne _ (Or.inr z), p1]; exact q.1
        · show u2 m2.2.1 (c + 1) r _ (ec c r') = _
          rw [u2_row _ (by omega)]
          exact B.2.1 (ec c r') (by omega)
    · show u2 m2.2.1 (c + 1) r _ x j = none
      rw [u2_row _ (by omega), B.2.1 x (by omega)]
      exact e11 x (by omega) j
