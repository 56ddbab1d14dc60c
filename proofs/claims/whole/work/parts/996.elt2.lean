/-! THE CLASS reads an election's text, on -/
section
variable {G : am_G} {dp : Nat} {Q : am_Q} {Z : (Nat → Nat → Option Nat) × (Nat → Nat × Nat) × Nat × Bool}
theorem ct_readPaper {I : Nat → Nat → Int} {tp : Nat → Int} {n e : Nat} {s : TR} (hz : SZ G) (hd : 7 ≤ dp) (hB : TpB tp) (hT : Tb I tp n) (hk : Rk (I, Z)) (he : El (I, Z) e) (hek : eok e) (hR : RdC I tp n s.1) (ht : Tk n s.1) (hE : EdV I e s.2) (hZ : RZ s.2) (h : ∀ I' : Nat → Nat → Int, EF e I I' → RdC I' tp n (tPap tp n s).1 → EdV I' e (tPap tp n s).2 → Q (.inl none) (I', Z)) : T G dp 0 0 M4_readPaper [rV (some 76), rV (some e)] (I, Z) Q := by
  have e3 : (I, Z).1 e 3 = s.2 1 := hE.1.2.1
  have hn := hZ.1.n
  have hc := hZ.1.c
  have hek' := hek
  unfold eok at hek'
  refine T4_readPaper (s4_readPaper_0 (by omega) (am_ow he.1) (am_ow hk.1) fun Q' hK => ?_)
  rw [e3, wr_of (by omega) (by omega)]
  refine ct_needNumber (I := I) (t := s.1) (lo := 0) (hi := s.2 1 - 1) (room := 100000000) (by omega) (by omega) (by omega) (by omega) hB hT hk hR ht fun I1 f1 g1 => hK _ _ ?_
  have a2 : (I1, Z).1 e 2 = s.2 0 := by show I1 e 2 = _; rw [f1 e (by omega)]; exact hE.1.1
  refine s4_readPaper_13 (by omega) (am_ow he.1) (am_ow hk.1) fun Q' hK => ?_
  rw [a2, wr_of (by omega) (by omega)]
  refine ct_needNumber (I := I1) (t := tP1 tp n s) (lo := 0) (hi := s.2 0 - 1) (room := 100000000) (by omega) (by omega) (by omega) (by omega) hB (hT.ef (EF.of f1) hek) hk g1 ht.N fun I2 f2 g2 => hK _ _ ?_
  have f12 : ∀ x, x ≠ 76 → I2 x = I x := fun x hx => (f2 x hx).trans (f1 x hx)
  have hb := tV_lo (tp := tp) (n := n) (t := s.1) (lo := 0) (hi := s.2 1 - 1) (room := 100000000)
  have hr := tV_lo (tp := tp) (n := n) (t := tP1 tp n s) (lo := 0) (hi := s.2 0 - 1) (room := 100000000)
  have eb : tV tp n s.1 0 (s.2 1 - 1) 100000000 = (tPb tp n s : Nat) := by unfold tPb; omega
  have er : tV tp n (tP1 tp n s) 0 (s.2 0 - 1) 100000000 = (tPr tp n s : Nat) := by unfold tPr; omega
  rw [eb, er]
  have b2 : (I2, Z).1 e 2 = s.2 0 := by show I2 e 2 = _; rw [f12 e (by omega)]; exact hE.1.1
  have hE2 : EdV I2 e s.2 := hE.fr hZ.1 hek.2 f12
  unfold tPap at h
  by_cases z : tPr tp n s < rC s.2
  · rw [if_pos z] at h
    have hK := hZ.1.k z
    have hct := he.2.2.2 (tPr tp n s) (by omega)
    refine s4_readPaper_27 (p2 := ec e (tPr tp n s)) (by omega) (am_ow he.1) he.2.1.1 (Or.inl rfl) (am_rw he.2.2.1.1) (fun _ _ => by rw [Int.toNat_natCast]; exact hct.1) (fun q => absurd q (by omega)) (fun _ _ Q' hK' => ?_) (fun _ q => absurd q (by omega)) (fun _ _ => by omega) (fun _ _ => by omega)
    refine ct_readChoice (I := I2) (t := tP2 tp n s) (K := s.2 (8 + 2 * tPr tp n s)) hz (by omega) hB (hT.ef (EF.of f12) hek) hk (am_ow hct.2.1) (by unfold ec; omega) (hE2.2 _ z).1 (by omega) g2 ht.N.N fun I3 f3 g3 => hK' _ _ ?_
    have f13 : ∀ x, x ≠ 76 → I3 x = I x := fun x hx => (f3 x hx).trans (f12 x hx)
    have hE3 : EdV I3 e s.2 := hE.fr hZ.1 hek.2 f13
    have c3 : (I3, Z).1 e 3 = rN s.2 := hE3.1.2.1.trans hn.1
    refine s4_readPaper_52 (by omega) (am_ow hk.1) fun Q' hK' => ct_isFine (I := I3) (t := (tP3 tp n s).1) hk g3 (hK' _ _ ?_)
    refine s4_readPaper_58 (p2 := ec e (tPr tp n s)) (p3 := ec e (tPr tp n s) + 2) (am_ow he.1) he.2.1.1 (Or.inl rfl) (am_rw he.2.2.1.1) (fun _ _ => by rw [Int.toNat_natCast]; exact hct.1) (fun _ _ => am_ow hct.2.1) (fun _ _ => hct.2.2.1.2.1) (fun _ _ => hct.2.2.2.2.1) (fun q => ?_) (fun q q2 => ?_) (fun q q2 => ?_) (fun _ _ => by omega) (fun _ _ => by omega) (fun _ _ => by omega) (fun _ _ => by omega)
    · by_cases w : (tP3 tp n s).1.2.1 = 0
      · rw [if_pos w] at q; exact absurd q (by decide)
      · rw [if_neg (fun y => w y.1)] at h
        exact h I3 (EF.of f13) g3 hE3
    · rw [if_neg (fun y => absurd y.2 (by omega))] at h
      exact h I3 (EF.of f13) g3 hE3
    · have w : (tP3 tp n s).1.2.1 = 0 := Decidable.byContradiction fun w => q (if_neg w)
      have hbN : tPb tp n s < rN s.2 := by omega
      rw [if_pos ⟨w, hbN⟩] at h
      rw [Int.toNat_natCast]
      refine h _ ((EF.of f13).u (by unfold ec; omega)) ?_ ⟨?_, fun r hr => ?_⟩
      · unfold RdC
        rw [u2r (by unfold ec; omega)]
        exact g3
      · show ElH _ e (rs1 s.2 (614 + 3 * tPb tp n s + tPr tp n s) _)
        unfold ElH
        rw [u2r (show e ≠ ec e (tPr tp n s) + 2 by unfold ec; omega), u2r (show e + 2 ≠ ec e (tPr tp n s) + 2 by unfold ec; omega), rs1_ne (by omega), rs1_ne (by omega), rs1_ne (by omega), rs1_ne (by omega), rs1_ne (by omega), rs1_ne (by omega), rs1_ne (by omega)]
        exact hE3.1
      · have hr : r < rC (rs1 s.2 (614 + 3 * tPb tp n s + tPr tp n s) (tP3 tp n s).2) := hr
        have eC : rC (rs1 s.2 (614 + 3 * tPb tp n s + tPr tp n s) (tP3 tp n s).2) = rC s.2 := by unfold rC; rw [rs1_ne (by omega)]
        rw [eC] at hr
        have q9 := hE3.2 r hr
        show CtD _ _ (rs1 s.2 (614 + 3 * tPb tp n s + tPr tp n s) (tP3 tp n s).2) r
        have eN : rN (rs1 s.2 (614 + 3 * tPb tp n s + tPr tp n s) (tP3 tp n s).2) = rN s.2 := by unfold rN; rw [rs1_ne (by omega)]
        unfold CtD
        rw [eN, u2r (show ec e r ≠ ec e (tPr tp n s) + 2 by unfold ec; omega), u2r (show ec e r + 1 ≠ ec e (tPr tp n s) + 2 by unfold ec; omega), rs1_ne (by omega)]
        refine ⟨q9.1, ?_, fun x hx => ?_⟩
        · unfold rY; rw [rs1_ne (by omega)]; exact q9.2.1
        · have q8 := q9.2.2 x hx
          refine ⟨?_, ?_⟩
          · unfold rV_; rw [rs1_ne (by omega)]; exact q8.1
          · unfold rP_
            by_cases y : r = tPr tp n s
            · subst y
              by_cases y2 : x = tPb tp n s
              · rw [y2, u2_at, rs1_at]; rfl
              · rw [u2n y2, rs1_ne (by omega)]; exact q8.2
            · rw [u2r (by unfold ec; omega), rs1_ne (by omega)]; exact q8.2
  · rw [if_neg z] at h
    exact s4_readPaper_27 (p2 := 0) (by omega) (am_ow he.1) he.2.1.1 (Or.inl rfl) (am_rw he.2.2.1.1) (fun q => absurd (show (I2, Z).1 e 2 ≤ (tPr tp n s : Int) by omega) q) (fun _ => h I2 (EF.of f12) g2 hE2) (fun q => absurd (show (I2, Z).1 e 2 ≤ (tPr tp n s : Int) by omega) q) (fun q => absurd (show (I2, Z).1 e 2 ≤ (tPr tp n s : Int) by omega) q) (fun q => absurd (show (I2, Z).1 e 2 ≤ (tPr tp n s : Int) by omega) q) (fun q => absurd (show (I2, Z).1 e 2 ≤ (tPr tp n s : Int) by omega) q)
/-- one entry of the row that isn't of a race -/
theorem EdV.one {I I' : Nat → Nat → Int} {e k : Nat} {v : Int} {R : Nat → Int} (h : EdV I e R) (hR : RV R) (hk : 2 ≤ k ∧ k < 6) (hH : ElH I' e (rs1 R k v)) (f : ∀ x, x ≠ e → x ≠ e + 2 → I' x = I x) : EdV I' e (rs1 R k v) := by
  refine ⟨hH, fun r hr => ?_⟩
  have eC : rC (rs1 R k v) = rC R := by unfold rC; rw [rs1_ne (by omega)]
  have eN : rN (rs1 R k v) = rN R := by unfold rN; rw [rs1_ne (by omega)]
  rw [eC] at hr
  have q := h.2 r hr
  have hc := hR.c
  unfold CtD
  rw [eN, f (ec e r) (by unfold ec; omega) (by unfold ec; omega), f (ec e r + 1) (by unfold ec; omega) (by unfold ec; omega), f (ec e r + 2) (by unfold ec; omega) (by unfold ec; omega), rs1_ne (by omega)]
  refine ⟨q.1, ?_, fun x hx => ?_⟩
  · unfold rY; rw [rs1_ne (by omega)]; exact q.2.1
  · unfold rV_ rP_; rw [rs1_ne (by omega), rs1_ne (by omega)]; exact q.2.2 x hx
theorem ct_readRule {I : Nat → Nat → Int} {tp : Nat → Int} {n e w : Nat} {s : TR} (hd : 2 ≤ dp) (hB : TpB tp) (hT : Tb I tp n) (hk : Rk (I, Z)) (he : El (I, Z) e) (hek : eok e) (hR : RdC I tp n s.1) (ht : Tk n s.1) (hE : EdV I e s.2) (hZ : RZ s.2) (hw : w < 3) (h : ∀ I' : Nat → Nat → Int, EF e I I' → RdC I' tp n (tRul tp n s (2 + w) (lea w) (mos w)).1 → EdV I' e (tRul tp n s (2 + w) (lea w) (mos w)).2 → Q (.inl none) (I', Z)) : T G dp 0 0 M4_readRule [rV (some 76), rV (some e), iV w] (I, Z) Q := by
  have hek' := hek
  unfold eok at hek'
  have hl : 0 ≤ lea w ∧ lea w ≤ 101 := by unfold lea; split <;> omega
  have hm : 0 ≤ mos w ∧ mos w ≤ 500 := by unfold mos; split <;> omega
  refine T4_readRule (s4_readRule_0 (by omega) fun Q' hK => ct_leastOf (hK _ _ ?_))
  refine s4_readRule_7 (by omega) fun Q' hK => ct_mostOf (hK _ _ ?_)
  refine s4_readRule_11 (by omega) (am_ow hk.1) fun Q' hK => ct_needNumber (I := I) (t := s.1) (room := 100000000) (by omega) (by omega) (by omega) (by omega) hB hT hk hR ht fun I1 f1 g1 => hK _ _ ?_
  have hE1 : EdV I1 e s.2 := hE.fr hZ.1 hek.2 f1
  refine s4_readRule_16 (by omega) (am_ow he.1) fun Q' hK => T3_setRule (s3_setRule_0 (n_p1 := 3) (am_ow he.1) he.2.1.2 he.2.2.1.2 (fun c1 => absurd c1 (by omega)) (fun c1 c2 => absurd c2 (by omega)) (fun c1 c2 => hK _ (s4_readRule_19 ?_)))
  rw [Int.toNat_natCast]
  refine h _ ((EF.of f1).u (by omega)) ?_ ?_
  · unfold RdC
    rw [u2r (by omega)]
    exact g1
  · refine hE1.one hZ.1 (by omega) ?_ (fun x a1 a2 => u2r a2)
    obtain ⟨a0, a1, a2, a3, a4⟩ := hE1.1
    have u : u2 I1 (e + 2) w (tV tp n s.1 (lea w) (mos w) 100000000) e = I1 e := u2r (by omega)
    unfold ElH
    rw [u, rs1_ne (show 0 ≠ 2 + w by omega), rs1_ne (show 1 ≠ 2 + w by omega), rs1_ne (show 5 ≠ 2 + w by omega), rs1_ne (show 6 ≠ 2 + w by omega)]
    have f : ∀ j, j < 3 → I1 (e + 2) j = s.2 (2 + j) → u2 I1 (e + 2) w (tV tp n s.1 (lea w) (mos w) 100000000) (e + 2) j = rs1 s.2 (2 + w) (tV tp n s.1 (lea w) (mos w) 100000000) (2 + j) := fun j hj hq => by
      by_cases ej : j = w
      · subst ej; rw [u2_at, rs1_at]
      · rw [u2n ej, rs1_ne (by omega)]; exact hq
    exact ⟨a0, a1, a2, a3, f 0 (by omega) a4.1, f 1 (by omega) a4.2.1, f 2 (by omega) a4.2.2⟩
theorem ct_readLine {I : Nat → Nat → Int} {tp : Nat → Int} {n e : Nat} {s : TR} (hz : SZ G) (hd : 8 ≤ dp) (hB : TpB tp) (hT : Tb I tp n) (hk : Rk (I, Z)) (he : El (I, Z) e) (hek : eok e) (hR : RdC I tp n s.1) (ht : Tk n s.1) (hE : EdV I e s.2) (hZ : RZ s.2) (h : ∀ I' : Nat → Nat → Int, EF e I I' → RdC I' tp n (tLine tp n s).1 → EdV I' e (tLine tp n s).2 → Q (.inl none) (I', Z)) : T G dp 0 0 M4_readLine [rV (some 76), rV (some e)] (I, Z) Q := by
  have hok := tLin_ok (tp := tp) ht hZ
  have fin : ∀ I1 : Nat → Nat → Int, EF e I I1 → RdC I1 tp n (tLin tp n s).1 → EdV I1 e (tLin tp n s).2 → X G dp 0 0 M4_readLine 118 [some (rV (some 76)), some (rV (some e))] [] (I1, Z) Q := fun I1 f1 g1 v1 =>
    s4_readLine_118 (by omega) (am_ow hk.1) fun Q' hK => ct_needSign (I := I1) (t := (tLin tp n s).1) (c := 59) (by omega) (by omega) hB (hT.ef f1 hek) hk g1 hok.1 fun I2 f2 g2 => hK _ (s4_readLine_124 (h I2 (f1.tr (EF.of f2)) g2 (v1.fr hok.2.1.1 hek.2 f2)))
  unfold tLin at fin
  have hs : ∀ {I1 : Nat → Nat → Int}, EF e I I1 → Tb I1 tp n := fun f => hT.ef f hek
  have hE' : ∀ {I1 : Nat → Nat → Int}, (∀ x, x ≠ 76 → I1 x = I x) → EdV I1 e s.2 := fun f => hE.fr hZ.1 hek.2 f
  refine T4_readLine (s4_readLine_0 (by omega) (am_ow hk.1) fun Q' hK => ct_skipWord (I := I) (t := s.1) hz (by omega) (by decide) hB hT hk hR ht fun I1 f1 g1 => hK _ _ ?_)
  by_cases e1 : iW tp n s.1 (sby 4) = true
  · rw [if_pos e1] at fin
    rw [e1] at g1 ⊢
    exact s4_readLine_6 (by omega) (am_ow hk.1) (fun q => absurd q (by decide)) (fun _ Q' hK => ct_readBallots (I := I1) (s := (tP tp n s.1, s.2)) hz (by omega) hB (hs (EF.of f1)) hk he hek g1 ht.P (hE' f1) hZ fun I2 f2 g2 v2 => hK _ (s4_readLine_14 (fin I2 ((EF.of f1).tr f2) g2 v2)))
  rw [if_neg e1] at fin
  rw [eq_false_of_ne_true e1] at g1 ⊢
  clear e1
  refine s4_readLine_6 (by omega) (am_ow hk.1) (fun _ Q' hK => ct_skipWord (I := I1) (t := s.1) hz (by omega) (by decide) hB (hs (EF.of f1)) hk g1 ht fun I2 f2 g2 => hK _ _ ?_) (fun q => absurd rfl q)
  have f2 : ∀ x, x ≠ 76 → I2 x = I x := fun x hx => (f2 x hx).trans (f1 x hx)
  clear f1 g1
  by_cases e1 : iW tp n s.1 (sby 7) = true
  · rw [if_pos e1] at fin
    rw [e1] at g2 ⊢
    exact s4_readLine_23 (by omega) (am_ow hk.1) (fun q => absurd q (by decide)) (fun _ Q' hK => ct_readPaper (I := I2) (s := (tP tp n s.1, s.2)) hz (by omega) hB (hs (EF.of f2)) hk he hek g2 ht.P (hE' f2) hZ fun I3 f3 g3 v3 => hK _ (s4_readLine_31 (fin I3 ((EF.of f2).tr f3) g3 v3)))
  rw [if_neg e1] at fin
  rw [eq_false_of_ne_true e1] at g2 ⊢
  clear e1
  refine s4_readLine_23 (by omega) (am_ow hk.1) (fun _ Q' hK => ct_skipWord (I := I2) (t := s.1) hz (by omega) (by decide) hB (hs (EF.of f2)) hk g2 ht fun I3 f3 g3 => hK _ _ ?_) (fun q => absurd rfl q)
  have f3 : ∀ x, x ≠ 76 → I3 x = I x := fun x hx => (f3 x hx).trans (f2 x hx)
  clear f2 g2
  by_cases e1 : iW tp n s.1 (sby 8) = true
  · rw [if_pos e1] at fin
    rw [e1] at g3 ⊢
    exact s4_readLine_40 (by omega) (am_ow hk.1) (fun q => absurd q (by decide)) (fun _ Q' hK => ct_readRule (I := I3) (w := 0) (s := (tP tp n s.1, s.2)) (by omega) hB (hs (EF.of f3)) hk he hek g3 ht.P (hE' f3) hZ (by omega) fun I4 f4 g4 v4 => hK _ (s4_readLine_49 (fin I4 ((EF.of f3).tr f4) g4 v4)))
  rw [if_neg e1] at fin
  rw [eq_false_of_ne_true e1] at g3 ⊢
  clear e1
  refine s4_readLine_40 (by omega) (am_ow hk.1) (fun _ Q' hK => ct_skipWord (I := I3) (t := s.1) hz (by omega) (by decide) hB (hs (EF.of f3)) hk g3 ht fun I4 f4 g4 => hK _ _ ?_) (fun q => absurd rfl q)
  have f4 : ∀ x, x ≠ 76 → I4 x = I x := fun x hx => (f4 x hx).trans (f3 x hx)
  clear f3 g3
  by_cases e1 : iW tp n s.1 (sby 9) = true
  · rw [if_pos e1] at fin
    rw [e1] at g4 ⊢
    exact s4_readLine_58 (by omega) (am_ow hk.1) (fun q => absurd q (by decide)) (fun _ Q' hK => ct_readRule (I := I4) (w := 1) (s := (tP tp n s.1, s.2)) (by omega) hB (hs (EF.of f4)) hk he hek g4 ht.P (hE' f4) hZ (by omega) fun I5 f5 g5 v5 => hK _ (s4_readLine_67 (fin I5 ((EF.of f4).tr f5) g5 v5)))
  rw [if_neg e1] at fin
  rw [eq_false_of_ne_true e1] at g4 ⊢
  clear e1
  refine s4_readLine_58 (by omega) (am_ow hk.1) (fun _ Q' hK => ct_skipWord (I := I4) (t := s.1) hz (by omega) (by decide) hB (hs (EF.of f4)) hk g4 ht fun I5 f5 g5 => hK _ _ ?_) (fun q => absurd rfl q)
  have f5 : ∀ x, x ≠ 76 → I5 x = I x := fun x hx => (f5 x hx).trans (f4 x hx)
  clear f4 g4
  by_cases e1 : iW tp n s.1 (sby 10) = true
  · rw [if_pos e1] at fin
    rw [e1] at g5 ⊢
    exact s4_readLine_76 (by omega) (am_ow hk.1) (fun q => absurd q (by decide)) (fun _ Q' hK => ct_readRule (I := I5) (w := 2) (s := (tP tp n s.1, s.2)) (by omega) hB (hs (EF.of f5)) hk he hek g5 ht.P (hE' f5) hZ (by omega) fun I6 f6 g6 v6 => hK _ (s4_readLine_85 (fin I6 ((EF.of f5).tr f6) g6 v6)))
  rw [if_neg e1] at fin
  rw [eq_false_of_ne_true e1] at g5 ⊢
  clear e1
  refine s4_readLine_76 (by omega) (am_ow hk.1) (fun _ Q' hK => ct_skipWord (I := I5) (t := s.1) hz (by omega) (by decide) hB (hs (EF.of f5)) hk g5 ht fun I6 f6 g6 => hK _ _ ?_) (fun q => absurd rfl q)
  have f6 : ∀ x, x ≠ 76 → I6 x = I x := fun x hx => (f6 x hx).trans (f5 x hx)
  clear f5 g5
  by_cases e1 : iW tp n s.1 (sby 11) = true
  · rw [if_pos e1] at fin
    rw [e1] at g6 ⊢
    refine s4_readLine_94 (by omega) (am_ow hk.1) (fun q => absurd q (by decide)) (fun _ Q' hK => ct_needNumber (I := I6) (t := tP tp n s.1) (lo := 0) (hi := 999999) (room := 100000000) (by omega) (by omega) (by omega) (by omega) hB (hs (EF.of f6)) hk g6 ht.P fun I7 f7 g7 => hK _ _ ?_)
    have f7 : ∀ x, x ≠ 76 → I7 x = I x := fun x hx => (f7 x hx).trans (f6 x hx)
    refine s4_readLine_107 he.1 ?_
    have hek' := hek
    unfold eok at hek'
    refine fin _ ((EF.of f7).u (by omega)) ?_ ?_
    · unfold RdC
      rw [u2r (by omega)]
      exact g7
    · have hE7 := hE' f7
      refine hE7.one hZ.1 (by omega) ?_ (fun x a1 a2 => u2r a1)
      obtain ⟨a0, a1, a2, a3, a4⟩ := hE7.1
      unfold ElH
      dsimp only
      rw [u2n (by omega), u2n (by omega), u2_at, u2n (by omega), u2r (show e + 2 ≠ e by omega), rs1_ne (by omega), rs1_ne (by omega), rs1_at, rs1_ne (by omega), rs1_ne (by omega), rs1_ne (by omega), rs1_ne (by omega)]
      exact ⟨a0, a1, rfl, a3, a4⟩
  rw [if_neg e1] at fin
  rw [eq_false_of_ne_true e1] at g6 ⊢
  exact s4_readLine_94 (by omega) (am_ow hk.1) (fun _ Q' hK => ct_fail (I := I6) (t := s.1) hk g6 fun I7 f7 g7 => hK _ (fin I7 ((EF.of f6).tr (EF.of f7)) g7 (hE' (fun x hx => (f7 x hx).trans (f6 x hx))))) (fun q => absurd rfl q)
end
