/-! THE REFERENCE reads an election's text -/
def RwB (I : Nat → Nat → Int) (R : Nat → Int) : Prop := ∀ j, j < 1514 → I 105 j = R j
def RFm (I I' : Nat → Nat → Int) : Prop := (∀ x, x ≠ 103 → x ≠ 105 → I' x = I x) ∧ ∀ k, k < 26 ∨ 31 < k → I' 103 k = I 103 k
theorem NF.rm {I I' : Nat → Nat → Int} (h : NF I I') : RFm I I' := ⟨fun x a _ => h.1 x a, h.2⟩
theorem RFm.tr {I J K : Nat → Nat → Int} (h : RFm I J) (k : RFm J K) : RFm I K := ⟨fun x a b => (k.1 x a b).trans (h.1 x a b), fun x a => (k.2 x a).trans (h.2 x a)⟩
theorem RFm.u {I J : Nat → Nat → Int} {k : Nat} {z : Int} (h : RFm I J) : RFm I (u2 J 105 k z) := ⟨fun x a b => by rw [u2r b]; exact h.1 x a b, fun x a => by rw [u2r (by omega)]; exact h.2 x a⟩
theorem TbM.rm {I I' : Nat → Nat → Int} {tp : Nat → Int} {n : Nat} (h : TbM I tp n) (f : RFm I I') : TbM I' tp n := ⟨h.1, fun j hj => by rw [f.1 121 (by omega) (by omega)]; exact h.2 j hj⟩
theorem RdM.u {I : Nat → Nat → Int} {tp : Nat → Int} {n k : Nat} {t : TS} {z : Int} (h : RdM I tp n t) : RdM (u2 I 105 k z) tp n t := by
  unfold RdM
  rw [u2r (by omega)]
  exact h
theorem ix8 {k : Nat} (h : k ≤ 10) : wr (8 + wr (2 * (k : Int))) = ((8 + 2 * k : Nat) : Int) := by
  rw [wr_of (z := 2 * (k : Int)) (by omega) (by omega), wr_of (by omega) (by omega)]; omega
theorem ix9 {k : Nat} (h : k ≤ 10) : wr (wr (8 + wr (2 * (k : Int))) + 1) = ((8 + 2 * k + 1 : Nat) : Int) := by
  rw [ix8 h, wr_of (by omega) (by omega)]; omega
section
variable {G : am_G} {dp : Nat} {Q : am_Q} {Z : (Nat → Nat → Option Nat) × (Nat → Nat × Nat) × Nat × Bool}
theorem r_isW {I : Nat → Nat → Int} {tp : Nat → Int} {n j : Nat} {t : TS} (l : List Int) (hl : sby j = l) (hz : SZ G) (hd : 4 ≤ dp) (hj : l ≠ []) (hT : TbM I tp n) (hM : Md (I, Z)) (hR : RdM I tp n t) (ht : Tk n t) (h : Q (.inl (some (iV (b01 (iW tp n t l))))) (I, Z)) : T G dp 0 0 M9_isWord [rV (some 103), sV j] (I, Z) Q := by
  subst hl
  exact r_isWord hz hd hj hT hM hR ht h
theorem r_readWay {I : Nat → Nat → Int} {tp : Nat → Int} {n : Nat} {t : TS} (hz : SZ G) (hd : 5 ≤ dp) (hB : TpB tp) (hT : TbM I tp n) (hM : Md (I, Z)) (hR : RdM I tp n t) (ht : Tk n t) (h : ∀ I' : Nat → Nat → Int, NF I I' → RdM I' tp n (tWay tp n t).1 → Q (.inl (some (iV (tWay tp n t).2))) (I', Z)) : T G dp 0 0 M9_readWay [rV (some 103)] (I, Z) Q := by
  refine T9_readWay (s9_readWay_0 (by omega) (am_ow hM.1) fun Q' hK => r_isW (sby 2) rfl (t := t) (n := n) hz (by omega) (by decide) hT hM hR ht (hK _ _ ?_))
  unfold tWay at h
  by_cases e : iW tp n t (sby 2) = true
  · rw [if_pos e] at h
    rw [e]
    exact s9_readWay_7 (by omega) (am_ow hM.1) (fun q => absurd q (by decide)) (fun _ => s9_readWay_35 (by omega) (am_ow hM.1) fun Q' hK => r_pass (I := I) (t := t) (by omega) hB hT hM hR ht fun I1 f1 g1 => hK _ (s9_readWay_39 (h I1 f1 g1)))
  · rw [if_neg e] at h
    rw [eq_false_of_ne_true e]
    refine s9_readWay_7 (by omega) (am_ow hM.1) (fun _ Q' hK => r_isW (sby 3) rfl (t := t) (n := n) hz (by omega) (by decide) hT hM hR ht (hK _ _ ?_)) (fun q => absurd rfl q)
    by_cases e2 : iW tp n t (sby 3) = true
    · rw [if_pos e2] at h
      rw [e2]
      exact s9_readWay_27 (by omega) (am_ow hM.1) (fun _ => s9_readWay_35 (by omega) (am_ow hM.1) fun Q' hK => r_pass (I := I) (t := t) (by omega) hB hT hM hR ht fun I1 f1 g1 => hK _ (s9_readWay_39 (h I1 f1 g1))) (fun q => absurd q (by decide))
    · rw [if_neg e2] at h
      rw [eq_false_of_ne_true e2]
      refine s9_readWay_27 (by omega) (am_ow hM.1) (fun q => absurd rfl q) (fun _ Q' hK => r_wrong (I := I) (t := t) hM hR fun I1 f1 g1 => hK _ ?_)
      refine s9_readWay_35 (by omega) (am_ow hM.1) fun Q' hK => r_pass (I := I1) (t := tF t 1) (by omega) hB (hT.nf f1) hM g1 (ht.F ⟨by decide, by decide⟩) fun I2 f2 g2 => hK _ (s9_readWay_39 (h I2 (f1.tr f2) ?_))
      rw [tP_no (tF_w (by decide))] at g2
      exact g2
theorem r_choice {I : Nat → Nat → Int} {tp : Nat → Int} {n r : Nat} {t : TS} {K : Int} (hz : SZ G) (hd : 5 ≤ dp) (hB : TpB tp) (hT : TbM I tp n) (hM : Md (I, Z)) (hr : r ≤ 3) (hK5 : I 105 (8 + 2 * r) = K) (hK1 : 1 ≤ K ∧ K ≤ 4) (hR : RdM I tp n t) (ht : Tk n t) (h : ∀ (I' : Nat → Nat → Int) (v : Int), NF I I' → RdM I' tp n (tCh tp n t K).1 → ((tCh tp n t K).1.2.1 = 0 → v = (tCh tp n t K).2) → Q (.inl (some (iV v))) (I', Z)) : T G dp 0 0 M9_choice [rV (some 103), iV r] (I, Z) Q := by
  refine T9_choice (s9_choice_0 (by omega) (am_ow hM.1) fun Q' hK => r_isW (sby 5) rfl (t := t) (n := n) hz (by omega) (by decide) hT hM hR ht (hK _ _ ?_))
  unfold tCh at h
  by_cases e : iW tp n t (sby 5) = true
  · rw [if_pos e] at h
    rw [e]
    refine s9_choice_7 (by omega) (am_ow hM.1) (fun q => absurd q (by decide)) (fun _ Q' hK => r_isW (sby 5) rfl (t := t) (n := n) hz (by omega) (by decide) hT hM hR ht (hK _ _ ?_))
    rw [e]
    exact s9_choice_24 (by omega) (am_ow hM.1) (fun _ Q' hK => r_pass (I := I) (t := t) (by omega) hB hT hM hR ht fun I1 f1 g1 => hK _ (s9_choice_41 (h I1 _ f1 g1 fun _ => rfl))) (fun q => absurd q (by decide))
  · rw [if_neg e] at h
    rw [eq_false_of_ne_true e]
    refine s9_choice_7 (by omega) (am_ow hM.1) (fun _ Q' hK => r_isW (sby 5) rfl (t := t) (n := n) hz (by omega) (by decide) hT hM hR ht (hK _ _ ?_)) (fun q => absurd rfl q)
    rw [eq_false_of_ne_true e]
    refine s9_choice_24 (by omega) (am_ow hM.1) (fun q => absurd rfl q) (fun _ Q' hK => r_isW (sby 6) rfl (t := t) (n := n) hz (by omega) (by decide) hT hM hR ht (hK _ _ ?_))
    have e5 : (I, Z).1 105 (wr (8 + wr (2 * (r : Int)))).toNat = K := by rw [ix8 (by omega), Int.toNat_natCast]; exact hK5
    by_cases e2 : iW tp n t (sby 6) = true
    · rw [if_pos e2] at h
      rw [e2]
      exact s9_choice_34 (by omega) (am_ow hM.1) hM.read.1 (am_rw hM.read.2) (fun q => absurd q (by decide)) (fun _ Q' hK => r_pass (I := I) (t := t) (by omega) hB hT hM hR ht fun I1 f1 g1 => hK _ (s9_choice_41 (h I1 _ f1 g1 fun _ => rfl))) (fun q => absurd q (by decide)) (fun q => absurd q (by decide))
    · rw [if_neg e2] at h
      rw [eq_false_of_ne_true e2]
      refine s9_choice_34 (by omega) (am_ow hM.1) hM.read.1 (am_rw hM.read.2) (fun _ Q' hK => ?_) (fun q => absurd rfl q) (fun _ => by rw [ix8 (by omega)]; omega) (fun _ => by rw [ix8 (by omega)]; omega)
      rw [e5, wr_of (by omega) (by omega)]
      exact r_number (I := I) (t := t) (lo := 0) (hi := K - 1) (by omega) (by omega) (by omega) hB hT hM hR ht fun I1 v f1 g1 _ hv => hK _ _ (s9_choice_61 (h I1 v f1 g1 hv))
theorem tWay_w {tp : Nat → Int} {n : Nat} {t : TS} (h : (tWay tp n t).1.2.1 = 0) : t.2.1 = 0 := Decidable.byContradiction fun z => z (by rw [tWay_no z] at h; exact h)
theorem tCh_w {tp : Nat → Int} {n : Nat} {t : TS} {K : Int} (h : (tCh tp n t K).1.2.1 = 0) : t.2.1 = 0 := Decidable.byContradiction fun z => z (by rw [tCh_no z] at h; exact h)
theorem r_readRace {I : Nat → Nat → Int} {tp : Nat → Int} {n : Nat} {s : TR} (hz : SZ G) (hd : 6 ≤ dp) (hB : TpB tp) (hT : TbM I tp n) (hM : Md (I, Z)) (hR : RdM I tp n s.1) (ht : Tk n s.1) (hW : iW tp n s.1 (sby 1) = true) (hv : RwB I s.2) (hZ : RZ s.2) (h : ∀ I' : Nat → Nat → Int, RFm I I' → RdM I' tp n (tRace tp n s).1 → ((tRace tp n s).1.2.1 = 0 → RwB I' (tRace tp n s).2) → Q (.inl none) (I', Z)) : T G dp 0 0 M9_readRace [rV (some 103)] (I, Z) Q := by
  have hc := hZ.1.c
  have e0 : (I, Z).1 105 ((0 : Int)).toNat = rC s.2 := by show I 105 0 = _; rw [hv 0 (by omega)]; exact hc.1
  unfold tRace at h
  rw [if_pos hW] at h
  refine T9_readRace (s9_readRace_0 (by omega) (am_ow hM.1) hM.read.1 (am_rw hM.read.2) (fun q => ?_) (fun q Q' hK => ?_))
  · rw [e0] at q
    have k3 : rC s.2 < 3 := by omega
    rw [if_pos (show s.2 0 < 3 by omega)] at h
    refine s9_readRace_15 (by omega) (am_ow hM.1) fun Q' hK => r_pass (I := I) (t := s.1) (by omega) hB hT hM hR ht fun I1 f1 g1 => hK _ ?_
    refine s9_readRace_19 (by omega) (am_ow hM.1) fun Q' hK => r_number (I := I1) (t := tP tp n s.1) (lo := 2) (hi := 4) (by omega) (by omega) (by omega) hB (hT.nf f1) hM g1 ht.P fun I2 v f2 g2 _ hv2 => hK _ _ ?_
    refine s9_readRace_25 (by omega) (am_ow hM.1) fun Q' hK => r_readWay (I := I2) hz (by omega) hB (hT.nf (f1.tr f2)) hM g2 ht.P.N fun I3 f3 g3 => hK _ _ ?_
    refine s9_readRace_30 (by omega) (am_ow hM.1) fun Q' hK => r_must (I := I3) (c := 59) (by omega) hB (hT.nf ((f1.tr f2).tr f3)) hM g3 ht.P.N.W fun I4 f4 g4 => hK _ ?_
    have f := ((f1.tr f2).tr f3).tr f4
    have e4 : (I4, Z).1 105 ((0 : Int)).toNat = rC s.2 := by show I4 105 0 = _; rw [f.1 105 (by omega)]; exact e0
    have e5 : ∀ z : Int, (u2 I4 105 (wr (8 + wr (2 * (I4 105 ((0 : Int)).toNat)))).toNat z) 105 ((0 : Int)).toNat = rC s.2 := fun z => by
      rw [show I4 105 ((0 : Int)).toNat = rC s.2 from e4, ix8 (by omega), Int.toNat_natCast, u2n (by show 0 ≠ 8 + 2 * rC s.2; omega)]
      exact e4
    refine s9_readRace_37 (am_ow hM.1) hM.read.1 hM.read.2 (fun q2 => ?_) (fun q2 => h I4 f.rm g4 fun z => absurd (g4.2.2.2.2.2.1.trans z) q2) (fun _ => by omega) (fun _ => by rw [e4, ix8 (by omega)]; omega) (fun _ => by rw [e4, ix8 (by omega)]; omega) (fun _ => by dsimp only; rw [e5, ix9 (by omega)]; omega) (fun _ => by dsimp only; rw [e5, ix9 (by omega)]; omega)
    dsimp only at e4 ⊢
    have e6 : ∀ z y : Int, (u2 (u2 I4 105 (wr (8 + wr (2 * (I4 105 ((0 : Int)).toNat)))).toNat z) 105 (wr (wr (8 + wr (2 * (rC s.2 : Int))) + 1)).toNat y) 105 ((0 : Int)).toNat = rC s.2 := fun z y => by
      rw [ix9 (by omega), Int.toNat_natCast, u2n (by show 0 ≠ 8 + 2 * rC s.2 + 1; omega)]
      exact e5 z
    rw [e5, e6, e4, wr_s (by omega), ix9 (by omega), ix8 (by omega), Int.toNat_natCast, Int.toNat_natCast]
    refine h _ (((f.rm.u).u).u) ((g4.u).u).u fun w => ?_
    have w1 := tS_v w
    have w2 := tWay_w w1.1
    have hvv := hv2 w2
    intro j hj
    show u2 _ 105 0 _ 105 j = tRc2 s.2 _ _ j
    unfold tRc2
    rw [hvv]
    by_cases j0 : j = 0
    · subst j0; rw [u2_at, rs1_at]; omega
    · rw [u2n j0, rs1_ne j0]
      by_cases j1 : j = 8 + 2 * rC s.2 + 1
      · subst j1; rw [u2_at, rs1_at]
      · rw [u2n j1, rs1_ne j1]
        by_cases j2 : j = 8 + 2 * rC s.2
        · subst j2; rw [u2_at, rs1_at]
        · rw [u2n j2, rs1_ne j2, f.1 105 (by omega)]
          exact hv j hj
  · rw [e0] at q
    rw [if_neg (show ¬ s.2 0 < 3 by omega)] at h
    have hw : (tF s.1 3).2.1 ≠ 0 := tF_w (by decide)
    refine r_wrong (I := I) (t := s.1) hM hR fun I0 f0 g0 => hK _ ?_
    have t0 : Tk n (tF s.1 3) := ht.F ⟨by decide, by decide⟩
    refine s9_readRace_15 (by omega) (am_ow hM.1) fun Q' hK => r_pass (I := I0) (t := tF s.1 3) (by omega) hB (hT.nf f0) hM g0 t0 fun I1 f1 g1 => hK _ ?_
    rw [tP_no hw] at g1
    refine s9_readRace_19 (by omega) (am_ow hM.1) fun Q' hK => r_number (I := I1) (t := tF s.1 3) (lo := 2) (hi := 4) (by omega) (by omega) (by omega) hB (hT.nf (f0.tr f1)) hM g1 t0 fun I2 v f2 g2 _ _ => hK _ _ ?_
    rw [tN_no hw] at g2
    refine s9_readRace_25 (by omega) (am_ow hM.1) fun Q' hK => r_readWay (I := I2) hz (by omega) hB (hT.nf ((f0.tr f1).tr f2)) hM g2 t0 fun I3 f3 g3 => hK _ _ ?_
    rw [tWay_no hw] at g3
    refine s9_readRace_30 (by omega) (am_ow hM.1) fun Q' hK => r_must (I := I3) (c := 59) (by omega) hB (hT.nf (((f0.tr f1).tr f2).tr f3)) hM g3 t0 fun I4 f4 g4 => hK _ ?_
    rw [tS_no hw] at g4
    have f := (((f0.tr f1).tr f2).tr f3).tr f4
    have e30 : ¬ (I4, Z).1 103 30 = 0 := fun z => hw (g4.2.2.2.2.2.1.symm.trans z)
    exact s9_readRace_37 (am_ow hM.1) hM.read.1 hM.read.2 (fun q2 => absurd q2 e30) (fun _ => h I4 f.rm g4 fun z => absurd z hw) (fun q2 => absurd q2 e30) (fun q2 => absurd q2 e30) (fun q2 => absurd q2 e30) (fun q2 => absurd q2 e30) (fun q2 => absurd q2 e30)
end
