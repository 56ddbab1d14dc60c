/-! THE CLASS reads an election's text -/
theorem tV_lo {tp : Nat → Int} {n : Nat} {t : TS} {lo hi room : Int} : lo ≤ tV tp n t lo hi room ∧ (tV tp n t lo hi room ≤ hi ∨ tV tp n t lo hi room = lo) := by
  unfold tV
  by_cases e : iN tp n t = true ∧ lo ≤ nv tp n t.1 ∧ nv tp n t.1 ≤ hi ∧ nv tp n t.1 ≤ room
  · rw [if_pos e]; exact ⟨e.2.1, Or.inl e.2.2.1⟩
  · rw [if_neg e]; exact ⟨Int.le_refl _, Or.inr rfl⟩
def EdV (I : Nat → Nat → Int) (e : Nat) (R : Nat → Int) : Prop := ElH I e R ∧ ∀ r, r < rC R → CtD I (ec e r) R r
def EF (e : Nat) (I I' : Nat → Nat → Int) : Prop := ∀ x, x ≠ 76 → (x < e ∨ e + 21 ≤ x) → I' x = I x
theorem EF.rfl {e : Nat} {I : Nat → Nat → Int} : EF e I I := fun _ _ _ => Eq.refl _
theorem EF.tr {e : Nat} {I J K : Nat → Nat → Int} (h : EF e I J) (k : EF e J K) : EF e I K := fun x a b => (k x a b).trans (h x a b)
theorem EF.of {e : Nat} {I J : Nat → Nat → Int} (h : ∀ x, x ≠ 76 → J x = I x) : EF e I J := fun x a _ => h x a
theorem EF.u {e c k : Nat} {z : Int} {I J : Nat → Nat → Int} (h : EF e I J) (hc : e ≤ c ∧ c < e + 21) : EF e I (u2 J c k z) := fun x a b => by rw [u2r (by omega)]; exact h x a b
theorem CtD.fr {I I' : Nat → Nat → Int} {c : Nat} {R : Nat → Int} {r : Nat} (h : CtD I c R r) (h0 : I' c = I c) (h1 : I' (c + 1) = I (c + 1)) (h2 : I' (c + 2) = I (c + 2)) : CtD I' c R r := by
  unfold CtD at h ⊢
  rw [h0, h1, h2]
  exact h
theorem EdV.fr {I I' : Nat → Nat → Int} {e : Nat} {R : Nat → Int} (h : EdV I e R) (hR : RV R) (he : e + 21 ≤ 76) (f : ∀ x, x ≠ 76 → I' x = I x) : EdV I' e R := by
  have hc := hR.c
  refine ⟨h.1.same (f e (by omega)) (f (e + 2) (by omega)), fun r hr => (h.2 r hr).fr (f _ ?_) (f _ ?_) (f _ ?_)⟩ <;> (unfold ec; omega)
/-- where the text is read to -/
def eok (e : Nat) : Prop := 3 ≤ e ∧ e + 21 ≤ 76
theorem Tb.ef {e : Nat} {I I' : Nat → Nat → Int} {tp : Nat → Int} {n : Nat} (h : Tb I tp n) (f : EF e I I') (he : eok e) : Tb I' tp n := ⟨h.1, fun j hj => by rw [f 2 (by omega) (Or.inl he.1)]; exact h.2 j hj⟩
section
variable {G : am_G} {dp : Nat} {Q : am_Q} {Z : (Nat → Nat → Option Nat) × (Nat → Nat × Nat) × Nat × Bool}
theorem ct_readWay {I : Nat → Nat → Int} {tp : Nat → Int} {n : Nat} {t : TS} (hz : SZ G) (hd : 6 ≤ dp) (hB : TpB tp) (hT : Tb I tp n) (hk : Rk (I, Z)) (hR : RdC I tp n t) (ht : Tk n t) (h : ∀ I' : Nat → Nat → Int, (∀ x, x ≠ 76 → I' x = I x) → RdC I' tp n (tWay tp n t).1 → Q (.inl (some (iV (tWay tp n t).2))) (I', Z)) : T G dp 0 0 M4_readWay [rV (some 76)] (I, Z) Q := by
  refine T4_readWay (s4_readWay_0 (by omega) (am_ow hk.1) fun Q' hK => ct_skipWord (t := t) hz (by omega) (by decide) hB hT hk hR ht fun I1 f1 g1 => hK _ _ ?_)
  unfold tWay at h
  by_cases e : iW tp n t (sby 2) = true
  · rw [if_pos e] at h
    rw [e] at g1 ⊢
    exact s4_readWay_6 (by omega) (am_ow hk.1) (fun q => absurd q (by decide)) (fun _ => h I1 f1 g1)
  · rw [if_neg e] at h
    rw [eq_false_of_ne_true e] at g1 ⊢
    refine s4_readWay_6 (by omega) (am_ow hk.1) (fun _ Q' hK => ct_skipWord (I := I1) (t := t) hz (by omega) (by decide) hB (show Tb I1 tp n from ⟨hT.1, fun j hj => by rw [f1 2 (by omega)]; exact hT.2 j hj⟩) hk g1 ht fun I2 f2 g2 => hK _ _ ?_) (fun q => absurd rfl q)
    have f12 : ∀ x, x ≠ 76 → I2 x = I x := fun x hx => (f2 x hx).trans (f1 x hx)
    by_cases e2 : iW tp n t (sby 3) = true
    · rw [if_pos e2] at h
      rw [e2] at g2 ⊢
      exact s4_readWay_17 (by omega) (am_ow hk.1) (fun _ => s4_readWay_25 (h I2 f12 g2)) (fun q => absurd q (by decide))
    · rw [if_neg e2] at h
      rw [eq_false_of_ne_true e2] at g2 ⊢
      exact s4_readWay_17 (by omega) (am_ow hk.1) (fun q => absurd rfl q) (fun _ Q' hK => ct_fail (I := I2) (t := t) hk g2 fun I3 f3 g3 => hK _ (s4_readWay_25 (h I3 (fun x hx => (f3 x hx).trans (f12 x hx)) g3)))
theorem ct_readChoice {I : Nat → Nat → Int} {tp : Nat → Int} {n c : Nat} {t : TS} {K : Int} (hz : SZ G) (hd : 6 ≤ dp) (hB : TpB tp) (hT : Tb I tp n) (hk : Rk (I, Z)) (hc : am_ob (I, Z) c 2) (hc7 : c ≠ 76) (hK5 : I c 5 = K) (hK1 : 1 ≤ K ∧ K ≤ 4) (hR : RdC I tp n t) (ht : Tk n t) (h : ∀ I' : Nat → Nat → Int, (∀ x, x ≠ 76 → I' x = I x) → RdC I' tp n (tCh tp n t K).1 → Q (.inl (some (iV (tCh tp n t K).2))) (I', Z)) : T G dp 0 0 M4_readChoice [rV (some 76), rV (some c)] (I, Z) Q := by
  refine T4_readChoice (s4_readChoice_0 (by omega) (am_ow hk.1) fun Q' hK => ct_skipWord (t := t) hz (by omega) (by decide) hB hT hk hR ht fun I1 f1 g1 => hK _ _ ?_)
  unfold tCh at h
  by_cases e : iW tp n t (sby 5) = true
  · rw [if_pos e] at h
    rw [e] at g1 ⊢
    exact s4_readChoice_6 (by omega) (am_ow hk.1) (fun q => absurd q (by decide)) (fun _ => h I1 f1 g1)
  · rw [if_neg e] at h
    rw [eq_false_of_ne_true e] at g1 ⊢
    have hT1 : Tb I1 tp n := ⟨hT.1, fun j hj => by rw [f1 2 (by omega)]; exact hT.2 j hj⟩
    refine s4_readChoice_6 (by omega) (am_ow hk.1) (fun _ Q' hK => ct_skipWord (I := I1) (t := t) hz (by omega) (by decide) hB hT1 hk g1 ht fun I2 f2 g2 => hK _ _ ?_) (fun q => absurd rfl q)
    have f12 : ∀ x, x ≠ 76 → I2 x = I x := fun x hx => (f2 x hx).trans (f1 x hx)
    have hT2 : Tb I2 tp n := ⟨hT.1, fun j hj => by rw [f12 2 (by omega)]; exact hT.2 j hj⟩
    by_cases e2 : iW tp n t (sby 6) = true
    · rw [if_pos e2] at h
      rw [e2] at g2 ⊢
      exact s4_readChoice_17 (by omega) hc (am_ow hk.1) (fun q => absurd q (by decide)) (fun _ => h I2 f12 g2)
    · rw [if_neg e2] at h
      rw [eq_false_of_ne_true e2] at g2 ⊢
      refine s4_readChoice_17 (by omega) hc (am_ow hk.1) (fun _ Q' hK => ?_) (fun q => absurd rfl q)
      have e5 : (I2, Z).1 c 5 = K := by show I2 c 5 = K; rw [f12 c hc7]; exact hK5
      rw [e5, wr_of (by omega) (by omega)]
      exact ct_needNumber (I := I2) (t := t) (lo := 0) (hi := K - 1) (room := 100000000) (by omega) (by omega) (by omega) (by omega) hB hT2 hk g2 ht fun I3 f3 g3 => hK _ _ (s4_readChoice_36 (h I3 (fun x hx => (f3 x hx).trans (f12 x hx)) g3))
theorem ct_readRace {I : Nat → Nat → Int} {tp : Nat → Int} {n e : Nat} {s : TR} (hz : SZ G) (hd : 7 ≤ dp) (hB : TpB tp) (hT : Tb I tp n) (hk : Rk (I, Z)) (he : El (I, Z) e) (hek : eok e) (hR : RdC I tp n s.1) (ht : Tk n s.1) (hE : EdV I e s.2) (hZ : RZ s.2) (h1 : s.2 1 = 0) (h : ∀ I' : Nat → Nat → Int, EF e I I' → RdC I' tp n (tRace tp n s).1 → EdV I' e (tRace tp n s).2 → Q (.inl none) (I', Z)) : T G dp 0 0 M4_readRace [rV (some 76), rV (some e)] (I, Z) Q := by
  refine T4_readRace (s4_readRace_0 (by omega) (am_ow hk.1) fun Q' hK => ct_isWord (n := n) (tp := tp) (t := s.1) (j := 1) hz (by omega) (by decide) hB hT hk hR ht (hK _ _ ?_))
  have e2 : (I, Z).1 e 2 = s.2 0 := hE.1.1
  have hc := hZ.1.c
  unfold tRace at h
  by_cases e1 : iW tp n s.1 (sby 1) = true
  · rw [if_pos e1] at h
    rw [e1]
    have w0 := (of_decide_eq_true e1).1
    by_cases e3 : s.2 0 < 3
    · rw [if_pos e3] at h
      refine s4_readRace_6 (by omega) (am_ow he.1) (am_ow hk.1) (fun _ _ Q' hK => ct_pass (I := I) (t := s.1) hB hT hk hR ht w0 fun I1 f1 g1 => hK _ ?_) (fun _ q => absurd e3 (by rw [← e2]; exact q)) (fun q => absurd q (by decide))
      have hT1 : Tb I1 tp n := hT.ef (EF.of f1) hek
      refine s4_readRace_33 (by omega) (am_ow hk.1) fun Q' hK => ct_needNumber (I := I1) (t := tP tp n s.1) (lo := 2) (hi := 4) (room := 100000000) (by omega) (by omega) (by omega) (by omega) hB hT1 hk g1 ht.P fun I2 f2 g2 => hK _ _ ?_
      have f12 : ∀ x, x ≠ 76 → I2 x = I x := fun x hx => (f2 x hx).trans (f1 x hx)
      refine s4_readRace_41 (by omega) fun Q' hK => ct_readWay (I := I2) hz (by omega) hB (hT.ef (EF.of f12) hek) hk g2 ht.P.N fun I3 f3 g3 => hK _ _ ?_
      have f13 : ∀ x, x ≠ 76 → I3 x = I x := fun x hx => (f3 x hx).trans (f12 x hx)
      refine s4_readRace_46 (by omega) (am_ow hk.1) fun Q' hK => ct_needSign (I := I3) (c := 59) (by omega) (by omega) hB (hT.ef (EF.of f13) hek) hk g3 ht.P.N.W fun I4 f4 g4 => hK _ ?_
      have f14 : ∀ x, x ≠ 76 → I4 x = I x := fun x hx => (f4 x hx).trans (f13 x hx)
      have hk3 : rC s.2 < 3 := by omega
      have hct := he.2.2.2 (rC s.2) hk3
      have hek' := hek
      unfold eok at hek'
      have a2 : I4 e 2 = rC s.2 := by rw [f14 e (by omega)]; exact hE.1.1.trans hc.1
      have a3 : ∀ z : Int, (u2 I4 (ec e (rC s.2)) 5 z) e 2 = rC s.2 := fun z => by rw [u2r (by unfold ec; omega)]; exact a2
      have a4 : ∀ z y : Int, (u2 (u2 I4 (ec e (rC s.2)) 5 z) (ec e (rC s.2)) 6 y) e 2 = rC s.2 := fun z y => by rw [u2r (by unfold ec; omega)]; exact a3 z
      refine s4_readRace_53 (p2 := ec e (rC s.2)) (p3 := ec e (rC s.2)) he.2.1.1 (Or.inl rfl) (am_rw he.2.2.1.1) ?_ hct.2.1 ?_ hct.2.1 he.1 ?_ ?_ ?_ ?_ ?_
      · show Z.1 (e + 1) (I4 e 2).toNat = _
        rw [a2, Int.toNat_natCast]; exact hct.1
      · show Z.1 (e + 1) ((u2 I4 (ec e (rC s.2)) 5 _) e 2).toNat = _
        rw [a3, Int.toNat_natCast]; exact hct.1
      · dsimp only
        rw [a4, wr_s (by omega)]
        have f5 : EF e I I4 := EF.of f14
        have hE4 : EdV I4 e s.2 := hE.fr hZ.1 hek.2 f14
        have r0 : tRc2 s.2 (tV tp n (tP tp n s.1) 2 4 100000000) (tWay tp n (tN tp n (tP tp n s.1) 2 4 100000000)).2 0 = s.2 0 + 1 := rs1_at
        have rH : ∀ j, 1 ≤ j → j < 8 → tRc2 s.2 (tV tp n (tP tp n s.1) 2 4 100000000) (tWay tp n (tN tp n (tP tp n s.1) 2 4 100000000)).2 j = s.2 j := fun j a b => by
          unfold tRc2; rw [rs1_ne (by omega), rs1_ne (by omega), rs1_ne (by omega)]
        have rN' : rN (tRc2 s.2 (tV tp n (tP tp n s.1) 2 4 100000000) (tWay tp n (tN tp n (tP tp n s.1) 2 4 100000000)).2) = 0 := by unfold rN; rw [rH 1 (by omega) (by omega), h1]; rfl
        have rC' : rC (tRc2 s.2 (tV tp n (tP tp n s.1) 2 4 100000000) (tWay tp n (tN tp n (tP tp n s.1) 2 4 100000000)).2) = rC s.2 + 1 := by
          have : rC (tRc2 s.2 (tV tp n (tP tp n s.1) 2 4 100000000) (tWay tp n (tN tp n (tP tp n s.1) 2 4 100000000)).2) = (s.2 0 + 1).toNat := by unfold rC; rw [r0]
          rw [this]; omega
        refine h _ (((f5.u (by unfold ec; omega)).u (by unfold ec; omega)).u (by omega)) ?_ ⟨?_, fun r hr => ?_⟩
        · unfold RdC
          rw [u2r (by omega), u2r (by unfold ec; omega), u2r (by unfold ec; omega)]
          exact g4
        · show ElH _ e (tRc2 s.2 _ _)
          unfold ElH
          rw [u2_at, u2n (by omega), u2n (by omega), u2n (by omega), u2r (show e + 2 ≠ e by omega), u2r (show e ≠ ec e (rC s.2) by unfold ec; omega), u2r (show e ≠ ec e (rC s.2) by unfold ec; omega), u2r (show e + 2 ≠ ec e (rC s.2) by unfold ec; omega), u2r (show e + 2 ≠ ec e (rC s.2) by unfold ec; omega), r0, rH 1 (by omega) (by omega), rH 5 (by omega) (by omega), rH 6 (by omega) (by omega), rH 2 (by omega) (by omega), rH 3 (by omega) (by omega), rH 4 (by omega) (by omega)]
          exact ⟨by omega, hE4.1.2⟩
        · have hr : r < rC (tRc2 s.2 (tV tp n (tP tp n s.1) 2 4 100000000) (tWay tp n (tN tp n (tP tp n s.1) 2 4 100000000)).2) := hr
          rw [rC'] at hr
          show CtD _ _ (tRc2 s.2 _ _) r
          unfold CtD
          rw [rN']
          refine ⟨?_, ?_, fun b hb => absurd hb (Nat.not_lt_zero _)⟩
          · rw [u2r (by unfold ec; omega), u2_ne _ (Or.inr (by omega))]
            by_cases z : r = rC s.2
            · subst z
              rw [u2_at]
              unfold tRc2; rw [rs1_ne (by omega), rs1_ne (by omega), rs1_at]
            · rw [u2r (by unfold ec; omega)]
              unfold tRc2; rw [rs1_ne (by omega), rs1_ne (by omega), rs1_ne (by omega)]
              exact (hE4.2 r (by omega)).1
          · rw [u2r (by unfold ec; omega)]
            by_cases z : r = rC s.2
            · subst z
              rw [u2_at]
              unfold rY tRc2; rw [rs1_ne (by omega), rs1_at]
            · rw [u2r (by unfold ec; omega), u2r (by unfold ec; omega)]
              unfold rY tRc2; rw [rs1_ne (by omega), rs1_ne (by omega), rs1_ne (by omega)]
              exact (hE4.2 r (by omega)).2.1
      · show 0 ≤ I4 e 2
        rw [a2]; omega
      · show I4 e 2 < ((3 : Nat) : Int)
        rw [a2]; omega
      · show 0 ≤ (u2 I4 (ec e (rC s.2)) 5 _) e 2
        rw [a3]; omega
      · show (u2 I4 (ec e (rC s.2)) 5 _) e 2 < ((3 : Nat) : Int)
        rw [a3]; omega
    · rw [if_neg e3] at h
      exact s4_readRace_6 (by omega) (am_ow he.1) (am_ow hk.1) (fun _ q => absurd (show s.2 0 < 3 by rw [← e2]; exact q) e3) (fun _ _ Q' hK => ct_fail (I := I) (t := s.1) hk hR fun I1 f1 g1 => hK _ (s4_readRace_28 (h I1 (EF.of f1) g1 (hE.fr hZ.1 hek.2 f1)))) (fun q => absurd q (by decide))
  · rw [if_neg e1] at h
    rw [eq_false_of_ne_true e1]
    exact s4_readRace_6 (by omega) (am_ow he.1) (am_ow hk.1) (fun q => absurd rfl q) (fun q => absurd rfl q) (fun _ Q' hK => ct_fail (I := I) (t := s.1) hk hR fun I1 f1 g1 => hK _ (s4_readRace_14 (h I1 (EF.of f1) g1 (hE.fr hZ.1 hek.2 f1))))
theorem lp_fill {I : Nat → Nat → Int} {n c a b e : Nat} {x y : Nat} {v mm kk : Int} (hc : Ct (I, Z) c) (hb : b ≤ 200) (h : ∀ J : Nat → Nat → Int, (∀ y, y ≠ c + 1 → y ≠ c + 2 → J y = I y) → (∀ j, J (c + 1) j = if a ≤ j ∧ j < b then v else I (c + 1) j) → (∀ j, J (c + 2) j = if a ≤ j ∧ j < b then v else I (c + 2) j) → X G dp x y M4_readBallots 35 [some (rV (some 76)), some (rV (some e)), some (iV mm), some (iV a), some (iV b), some (iV (wr (kk + 1))), some (rV (some c)), some (iV v), some (iV b)] [] (J, Z) Q) : ∀ (u q : Nat) (J : Nat → Nat → Int), b - q = u → a ≤ q → q ≤ b → (∀ y, y ≠ c + 1 → y ≠ c + 2 → J y = I y) → (∀ j, J (c + 1) j = if a ≤ j ∧ j < q then v else I (c + 1) j) → (∀ j, J (c + 2) j = if a ≤ j ∧ j < q then v else I (c + 2) j) → X G dp x y M4_readBallots 70 [some (rV (some 76)), some (rV (some e)), some (iV mm), some (iV a), some (iV b), some (iV kk), some (rV (some c)), some (iV v), some (iV q)] [] (J, Z) Q := by
  intro u
  induction u with
  | zero =>
    intro q J hu h1 h2 f g1 g2
    have qb : q = b := by omega
    subst qb
    exact s4_readBallots_70 (am_ow hc.1) hc.2.1.1 hc.2.2.1 hc.2.1.2.1 hc.2.2.2.1 (fun _ => h J f g1 g2) (fun z => absurd (Int.le_refl _) z) (fun z => absurd (Int.le_refl _) z) (fun z => absurd (Int.le_refl _) z) (fun z => absurd (Int.le_refl _) z)
  | succ u ih =>
    intro q J hu h1 h2 f g1 g2
    refine s4_readBallots_70 (am_ow hc.1) hc.2.1.1 hc.2.2.1 hc.2.1.2.1 hc.2.2.2.1 (fun z => absurd z (by omega)) (fun _ => ?_) (fun _ => by omega) (fun _ => by omega) (fun _ => by omega)
    rw [wr_s (by omega), Int.toNat_natCast]
    refine ih (q + 1) _ (by omega) (by omega) (by omega) (fun y a1 a2 => by dsimp only; rw [u2r a2, u2r a1]; exact f y a1 a2) (fun j => ?_) (fun j => ?_)
    · dsimp only
      rw [u2r (by omega)]
      by_cases z : j = q
      · subst z; rw [u2_at, if_pos (by omega)]
      · rw [u2n z, g1 j]
        by_cases z2 : a ≤ j ∧ j < q
        · rw [if_pos z2, if_pos (by omega)]
        · rw [if_neg z2, if_neg (by omega)]
    · dsimp only
      by_cases z : j = q
      · subst z; rw [u2_at, if_pos (by omega)]
      · rw [u2n z, u2r (by omega), g2 j]
        by_cases z2 : a ≤ j ∧ j < q
        · rw [if_pos z2, if_pos (by omega)]
        · rw [if_neg z2, if_neg (by omega)]
/-- some races of a line of ballots laid -/
def BrV (I : Nat → Nat → Int) (e a b k : Nat) (R R' : Nat → Int) : Prop := ElH I e R ∧ ∀ r, r < rC R → I (ec e r) 5 = R (8 + 2 * r) ∧ I (ec e r) 6 = rY R r ∧ ∀ x, x < (if r < k then b else a) → I (ec e r + 1) x = R' (14 + 3 * x + r) ∧ I (ec e r + 2) x = R' (614 + 3 * x + r)
theorem BrV.fr {I I' : Nat → Nat → Int} {e a b k : Nat} {R R' : Nat → Int} (h : BrV I e a b k R R') (hR : RV R) (he : e + 21 ≤ 76) (f : ∀ x, x ≠ 76 → I' x = I x) : BrV I' e a b k R R' := by
  have hc := hR.c
  refine ⟨h.1.same (f e (by omega)) (f (e + 2) (by omega)), fun r hr => ?_⟩
  rw [f (ec e r) (by unfold ec; omega), f (ec e r + 1) (by unfold ec; omega), f (ec e r + 2) (by unfold ec; omega)]
  exact h.2 r hr
theorem lp_races {I0 : Nat → Nat → Int} {tp : Nat → Int} {n e a b : Nat} {s : TR} {mm : Int} (hz : SZ G) (hd : 7 ≤ dp) (hB : TpB tp) (hT : Tb I0 tp n) (hk : Rk (I0, Z)) (he : El (I0, Z) e) (hek : eok e) (hR : RV s.2) (ht : Tk n s.1) (hb : b ≤ 200) (hab : a ≤ b) (h : ∀ I' : Nat → Nat → Int, EF e I0 I' → RdC I' tp n (tBr tp n a b s (rC s.2)).1 → BrV I' e a b (rC s.2) s.2 (tBr tp n a b s (rC s.2)).2 → Q (.inl none) (u2 I' e 3 b, Z)) : ∀ (u k : Nat) (I : Nat → Nat → Int) (o6 o7 o8 : Option am_V), rC s.2 - k = u → k ≤ rC s.2 → EF e I0 I → RdC I tp n (tBr tp n a b s k).1 → BrV I e a b k s.2 (tBr tp n a b s k).2 → X G dp 0 0 M4_readBallots 35 [some (rV (some 76)), some (rV (some e)), some (iV mm), some (iV a), some (iV b), some (iV k), o6, o7, o8] [] (I, Z) Q := by
  have hc := hR.c
  intro u
  induction u with
  | zero =>
    intro k I o6 o7 o8 hu hk9 f g1 g2
    have kc : k = rC s.2 := by omega
    subst kc
    have e2 : (I, Z).1 e 2 = s.2 0 := g2.1.1
    exact s4_readBallots_35 (p2 := 0) (by omega) he.1 he.2.1.1 (Or.inl rfl) (am_rw he.2.2.1.1) (fun z => absurd (show (I, Z).1 e 2 ≤ (rC s.2 : Int) by omega) z) (fun _ => h I f g1 g2) (fun z => absurd (show (I, Z).1 e 2 ≤ (rC s.2 : Int) by omega) z) (fun z => absurd (show (I, Z).1 e 2 ≤ (rC s.2 : Int) by omega) z) (fun z => absurd (show (I, Z).1 e 2 ≤ (rC s.2 : Int) by omega) z) (fun z => absurd (show (I, Z).1 e 2 ≤ (rC s.2 : Int) by omega) z)
  | succ u ih =>
    intro k I o6 o7 o8 hu hk9 f g1 g2
    have hk3 : k < rC s.2 := by omega
    have e2 : (I, Z).1 e 2 = s.2 0 := g2.1.1
    have hct := he.2.2.2 k (by omega)
    have hK := hR.k hk3
    have hok := tBr_ok (tp := tp) (n := n) (a := a) (b := b) ht hR k hk9
    have hek' := hek
    unfold eok at hek'
    refine s4_readBallots_35 (p2 := ec e k) (by omega) he.1 he.2.1.1 (Or.inl rfl) (am_rw he.2.2.1.1) (fun _ _ => by rw [Int.toNat_natCast]; exact hct.1) (fun z => absurd z (by omega)) (fun _ z => absurd z (by omega)) (fun _ _ Q' hK' => ?_) (fun _ _ => by omega) (fun _ _ => by omega)
    refine ct_readChoice (I := I) (t := (tBr tp n a b s k).1) (K := s.2 (8 + 2 * k)) hz (by omega) hB (hT.ef f hek) hk (am_ow hct.2.1) (by unfold ec; omega) (g2.2 k hk3).1 (by omega) g1 hok.1 fun I1 f1 g3 => hK' _ _ ?_
    have b1 : BrV I1 e a b k s.2 (tBr tp n a b s k).2 := g2.fr hR hek.2 f1
    refine s4_readBallots_65 ?_
    refine lp_fill (I := I1) (n := n) (e := e) (c := ec e k) (a := a) (b := b) hct.2 hb (fun J j1 j2 j3 => ?_) (b - a) a I1 rfl (Nat.le_refl _) hab (fun _ _ _ => rfl) (fun j => by rw [if_neg (by omega)]) (fun j => by rw [if_neg (by omega)])
    rw [wr_s (by omega)]
    refine ih (k + 1) J _ _ _ (by omega) (by omega) (fun x a1 a2 => ?_) ?_ ?_
    · rw [j1 x (by unfold ec; omega) (by unfold ec; omega), f1 x a1]; exact f x a1 a2
    · show RdC J tp n (tCh tp n (tBr tp n a b s k).1 (s.2 (8 + 2 * k))).1
      unfold RdC
      rw [j1 76 (by unfold ec; omega) (by unfold ec; omega)]
      exact g3
    · refine ⟨b1.1.same (j1 e (by unfold ec; omega) (by unfold ec; omega)) (j1 (e + 2) (by unfold ec; omega) (by unfold ec; omega)), fun r hr => ?_⟩
      have q := b1.2 r hr
      rw [j1 (ec e r) (by unfold ec; omega) (by unfold ec; omega)]
      refine ⟨q.1, q.2.1, fun x hx => ?_⟩
      have hx2 : x < 200 := by
        by_cases z : r < k + 1
        · rw [if_pos z] at hx; omega
        · rw [if_neg z] at hx; omega
      have e1 : (tBr tp n a b s (k + 1)).2 (14 + 3 * x + r) = if r = k ∧ a ≤ x ∧ x < b then (tCh tp n (tBr tp n a b s k).1 (s.2 (8 + 2 * k))).2 else (tBr tp n a b s k).2 (14 + 3 * x + r) := fil_V (by omega) hx2
      have e3 : (tBr tp n a b s (k + 1)).2 (614 + 3 * x + r) = if r = k ∧ a ≤ x ∧ x < b then (tCh tp n (tBr tp n a b s k).1 (s.2 (8 + 2 * k))).2 else (tBr tp n a b s k).2 (614 + 3 * x + r) := fil_P (by omega) hx2
      rw [e1, e3]
      by_cases z : r = k
      · subst z
        rw [if_pos (by omega)] at hx
        rw [j2 x, j3 x]
        by_cases z2 : a ≤ x ∧ x < b
        · rw [if_pos z2, if_pos z2, if_pos ⟨rfl, z2⟩, if_pos ⟨rfl, z2⟩]
          exact ⟨rfl, rfl⟩
        · rw [if_neg z2, if_neg z2, if_neg (fun y => z2 y.2), if_neg (fun y => z2 y.2)]
          exact q.2.2 x (by rw [if_neg (by omega)]; omega)
      · rw [if_neg (fun y => z y.1), if_neg (fun y => z y.1), j1 (ec e r + 1) (by unfold ec; omega) (by unfold ec; omega), j1 (ec e r + 2) (by unfold ec; omega) (by unfold ec; omega)]
        refine q.2.2 x ?_
        by_cases z2 : r < k
        · rw [if_pos z2]; rw [if_pos (by omega)] at hx; exact hx
        · rw [if_neg z2]; rw [if_neg (by omega)] at hx; exact hx
theorem ct_readBallots {I : Nat → Nat → Int} {tp : Nat → Int} {n e : Nat} {s : TR} (hz : SZ G) (hd : 7 ≤ dp) (hB : TpB tp) (hT : Tb I tp n) (hk : Rk (I, Z)) (he : El (I, Z) e) (hek : eok e) (hR : RdC I tp n s.1) (ht : Tk n s.1) (hE : EdV I e s.2) (hZ : RZ s.2) (h : ∀ I' : Nat → Nat → Int, EF e I I' → RdC I' tp n (tBal tp n s).1 → EdV I' e (tBal tp n s).2 → Q (.inl none) (I', Z)) : T G dp 0 0 M4_readBallots [rV (some 76), rV (some e)] (I, Z) Q := by
  have e3 : (I, Z).1 e 3 = s.2 1 := hE.1.2.1
  have hn := hZ.1.n
  have hc := hZ.1.c
  have hto := tTo_in (tp := tp) (n := n) hZ.1
  have hek' := hek
  unfold eok at hek'
  have htv := tV_in (tp := tp) (n := n) (t := s.1) (lo := 1) (hi := 99) (room := 200 - s.2 1) (by decide)
  refine T4_readBallots (s4_readBallots_0 (by omega) (am_ow he.1) (am_ow hk.1) fun Q' hK => ?_)
  rw [e3, wr_of (by omega) (by omega)]
  refine ct_needNumber (I := I) (t := s.1) (lo := 1) (hi := 99) (room := 200 - s.2 1) (by omega) (by omega) (by omega) (by omega) hB hT hk hR ht fun I1 f1 g1 => hK _ _ ?_
  have a3 : (I1, Z).1 e 3 = rN s.2 := by show I1 e 3 = _; rw [f1 e (by omega)]; exact e3.trans hn.1
  refine s4_readBallots_15 (am_ow he.1) ?_
  rw [a3, show min (wr ((rN s.2 : Int) + tV tp n s.1 1 99 (200 - s.2 1))) 200 = ((tTo tp n s : Nat) : Int) by rw [wr_of (by omega) (by omega)]; omega]
  have hok := tBr_ok (tp := tp) (n := n) (a := rN s.2) (b := tTo tp n s) (s := (tN tp n s.1 1 99 (200 - s.2 1), s.2)) ht.N hZ.1 (rC s.2) (Nat.le_refl _)
  refine lp_races (I0 := I) (tp := tp) (n := n) (s := (tN tp n s.1 1 99 (200 - s.2 1), s.2)) hz hd hB hT hk he hek hZ.1 ht.N hto.2.1 hto.1 (fun I2 f2 g2 b2 => ?_) (rC s.2) 0 I1 _ _ _ rfl (Nat.zero_le _) (EF.of f1) g1 ?_
  · refine h _ (f2.u (by omega)) ?_ ⟨?_, fun r hr => ?_⟩
    · unfold RdC
      rw [u2r (by omega)]
      exact g2
    · show ElH _ e (rs1 _ 1 _)
      obtain ⟨b0, b1⟩ := b2
      unfold ElH at b0 ⊢
      rw [u2n (by omega), u2_at, u2n (by omega), u2n (by omega), u2r (by omega), rs1_ne (by omega), rs1_at, rs1_ne (by omega), rs1_ne (by omega), rs1_ne (by omega), rs1_ne (by omega), rs1_ne (by omega), hok.2.1 0 (by omega), hok.2.1 5 (by omega), hok.2.1 6 (by omega), hok.2.1 2 (by omega), hok.2.1 3 (by omega), hok.2.1 4 (by omega)]
      exact ⟨b0.1, rfl, b0.2.2⟩
    · have hC : rC (tBal tp n s).2 = rC s.2 := by
        have q0 : (tBal tp n s).2 0 = s.2 0 := by
          unfold tBal
          dsimp only
          rw [rs1_ne (by omega)]; exact hok.2.1 0 (by omega)
        unfold rC
        rw [q0]
      have hN : rN (tBal tp n s).2 = tTo tp n s := by
        have q0 : (tBal tp n s).2 1 = tTo tp n s := by
          unfold tBal
          dsimp only
          rw [rs1_at]
        unfold rN
        rw [q0]
        omega
      rw [hC] at hr
      have q := b2.2 r hr
      unfold CtD
      rw [hN, u2r (by unfold ec; omega), u2r (by unfold ec; omega), u2r (by unfold ec; omega)]
      refine ⟨?_, ?_, fun x hx => ?_⟩
      · show _ = rs1 _ 1 _ (8 + 2 * r)
        rw [rs1_ne (by omega), hok.2.1 _ (by omega)]; exact q.1
      · show _ = rs1 _ 1 _ (8 + 2 * r + 1)
        rw [rs1_ne (by omega), hok.2.1 _ (by omega)]; exact q.2.1
      · have q2 := q.2.2 x (by rw [if_pos hr]; exact hx)
        show _ = rs1 _ 1 _ (14 + 3 * x + r) ∧ _ = rs1 _ 1 _ (614 + 3 * x + r)
        rw [rs1_ne (by omega), rs1_ne (by omega)]
        exact q2
  · have hE1 := hE.fr hZ.1 hek.2 f1
    refine ⟨hE1.1, fun r hr => ⟨(hE1.2 r hr).1, (hE1.2 r hr).2.1, fun x hx => ?_⟩⟩
    rw [if_neg (Nat.not_lt_zero _)] at hx
    exact (hE1.2 r hr).2.2 x hx
end
