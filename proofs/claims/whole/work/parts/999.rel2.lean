/-! THE REFERENCE reads an election's text: lines -/
theorem tN_H2 {tp : Nat → Int} {n : Nat} {t : TS} {lo hi room : Int} : tN tp n t lo hi room = tP tp n (if (tH tp n t lo hi).2.1 = 0 ∧ room < nv tp n t.1 then tF (tH tp n t lo hi) 3 else tH tp n t lo hi) := by
  unfold tN tH
  by_cases e : iN tp n t = true
  · rw [if_pos e, if_pos e]
    have w := (of_decide_eq_true e).1
    by_cases e2 : nv tp n t.1 < lo ∨ hi < nv tp n t.1
    · rw [if_pos e2, if_pos e2, if_neg (fun z => tF_w (by decide) z.1), tP_no (tF_w (by decide))]
    · rw [if_neg e2, if_neg e2]
      by_cases e3 : room < nv tp n t.1
      · rw [if_pos e3, if_pos ⟨w, e3⟩, tP_no (tF_w (by decide))]
      · rw [if_neg e3, if_neg (fun z => e3 z.2)]
  · rw [if_neg e, if_neg e, if_neg (fun z => tF_w (by decide) z.1), tP_no (tF_w (by decide))]
theorem fil_s {R : Nat → Int} {k a x j : Nat} {v : Int} (hk : k < 3) (hx : x < 200) (ha : a ≤ x) : fil R k a (x + 1) v j = if j = 614 + 3 * x + k then v else if j = 14 + 3 * x + k then v else fil R k a x v j := by
  by_cases z1 : j = 614 + 3 * x + k
  · rw [if_pos z1]
    unfold fil
    rw [if_pos (by omega)]
  · rw [if_neg z1]
    by_cases z2 : j = 14 + 3 * x + k
    · rw [if_pos z2]
      unfold fil
      rw [if_pos (by omega)]
    · rw [if_neg z2]
      unfold fil
      by_cases c : (14 ≤ j ∧ j < 614 ∧ (j - 14) % 3 = k ∧ a ≤ (j - 14) / 3 ∧ (j - 14) / 3 < x) ∨ (614 ≤ j ∧ j < 1214 ∧ (j - 614) % 3 = k ∧ a ≤ (j - 614) / 3 ∧ (j - 614) / 3 < x)
      · rw [if_pos c, if_pos (by omega)]
      · rw [if_neg c, if_neg (by omega)]
theorem fil_0 {R : Nat → Int} {k a j : Nat} {v : Int} : fil R k a a v j = R j := by
  unfold fil
  rw [if_neg (by omega)]
theorem ixq {o b r : Nat} (ho : o ≤ 1000) (hb : b ≤ 1000) (hr : r ≤ 1000) : wr (wr ((o : Int) + wr (3 * (b : Int))) + (r : Int)) = ((o + 3 * b + r : Nat) : Int) := by
  rw [wr_of (z := 3 * (b : Int)) (by omega) (by omega), wr_of (z := (o : Int) + 3 * (b : Int)) (by omega) (by omega), wr_of (by omega) (by omega)]
  omega
section
variable {G : am_G} {dp : Nat} {Q : am_Q} {Z : (Nat → Nat → Option Nat) × (Nat → Nat × Nat) × Nat × Bool}
theorem lp_rfl {I1 : Nat → Nat → Int} {k a b : Nat} {x y : Nat} {v c : Int} {R : Nat → Int} (hd : 1 ≤ dp) (hM : Md (I1, Z)) (hk : k < 3) (hb : b ≤ 200) (h1 : R 1 = a) (hv : wr ((a : Int) + v) = b) (hw : I1 103 30 = 0) (h : ∀ J : Nat → Nat → Int, (∀ y, y ≠ 105 → J y = I1 y) → (∀ j, j < 1514 → J 105 j = fil R k a b c j) → X G dp x y M9_readBallots 44 [some (rV (some 103)), some (iV v), some (iV (wr ((k : Int) + 1))), some (iV c), some (iV b)] [] (J, Z) Q) : ∀ (u q : Nat) (J : Nat → Nat → Int), b - q = u → a ≤ q → q ≤ b → (∀ y, y ≠ 105 → J y = I1 y) → (∀ j, j < 1514 → J 105 j = fil R k a q c j) → X G dp x y M9_readBallots 68 [some (rV (some 103)), some (iV v), some (iV k), some (iV c), some (iV q)] [] (J, Z) Q := by
  intro u
  induction u with
  | zero =>
    intro q J hu ha hq f g
    have qb : q = b := by omega
    subst qb
    have e1 : (J, Z).1 105 ((1 : Int)).toNat = a := by show J 105 1 = _; rw [g 1 (by omega), fil_lo (by omega)]; exact h1
    refine s9_readBallots_68 hd (am_ow hM.1) hM.read.1 (am_rw hM.read.2) (fun _ => h J f g) (fun z => absurd (show wr ((J, Z).1 105 ((1 : Int)).toNat + v) ≤ (q : Int) by rw [e1, hv]; exact Int.le_refl _) z) (fun z => absurd (show wr ((J, Z).1 105 ((1 : Int)).toNat + v) ≤ (q : Int) by rw [e1, hv]; exact Int.le_refl _) z) (by omega)
  | succ u ih =>
    intro q J hu ha hq f g
    have e1 : (J, Z).1 105 ((1 : Int)).toNat = a := by show J 105 1 = _; rw [g 1 (by omega), fil_lo (by omega)]; exact h1
    refine s9_readBallots_68 hd (am_ow hM.1) hM.read.1 (am_rw hM.read.2) (fun z => absurd z (by rw [e1, hv]; omega)) (fun _ z => absurd (show J 103 30 = 0 by rw [f 103 (by omega)]; exact hw) z) (fun _ _ Q' hK => T9_at (s9_at_0 (hK _ _ ?_))) (by omega)
    rw [show (14 : Int) = ((14 : Nat) : Int) from rfl, ixq (by omega) (by omega) (by omega)]
    refine s9_readBallots_100 hd hM.read.2 (am_ow hM.1) hM.read.1 (fun Q' hK => T9_at (s9_at_0 (hK _ _ ?_))) (by omega) (by omega)
    rw [show (614 : Int) = ((614 : Nat) : Int) from rfl, ixq (by omega) (by omega) (by omega)]
    refine s9_readBallots_115 hM.read.2 ?_ (by omega) (by omega)
    rw [wr_s (by omega), Int.toNat_natCast, Int.toNat_natCast]
    refine ih (q + 1) _ (by omega) (by omega) (by omega) (fun y hy => by dsimp only; rw [u2r hy, u2r hy]; exact f y hy) (fun j hj => ?_)
    dsimp only
    rw [fil_s hk (by omega) ha]
    by_cases z1 : j = 614 + 3 * q + k
    · rw [if_pos z1, z1, u2_at]
    · rw [if_neg z1, u2n z1]
      by_cases z2 : j = 14 + 3 * q + k
      · rw [if_pos z2, z2, u2_at]
      · rw [if_neg z2, u2n z2]; exact g j hj
theorem lp_rbr {I0 : Nat → Nat → Int} {tp : Nat → Int} {n a b : Nat} {s : TR} {v : Int} {S : Nat → Int} (hz : SZ G) (hd : 6 ≤ dp) (hB : TpB tp) (hT : TbM I0 tp n) (hM : Md (I0, Z)) (hR : RV s.2) (ht : Tk n s.1) (h1 : s.2 1 = a) (hb : b ≤ 200) (hab : a ≤ b) (hv0 : 0 ≤ v ∧ v ≤ 10000000) (hv : s.1.2.1 = 0 → (a : Int) + v = b) (hS : S = rs1 (tBr tp n a b s (rC s.2)).2 1 b) (h : ∀ I' : Nat → Nat → Int, RFm I0 I' → RdM I' tp n (tS tp n (tBr tp n a b s (rC s.2)).1 59) → ((tS tp n (tBr tp n a b s (rC s.2)).1 59).2.1 = 0 → RwB I' S) → Q (.inl none) (I', Z)) : ∀ (u k : Nat) (I : Nat → Nat → Int) (o3 o4 : Option am_V), rC s.2 - k = u → k ≤ rC s.2 → RFm I0 I → RdM I tp n (tBr tp n a b s k).1 → (∀ j, j < 14 → I 105 j = s.2 j) → ((tBr tp n a b s k).1.2.1 = 0 → RwB I (tBr tp n a b s k).2) → X G dp 0 0 M9_readBallots 44 [some (rV (some 103)), some (iV v), some (iV k), o3, o4] [] (I, Z) Q := by
  have hc := hR.c
  intro u
  induction u with
  | zero =>
    intro k I o3 o4 hu hk9 f g1 gh gr
    have kc : k = rC s.2 := by omega
    subst kc
    have e0 : (I, Z).1 105 ((0 : Int)).toNat = rC s.2 := by show I 105 0 = _; rw [gh 0 (by omega)]; exact hc.1
    have hok := tBr_ok (tp := tp) (n := n) (a := a) (b := b) ht hR (rC s.2) (Nat.le_refl _)
    refine s9_readBallots_44 (by omega) (am_ow hM.1) hM.read.1 (am_rw hM.read.2) (fun _ Q' hK => ?_) (fun z => absurd (show (I, Z).1 105 ((0 : Int)).toNat ≤ (rC s.2 : Int) by rw [e0]; exact Int.le_refl _) z) (by omega)
    refine r_must (I := I) (t := (tBr tp n a b s (rC s.2)).1) (c := 59) (by omega) hB (hT.rm f) hM g1 hok.1 fun I1 f1 g2 => hK _ ?_
    have e1 : (I1, Z).1 105 ((1 : Int)).toNat = a := by show I1 105 1 = _; rw [f1.1 105 (by omega), gh 1 (by omega)]; exact h1
    refine s9_readBallots_135 (am_ow hM.1) hM.read.1 hM.read.2 (fun q => ?_) (fun q => ?_) (by omega)
    · exact h _ (f.tr f1.rm).u g2.u fun z => absurd (g2.2.2.2.2.2.1.trans z) q
    · refine h _ (f.tr f1.rm).u g2.u fun z => ?_
      have w1 := tS_v z
      have w0 : s.1.2.1 = 0 := Decidable.byContradiction fun y => y (by have := tBr_no (tp := tp) (n := n) (a := a) (b := b) y (rC s.2); rw [this] at w1; exact w1.1)
      have hv := hv w0
      rw [hS]
      intro j hj
      dsimp only at e1 ⊢
      rw [e1, wr_of (by omega) (by omega), hv]
      by_cases j1 : j = 1
      · subst j1
        rw [rs1_at]
        exact u2_at
      · rw [rs1_ne j1, u2n (show j ≠ ((1 : Int)).toNat from j1), f1.1 105 (by omega)]
        exact gr w1.1 j hj
  | succ u ih =>
    intro k I o3 o4 hu hk9 f g1 gh gr
    have hk3 : k < rC s.2 := by omega
    have hK := hR.k hk3
    have e0 : (I, Z).1 105 ((0 : Int)).toNat = rC s.2 := by show I 105 0 = _; rw [gh 0 (by omega)]; exact hc.1
    have hok := tBr_ok (tp := tp) (n := n) (a := a) (b := b) ht hR k hk9
    refine s9_readBallots_44 (by omega) (am_ow hM.1) hM.read.1 (am_rw hM.read.2) (fun z => absurd z (by rw [e0]; omega)) (fun _ Q' hK' => ?_) (by omega)
    refine r_choice (I := I) (t := (tBr tp n a b s k).1) (K := s.2 (8 + 2 * k)) hz (by omega) hB (hT.rm f) hM (by omega) (gh _ (by omega)) (by omega) g1 hok.1 fun I1 c f1 g2 hcv => hK' _ _ ?_
    have e1 : (I1, Z).1 105 ((1 : Int)).toNat = a := by show I1 105 1 = _; rw [f1.1 105 (by omega), gh 1 (by omega)]; exact h1
    refine s9_readBallots_59 (am_ow hM.1) hM.read.1 (am_rw hM.read.2) ?_ (by omega)
    rw [e1]
    have f01 := f.tr f1.rm
    have g2 : RdM I1 tp n (tBr tp n a b s (k + 1)).1 := g2
    have hcv : (tBr tp n a b s (k + 1)).1.2.1 = 0 → c = (tCh tp n (tBr tp n a b s k).1 (s.2 (8 + 2 * k))).2 := hcv
    have gh1 : ∀ j, j < 14 → I1 105 j = s.2 j := fun j hj => by rw [f1.1 105 (by omega)]; exact gh j hj
    by_cases w : (tBr tp n a b s (k + 1)).1.2.1 = 0
    · have w0 : s.1.2.1 = 0 := Decidable.byContradiction fun y => y (by rw [tBr_no (tp := tp) (n := n) (a := a) (b := b) y (k + 1)] at w; exact w)
      have hv := hv w0
      have wk : (tBr tp n a b s k).1.2.1 = 0 := tCh_w w
      have gr := gr wk
      have hcv := hcv w
      refine lp_rfl (I1 := I1) (R := (tBr tp n a b s k).2) (k := k) (a := a) (b := b) (by omega) hM (by omega) hb ?_ (by rw [wr_of (by omega) (by omega)]; exact hv) (g2.2.2.2.2.2.1.trans w) (fun J j1 j2 => ?_) (b - a) a I1 rfl (Nat.le_refl _) hab (fun _ _ => rfl) (fun j hj => by rw [fil_0, f1.1 105 (by omega)]; exact gr j hj)
      · rw [hok.2.1 1 (by omega)]; exact h1
      · rw [wr_s (by omega)]
        refine ih (k + 1) J _ _ (by omega) (by omega) ⟨fun x a1 a2 => by rw [j1 x a2]; exact f01.1 x a1 a2, fun x a1 => by rw [j1 103 (by omega)]; exact f01.2 x a1⟩ ?_ (fun j hj => ?_) (fun _ j hj => ?_)
        · unfold RdM; rw [j1 103 (by omega)]; exact g2
        · rw [j2 j (by omega), fil_lo hj]; exact hok.2.1 j hj
        · rw [j2 j hj, hcv]; rfl
    · have e30 : ¬ (I1, Z).1 103 30 = 0 := fun z => w (g2.2.2.2.2.2.1.symm.trans z)
      have nxt9 : X G dp 0 0 M9_readBallots 44 [some (rV (some 103)), some (iV v), some (iV (wr ((k : Int) + 1))), some (iV c), some (iV a)] [] (I1, Z) Q := by
        rw [wr_s (by omega)]
        exact ih (k + 1) I1 _ _ (by omega) (by omega) f01 g2 gh1 (fun z => absurd z w)
      exact s9_readBallots_68 (by omega) (am_ow hM.1) hM.read.1 (am_rw hM.read.2) (fun _ => nxt9) (fun _ _ => nxt9) (fun _ z => absurd z e30) (by omega)
theorem r_readBallots {I : Nat → Nat → Int} {tp : Nat → Int} {n : Nat} {s : TR} (hz : SZ G) (hd : 6 ≤ dp) (hB : TpB tp) (hT : TbM I tp n) (hM : Md (I, Z)) (hR : RdM I tp n s.1) (ht : Tk n s.1) (hv : RwB I s.2) (hZ : RZ s.2) (h : ∀ I' : Nat → Nat → Int, RFm I I' → RdM I' tp n (tS tp n (tBal tp n (tP tp n s.1, s.2)).1 59) → ((tS tp n (tBal tp n (tP tp n s.1, s.2)).1 59).2.1 = 0 → RwB I' (tBal tp n (tP tp n s.1, s.2)).2) → Q (.inl none) (I', Z)) : T G dp 0 0 M9_readBallots [rV (some 103)] (I, Z) Q := by
  have hc := hZ.1.c
  have hn := hZ.1.n
  have hto := tTo_in (tp := tp) (n := n) (s := (tP tp n s.1, s.2)) hZ.1
  refine T9_readBallots (s9_readBallots_0 (by omega) (am_ow hM.1) fun Q' hK => r_pass (I := I) (t := s.1) (by omega) hB hT hM hR ht fun I1 f1 g1 => hK _ ?_)
  refine s9_readBallots_4 (by omega) (am_ow hM.1) fun Q' hK => r_numberHere (I := I1) (t := tP tp n s.1) (lo := 1) (hi := 99) (by omega) (by omega) (by omega) (hT.nf f1) hM g1 ht.P fun I2 v f2 g2 hv0 hve => hK _ _ ?_
  have f12 := f1.tr f2
  have e1 : (I2, Z).1 105 ((1 : Int)).toNat = rN s.2 := by show I2 105 1 = _; rw [f12.1 105 (by omega), hv 1 (by omega)]; exact hn.1
  have go : ∀ (I3 : Nat → Nat → Int) (t3 : TS), NF I I3 → RdM I3 tp n t3 → Tk n t3 → tP tp n t3 = tN tp n (tP tp n s.1) 1 99 (200 - s.2 1) → ((tN tp n (tP tp n s.1) 1 99 (200 - s.2 1)).2.1 = 0 → v = nv tp n (tP tp n s.1).1) → X G dp 0 0 M9_readBallots 38 [some (rV (some 103)), some (iV v), none, none, none] [] (I3, Z) Q := by
    intro I3 t3 f3 g3 k3 e3 hv3
    refine s9_readBallots_38 (by omega) (am_ow hM.1) fun Q' hK => r_pass (I := I3) (t := t3) (by omega) hB (hT.nf f3) hM g3 k3 fun I4 f4 g4 => hK _ (s9_readBallots_42 ?_)
    rw [e3] at g4
    have f34 := f3.tr f4
    refine lp_rbr (I0 := I) (tp := tp) (n := n) (a := rN s.2) (b := tTo tp n (tP tp n s.1, s.2)) (s := (tN tp n (tP tp n s.1) 1 99 (200 - s.2 1), s.2)) (S := (tBal tp n (tP tp n s.1, s.2)).2) hz hd hB hT hM hZ.1 ht.P.N hn.1 hto.2.1 hto.1 hv0 (fun w => ?_) rfl h (rC s.2) 0 I4 _ _ rfl (Nat.zero_le _) f34.rm g4 (fun j hj => by rw [f34.1 105 (by omega)]; exact hv j (by omega)) (fun _ j hj => by rw [f34.1 105 (by omega)]; exact hv j hj)
    have q := tN_v w
    rw [hv3 w, hto.2.2]
    show _ = min (s.2 1 + tV tp n (tP tp n s.1) 1 99 (200 - s.2 1)) 200
    rw [q.2.2.2.2.2.1]
    omega
  by_cases w : (tH tp n (tP tp n s.1) 1 99).2.1 = 0
  · have e30 : (I2, Z).1 103 30 = 0 := g2.2.2.2.2.2.1.trans w
    have hve := hve w
    have hq := tH_v w
    by_cases z : 200 - s.2 1 < nv tp n (tP tp n s.1).1
    · refine s9_readBallots_11 (by omega) (am_ow hM.1) hM.read.1 (am_rw hM.read.2) (fun q => absurd e30 q) (fun _ q => absurd q (by rw [e1, hve, wr_of (by omega) (by omega)]; omega)) (fun _ _ Q' hK => r_wrong (I := I2) (t := tH tp n (tP tp n s.1) 1 99) hM g2 fun I3 f3 g3 => hK _ (go I3 _ (f12.tr f3) g3 (ht.P.H.F ⟨by decide, by decide⟩) ?_ (fun _ => hve))) (fun _ => by omega)
      rw [tN_H2, if_pos ⟨w, z⟩]
    · refine s9_readBallots_11 (by omega) (am_ow hM.1) hM.read.1 (am_rw hM.read.2) (fun q => absurd e30 q) (fun _ _ => go I2 _ f12 g2 ht.P.H ?_ (fun _ => hve)) (fun _ q => absurd (by rw [e1, hve, wr_of (by omega) (by omega)]; omega) q) (fun _ => by omega)
      rw [tN_H2, if_neg (fun y => z y.2)]
  · have e30 : ¬ (I2, Z).1 103 30 = 0 := fun y => w (g2.2.2.2.2.2.1.symm.trans y)
    have ee : tP tp n (tH tp n (tP tp n s.1) 1 99) = tN tp n (tP tp n s.1) 1 99 (200 - s.2 1) := by rw [tN_H2, if_neg (fun y => w y.1)]
    refine s9_readBallots_11 (by omega) (am_ow hM.1) hM.read.1 (am_rw hM.read.2) (fun _ => go I2 _ f12 g2 ht.P.H ee (fun y => ?_)) (fun q => absurd q e30) (fun q => absurd q e30) (fun _ => by omega)
    rw [← ee, tP_no w] at y
    exact absurd y w
theorem r_readPaper {I : Nat → Nat → Int} {tp : Nat → Int} {n : Nat} {s : TR} (hz : SZ G) (hd : 6 ≤ dp) (hB : TpB tp) (hT : TbM I tp n) (hM : Md (I, Z)) (hR : RdM I tp n s.1) (ht : Tk n s.1) (hv : RwB I s.2) (hZ : RZ s.2) (h : ∀ I' : Nat → Nat → Int, RFm I I' → RdM I' tp n (tS tp n (tPap tp n (tP tp n s.1, s.2)).1 59) → ((tS tp n (tPap tp n (tP tp n s.1, s.2)).1 59).2.1 = 0 → RwB I' (tPap tp n (tP tp n s.1, s.2)).2) → Q (.inl none) (I', Z)) : T G dp 0 0 M9_readPaper [rV (some 103)] (I, Z) Q := by
  have hc := hZ.1.c
  have hn := hZ.1.n
  refine T9_readPaper (s9_readPaper_0 (by omega) (am_ow hM.1) fun Q' hK => r_pass (I := I) (t := s.1) (by omega) hB hT hM hR ht fun I1 f1 g1 => hK _ ?_)
  refine s9_readPaper_4 (by omega) (am_ow hM.1) hM.read.1 (am_rw hM.read.2) (fun Q' hK => ?_) (by omega)
  have e1 : (I1, Z).1 105 ((1 : Int)).toNat = s.2 1 := by show I1 105 1 = _; rw [f1.1 105 (by omega)]; exact hv 1 (by omega)
  rw [e1, wr_of (by omega) (by omega)]
  refine r_number (I := I1) (t := tP tp n s.1) (lo := 0) (hi := s.2 1 - 1) (by omega) (by omega) (by omega) hB (hT.nf f1) hM g1 ht.P fun I2 v1 f2 g2 hv1 hve1 => hK _ _ ?_
  have f12 := f1.tr f2
  refine s9_readPaper_17 (by omega) (am_ow hM.1) hM.read.1 (am_rw hM.read.2) (fun Q' hK => ?_) (by omega)
  have e0 : (I2, Z).1 105 ((0 : Int)).toNat = s.2 0 := by show I2 105 0 = _; rw [f12.1 105 (by omega)]; exact hv 0 (by omega)
  rw [e0, wr_of (by omega) (by omega)]
  refine r_number (I := I2) (t := tP1 tp n (tP tp n s.1, s.2)) (lo := 0) (hi := s.2 0 - 1) (by omega) (by omega) (by omega) hB (hT.nf f12) hM g2 ht.P.N fun I3 v2 f3 g3 hv2 hve2 => hK _ _ ?_
  have f13 := f12.tr f3
  have g3 : RdM I3 tp n (tP2 tp n (tP tp n s.1, s.2)) := g3
  have k3 : Tk n (tP2 tp n (tP tp n s.1, s.2)) := ht.P.N.N
  by_cases w2 : (tP2 tp n (tP tp n s.1, s.2)).2.1 = 0
  · have q2 := tN_v w2
    have q1 := tN_v q2.1
    have eb : v1 = (tPb tp n (tP tp n s.1, s.2) : Nat) := by
      rw [hve1 q2.1]
      have := tV_lo (tp := tp) (n := n) (t := tP tp n s.1) (lo := 0) (hi := s.2 1 - 1) (room := 100000000)
      show _ = (((tV tp n (tP tp n s.1) 0 (s.2 1 - 1) 100000000).toNat : Nat) : Int)
      omega
    have er : v2 = (tPr tp n (tP tp n s.1, s.2) : Nat) := by
      rw [hve2 w2]
      have := tV_lo (tp := tp) (n := n) (t := tP1 tp n (tP tp n s.1, s.2)) (lo := 0) (hi := s.2 0 - 1) (room := 100000000)
      show _ = (((tV tp n (tP1 tp n (tP tp n s.1, s.2)) 0 (s.2 0 - 1) 100000000).toNat : Nat) : Int)
      omega
    have hrC : tPr tp n (tP tp n s.1, s.2) < rC s.2 := by
      have a1 := q2.2.2.2.1
      have a2 := q2.2.2.2.2.2.1
      have a3 := hve2 w2
      rw [a2] at a3
      dsimp only at a1
      omega
    have hbN : tPb tp n (tP tp n s.1, s.2) < rN s.2 := by
      have a1 := q1.2.2.2.1
      have a2 := q1.2.2.2.2.2.1
      have a3 := hve1 q2.1
      have a2 : tV tp n (tP tp n s.1) 0 (s.2 1 - 1) 100000000 = nv tp n (tP tp n s.1).1 := a2
      rw [a2] at a3
      dsimp only at a1
      omega
    have hK := hZ.1.k hrC
    unfold tPap at h
    rw [if_pos hrC] at h
    have e30 : (I3, Z).1 103 30 = 0 := g3.2.2.2.2.2.1.trans w2
    rw [eb, er]
    refine s9_readPaper_31 (by omega) (am_ow hM.1) hM.read.1 (fun q => absurd e30 q) (fun q => absurd e30 q) (fun _ Q' hK' => ?_)
    refine r_choice (I := I3) (t := tP2 tp n (tP tp n s.1, s.2)) (K := s.2 (8 + 2 * tPr tp n (tP tp n s.1, s.2))) hz (by omega) hB (hT.nf f13) hM (by omega) (by rw [f13.1 105 (by omega)]; exact hv _ (by omega)) (by omega) g3 k3 fun I4 c f4 g4 hcv => hK' _ _ ?_
    have f14 := f13.tr f4
    have g4 : RdM I4 tp n (tP3 tp n (tP tp n s.1, s.2)).1 := g4
    have k4 : Tk n (tP3 tp n (tP tp n s.1, s.2)).1 := k3.C
    have hcv : (tP3 tp n (tP tp n s.1, s.2)).1.2.1 = 0 → c = (tP3 tp n (tP tp n s.1, s.2)).2 := hcv
    by_cases w3 : (tP3 tp n (tP tp n s.1, s.2)).1.2.1 = 0
    · have e34 : (I4, Z).1 103 30 = 0 := g4.2.2.2.2.2.1.trans w3
      dsimp only at h
      rw [if_pos (show (tP3 tp n (tP tp n s.1, s.2)).1.2.1 = 0 ∧ tPb tp n (tP tp n s.1, s.2) < rN s.2 from ⟨w3, hbN⟩)] at h
      refine s9_readPaper_44 (by omega) (am_ow hM.1) hM.read.1 (fun q => absurd e34 q) (fun _ Q' hK' => T9_at (s9_at_0 (hK' _ _ ?_)))
      rw [show (614 : Int) = ((614 : Nat) : Int) from rfl, ixq (by omega) (by omega) (by omega)]
      refine s9_readPaper_68 (by omega) hM.read.2 (am_ow hM.1) (fun Q' hK' => ?_) (by omega) (by omega)
      rw [Int.toNat_natCast, hcv w3]
      refine r_must (t := (tP3 tp n (tP tp n s.1, s.2)).1) (c := 59) (by omega) hB (hT.rm (f14.rm.u)) hM g4.u k4 fun I5 f5 g5 => hK' _ (s9_readPaper_76 (h I5 ((f14.rm.u).tr f5.rm) g5 fun _ j hj => ?_))
      rw [f5.1 105 (by omega)]
      dsimp only
      by_cases z : j = 614 + 3 * tPb tp n (tP tp n s.1, s.2) + tPr tp n (tP tp n s.1, s.2)
      · rw [z, rs1_at, u2_at]
      · rw [rs1_ne z, u2n z, f14.1 105 (by omega)]; exact hv j hj
    · have e34 : ¬ (I4, Z).1 103 30 = 0 := fun y => w3 (g4.2.2.2.2.2.1.symm.trans y)
      dsimp only at h
      rw [if_neg (fun y => w3 y.1)] at h
      refine s9_readPaper_44 (by omega) (am_ow hM.1) hM.read.1 (fun _ Q' hK' => ?_) (fun q => absurd q e34)
      exact r_must (t := (tP3 tp n (tP tp n s.1, s.2)).1) (c := 59) (by omega) hB (hT.nf f14) hM g4 k4 fun I5 f5 g5 => hK' _ (s9_readPaper_76 (h I5 (f14.tr f5).rm g5 fun _ j hj => by rw [f5.1 105 (by omega), f14.1 105 (by omega)]; exact hv j hj))
  · have e30 : ¬ (I3, Z).1 103 30 = 0 := fun y => w2 (g3.2.2.2.2.2.1.symm.trans y)
    have ep : (tPap tp n (tP tp n s.1, s.2)).1 = tP2 tp n (tP tp n s.1, s.2) := by
      unfold tPap
      by_cases z : tPr tp n (tP tp n s.1, s.2) < rC s.2
      · rw [if_pos z]
        exact tCh_no w2
      · rw [if_neg z]
    rw [ep] at h
    refine s9_readPaper_31 (by omega) (am_ow hM.1) hM.read.1 (fun _ _ Q' hK' => ?_) (fun q q2 => absurd q2 q) (fun q => absurd q e30)
    exact r_must (t := tP2 tp n (tP tp n s.1, s.2)) (c := 59) (by omega) hB (hT.nf f13) hM g3 k3 fun I5 f5 g5 => hK' _ (s9_readPaper_76 (h I5 (f13.tr f5).rm g5 fun y => absurd (tS_v y).1 w2))
theorem r_readRule {I : Nat → Nat → Int} {tp : Nat → Int} {n k : Nat} {lo hi : Int} {s : TR} (hd : 4 ≤ dp) (hk : k < 1514) (hlo : lo ≤ 10000000) (hhi : hi < 10000000) (hB : TpB tp) (hT : TbM I tp n) (hM : Md (I, Z)) (hR : RdM I tp n s.1) (ht : Tk n s.1) (hv : RwB I s.2) (h : ∀ I' : Nat → Nat → Int, RFm I I' → RdM I' tp n (tS tp n (tRul tp n (tP tp n s.1, s.2) k lo hi).1 59) → ((tS tp n (tRul tp n (tP tp n s.1, s.2) k lo hi).1 59).2.1 = 0 → RwB I' (tRul tp n (tP tp n s.1, s.2) k lo hi).2) → Q (.inl none) (I', Z)) : T G dp 0 0 M9_readRule [rV (some 103), iV k, iV lo, iV hi] (I, Z) Q := by
  refine T9_readRule (s9_readRule_0 (by omega) (am_ow hM.1) fun Q' hK => r_pass (I := I) (t := s.1) (by omega) hB hT hM hR ht fun I1 f1 g1 => hK _ ?_)
  refine s9_readRule_4 (by omega) (am_ow hM.1) hM.read.1 fun Q' hK => r_number (I := I1) (t := tP tp n s.1) (by omega) hhi hlo hB (hT.nf f1) hM g1 ht.P fun I2 v f2 g2 _ hve => hK _ _ ?_
  have f12 := f1.tr f2
  refine s9_readRule_15 (by omega) hM.read.2 (am_ow hM.1) (fun Q' hK => ?_) (by omega) (by omega)
  rw [Int.toNat_natCast]
  refine r_must (t := tN tp n (tP tp n s.1) lo hi 100000000) (c := 59) (by omega) hB (hT.rm (f12.rm.u)) hM g2.u ht.P.N fun I3 f3 g3 => hK _ (s9_readRule_22 (h I3 ((f12.rm.u).tr f3.rm) g3 fun y j hj => ?_))
  have w := (tS_v y).1
  rw [f3.1 105 (by omega), hve w]
  show _ = rs1 s.2 k _ j
  dsimp only
  by_cases z : j = k
  · rw [z, rs1_at, u2_at]
  · rw [rs1_ne z, u2n z, f12.1 105 (by omega)]; exact hv j hj
end
