/-! THE CLASS reads a question: tests, facts, hear -/
def FcC (G : am_G) (Z : (Nat → Nat → Option Nat) × (Nat → Nat × Nat) × Nat × Bool) (tp : Nat → Int) (n : Nat) (K : Int) (M : am_Me) (o : Int) (f : TS → TC) (dp : Nat) : Prop := ∀ (Q : am_Q) (I : Nat → Nat → Int) (t : TS) (c : QC), Tb I tp n → RdC I tp n t → Tk n t → CdV I c → (∀ I' : Nat → Nat → Int, QF I I' → RdC I' tp n (f t).1 → CdV I' (c ++ (f t).2) → Q (.inl none) (I', Z)) → T G dp 0 0 M [rV (some 78), rV (some 76), iV K, iV o] (I, Z) Q
section
variable {G : am_G} {dp : Nat} {Q : am_Q} {Z : (Nat → Nat → Option Nat) × (Nat → Nat × Nat) × Nat × Bool}
theorem ct_readBoth {I0 : Nat → Nat → Int} {tp : Nat → Int} {n : Nat} {K o : Int} {f : TS → TC} (hz : SZ G) (hd : 6 ≤ dp) (hB : TpB tp) (hk : Rk (I0, Z)) (hq : Qu (I0, Z) 78) (hf : FcC G Z tp n K M5_readFact o f (dp - 1)) (hkf : ∀ t, Tk n t → Tk n (f t).1) : FcC G Z tp n K M5_readBoth o (pB tp n f) dp := by
  intro Q I t c hT hR ht hC h
  have lp : ∀ (g k : Nat) (J : Nat → Nat → Int) (s : TC), 200 - k = g → k ≤ 200 → lpA tp n f (sby 42) 10 g s = pB tp n f t → QF I J → RdC J tp n s.1 → Tk n s.1 → CdV J (c ++ s.2) → X G dp 0 0 M5_readBoth 10 [some (rV (some 78)), some (rV (some 76)), some (iV K), some (iV o), some (iV k)] [] (J, Z) Q := by
    intro g
    induction g with
    | zero =>
      intro k J s hu hk9 hs fJ g1 t1 c1
      have hs : s = pB tp n f t := hs
      subst hs
      exact s5_readBoth_10 (by omega) (am_ow hk.1) (fun _ => h J fJ g1 c1) (fun q => absurd (show (200 : Int) ≤ k by omega) q)
    | succ g ih =>
      intro k J s hu hk9 hs fJ g1 t1 c1
      rw [lpA_s] at hs
      refine s5_readBoth_10 (by omega) (am_ow hk.1) (fun q => absurd q (by omega)) (fun _ Q' hK => ct_skipWord (I := J) (t := s.1) hz (by omega) (by decide) hB (hT.qf fJ) hk g1 t1 fun J1 f1 g2 => hK _ _ ?_)
      have f01 := fJ.tr (QF.rd f1)
      by_cases e : iW tp n s.1 (sby 42) = true
      · rw [if_pos e] at hs
        rw [e] at g2 ⊢
        refine s5_readBoth_24 (by omega) (am_ow hq.1) (fun q => absurd q (by decide)) (fun _ Q' hK => hf _ J1 (tP tp n s.1) (c ++ s.2) (hT.qf f01) g2 t1.P (c1.rd f1) fun J2 f2 g3 c3 => hK _ ?_)
        refine s5_readBoth_34 (by omega) (am_ow hq.1) fun Q' hK => ct_qadd (I := J2) hq c3 fun J3 f3 r3 c4 => hK _ (s5_readBoth_41 ?_)
        rw [wr_s (by omega)]
        rw [List.append_assoc, List.append_assoc] at c4
        exact ih (k + 1) J3 _ (by omega) (by omega) hs ((f01.tr f2).tr f3) (g3.qf r3) (hkf _ t1.P) c4
      · rw [if_neg e] at hs
        subst hs
        rw [eq_false_of_ne_true e] at g2 ⊢
        exact s5_readBoth_24 (by omega) (am_ow hq.1) (fun _ => h J1 f01 g2 (c1.rd f1)) (fun q => absurd rfl q)
  refine T5_readBoth (s5_readBoth_0 (by omega) (am_ow hq.1) fun Q' hK => hf _ I t c hT hR ht hC fun J1 f1 g1 c1 => hK _ (s5_readBoth_7 ?_))
  exact lp 200 0 J1 (f t) rfl (Nat.zero_le _) rfl f1 g1 (hkf t ht) c1
theorem ct_readTest {I0 : Nat → Nat → Int} {tp : Nat → Int} {n : Nat} {K o : Int} {f : TS → TC} (hz : SZ G) (hd : 6 ≤ dp) (hB : TpB tp) (hk : Rk (I0, Z)) (hq : Qu (I0, Z) 78) (hf : FcC G Z tp n K M5_readBoth o (pB tp n f) (dp - 1)) (hkf : ∀ t, Tk n t → Tk n (pB tp n f t).1) : FcC G Z tp n K M5_readTest o (pT tp n f) dp := by
  intro Q I t c hT hR ht hC h
  have lp : ∀ (g k : Nat) (J : Nat → Nat → Int) (s : TC), 200 - k = g → k ≤ 200 → lpA tp n (pB tp n f) (sby 43) 11 g s = pT tp n f t → QF I J → RdC J tp n s.1 → Tk n s.1 → CdV J (c ++ s.2) → X G dp 0 0 M5_readTest 10 [some (rV (some 78)), some (rV (some 76)), some (iV K), some (iV o), some (iV k)] [] (J, Z) Q := by
    intro g
    induction g with
    | zero =>
      intro k J s hu hk9 hs fJ g1 t1 c1
      have hs : s = pT tp n f t := hs
      subst hs
      exact s5_readTest_10 (by omega) (am_ow hk.1) (fun _ => h J fJ g1 c1) (fun q => absurd (show (200 : Int) ≤ k by omega) q)
    | succ g ih =>
      intro k J s hu hk9 hs fJ g1 t1 c1
      rw [lpA_s] at hs
      refine s5_readTest_10 (by omega) (am_ow hk.1) (fun q => absurd q (by omega)) (fun _ Q' hK => ct_skipWord (I := J) (t := s.1) hz (by omega) (by decide) hB (hT.qf fJ) hk g1 t1 fun J1 f1 g2 => hK _ _ ?_)
      have f01 := fJ.tr (QF.rd f1)
      by_cases e : iW tp n s.1 (sby 43) = true
      · rw [if_pos e] at hs
        rw [e] at g2 ⊢
        refine s5_readTest_24 (by omega) (am_ow hq.1) (fun q => absurd q (by decide)) (fun _ Q' hK => hf _ J1 (tP tp n s.1) (c ++ s.2) (hT.qf f01) g2 t1.P (c1.rd f1) fun J2 f2 g3 c3 => hK _ ?_)
        refine s5_readTest_34 (by omega) (am_ow hq.1) fun Q' hK => ct_qadd (I := J2) hq c3 fun J3 f3 r3 c4 => hK _ (s5_readTest_41 ?_)
        rw [wr_s (by omega)]
        rw [List.append_assoc, List.append_assoc] at c4
        exact ih (k + 1) J3 _ (by omega) (by omega) hs ((f01.tr f2).tr f3) (g3.qf r3) (hkf _ t1.P) c4
      · rw [if_neg e] at hs
        subst hs
        rw [eq_false_of_ne_true e] at g2 ⊢
        exact s5_readTest_24 (by omega) (am_ow hq.1) (fun _ => h J1 f01 g2 (c1.rd f1)) (fun q => absurd rfl q)
  refine T5_readTest (s5_readTest_0 (by omega) (am_ow hq.1) fun Q' hK => hf _ I t c hT hR ht hC fun J1 f1 g1 c1 => hK _ (s5_readTest_7 ?_))
  exact lp 200 0 J1 (pB tp n f t) rfl (Nat.zero_le _) rfl f1 g1 (hkf t ht) c1
theorem pF_s {tp : Nat → Int} {n : Nat} {K : Int} {L : Nat} {t : TS} : pF tp n K (L + 1) t = if iW tp n t (sby 34) = true then ((pF tp n K L (tP tp n t)).1, (pF tp n K L (tP tp n t)).2 ++ [(9, 0)]) else if iS tp n t 123 = true then (tS tp n (pT tp n (pF tp n K L) (tP tp n t)).1 125, (pT tp n (pF tp n K L) (tP tp n t)).2) else pC tp n K t := rfl
theorem pF_0 {tp : Nat → Int} {n : Nat} {K : Int} {t : TS} : pF tp n K 0 t = if iW tp n t (sby 34) = true ∨ iS tp n t 123 = true then (tF t 3, []) else pC tp n K t := rfl
theorem ct_readFact {I0 : Nat → Nat → Int} {tp : Nat → Int} {n : Nat} {K : Int} (hz : SZ G) (hB : TpB tp) (hk : Rk (I0, Z)) (hq : Qu (I0, Z) 78) (hK : 0 ≤ K ∧ K ≤ 3) : ∀ (L dp : Nat), L ≤ 6 → 8 + 3 * L ≤ dp → FcC G Z tp n K M5_readFact (6 - (L : Int)) (pF tp n K L) dp := by
  intro L
  induction L with
  | zero =>
    intro dp _ hd Q I t c hT hR ht hC h
    rw [pF_0] at h
    refine T5_readFact (s5_readFact_0 (by omega) (am_ow hk.1) fun Q' hK' => ct_isWord (I := I) (t := t) hz (by omega) (by decide) hB hT hk hR ht (hK' _ _ ?_))
    by_cases e : iW tp n t (sby 34) = true
    · rw [if_pos (Or.inl e)] at h
      rw [e]
      exact s5_readFact_6 (by omega) (am_ow hk.1) (fun _ q => absurd q (by omega)) (fun _ _ Q' hK' => ct_fail (I := I) (t := t) hk hR fun I1 f1 g1 => hK' _ (s5_readFact_40 (h I1 (QF.rd f1) g1 (by rw [List.append_nil]; exact hC.rd f1)))) (fun q => absurd q (by decide))
    · rw [eq_false_of_ne_true e]
      refine s5_readFact_6 (by omega) (am_ow hk.1) (fun q => absurd rfl q) (fun q => absurd rfl q) (fun _ Q' hK' => ct_isSign (I := I) (t := t) (c := 123) (by omega) hB hT hk hR (hK' _ _ ?_))
      by_cases e2 : iS tp n t 123 = true
      · rw [if_pos (Or.inr e2)] at h
        rw [e2]
        exact s5_readFact_19 (by omega) (am_ow hk.1) (am_ow hq.1) (fun _ q => absurd q (by omega)) (fun _ _ Q' hK' => ct_fail (I := I) (t := t) hk hR fun I1 f1 g1 => hK' _ (s5_readFact_40 (h I1 (QF.rd f1) g1 (by rw [List.append_nil]; exact hC.rd f1)))) (fun q => absurd q (by decide))
      · rw [if_neg (fun z => z.elim e e2)] at h
        rw [eq_false_of_ne_true e2]
        exact s5_readFact_19 (by omega) (am_ow hk.1) (am_ow hq.1) (fun q => absurd rfl q) (fun q => absurd rfl q) (fun _ Q' hK' => ct_readComparison (I := I) hz (by omega) hB hT hk hq hK hR ht hC fun I1 f1 g1 c1 => hK' _ (s5_readFact_28 (h I1 f1 g1 c1)))
  | succ L ih =>
    intro dp hL hd Q I t c hT hR ht hC h
    rw [pF_s] at h
    have eo : wr (6 - ((L + 1 : Nat) : Int) + 1) = 6 - (L : Int) := by rw [wr_of (by omega) (by omega)]; omega
    refine T5_readFact (s5_readFact_0 (by omega) (am_ow hk.1) fun Q' hK' => ct_isWord (I := I) (t := t) hz (by omega) (by decide) hB hT hk hR ht (hK' _ _ ?_))
    by_cases e : iW tp n t (sby 34) = true
    · rw [if_pos e] at h
      rw [e]
      have w0 := (of_decide_eq_true e).1
      refine s5_readFact_6 (by omega) (am_ow hk.1) (fun _ _ Q' hK' => ct_pass (I := I) (t := t) hB hT hk hR ht w0 fun I1 f1 g1 => hK' _ ?_) (fun _ q => absurd (by omega) q) (fun q => absurd q (by decide))
      refine s5_readFact_45 (by omega) (am_ow hq.1) (fun q => absurd q (by decide)) (fun _ Q' hK' => ?_)
      rw [eo]
      refine ih (dp - 1) (by omega) (by omega) _ I1 (tP tp n t) c (hT.qf (QF.rd f1)) g1 ht.P (hC.rd f1) fun I2 f2 g2 c2 => hK' _ ?_
      refine s5_readFact_59 (by omega) (am_ow hq.1) fun Q' hK' => ct_qadd (I := I2) hq c2 fun I3 f3 r3 c3 => hK' _ (s5_readFact_66 (s5_readFact_84 (h I3 (((QF.rd f1).tr f2).tr f3) (g2.qf r3) ?_)))
      rw [List.append_assoc] at c3
      exact c3
    · rw [if_neg e] at h
      rw [eq_false_of_ne_true e]
      refine s5_readFact_6 (by omega) (am_ow hk.1) (fun q => absurd rfl q) (fun q => absurd rfl q) (fun _ Q' hK' => ct_isSign (I := I) (t := t) (c := 123) (by omega) hB hT hk hR (hK' _ _ ?_))
      by_cases e2 : iS tp n t 123 = true
      · rw [if_pos e2] at h
        rw [e2]
        have w0 := (of_decide_eq_true e2).1
        have kf := fun q => pF_k (tp := tp) (n := n) (K := K) L q
        refine s5_readFact_19 (by omega) (am_ow hk.1) (am_ow hq.1) (fun _ _ Q' hK' => ct_pass (I := I) (t := t) hB hT hk hR ht w0 fun I1 f1 g1 => hK' _ ?_) (fun _ q => absurd (by omega) q) (fun q => absurd q (by decide))
        refine s5_readFact_45 (by omega) (am_ow hq.1) (fun _ Q' hK' => ?_) (fun q => absurd rfl q)
        rw [eo]
        refine ct_readTest (I0 := I0) (f := pF tp n K L) hz (by omega) hB hk hq (ct_readBoth (I0 := I0) (f := pF tp n K L) hz (by omega) hB hk hq (ih (dp - 1 - 1 - 1) (by omega) (by omega)) kf) (fun q hh => pB_k kf hh) _ I1 (tP tp n t) c (hT.qf (QF.rd f1)) g1 ht.P (hC.rd f1) fun I2 f2 g2 c2 => hK' _ ?_
        refine s5_readFact_78 (by omega) (am_ow hk.1) fun Q' hK' => ct_needSign (I := I2) (t := (pT tp n (pF tp n K L) (tP tp n t)).1) (c := 125) (by omega) (by omega) hB (hT.qf ((QF.rd f1).tr f2)) hk g2 (pT_k kf ht.P) fun I3 f3 g3 => hK' _ (s5_readFact_84 (h I3 (((QF.rd f1).tr f2).tr (QF.rd f3)) g3 (c2.rd f3)))
      · rw [if_neg e2] at h
        rw [eq_false_of_ne_true e2]
        exact s5_readFact_19 (by omega) (am_ow hk.1) (am_ow hq.1) (fun q => absurd rfl q) (fun q => absurd rfl q) (fun _ Q' hK' => ct_readComparison (I := I) hz (by omega) hB hT hk hq hK hR ht hC fun I1 f1 g1 c1 => hK' _ (s5_readFact_28 (h I1 f1 g1 c1)))
theorem pEnd_w {tp : Nat → Int} {n : Nat} {t : TS} (h : (pEnd tp n t).2.1 = 0) : t.2.1 = 0 ∧ kd tp n t.1 = 0 ∧ pEnd tp n t = t := by
  unfold pEnd at h ⊢
  by_cases z : kd tp n t.1 = 0
  · rw [if_pos z] at h ⊢; exact ⟨h, z, rfl⟩
  · rw [if_neg z] at h; exact absurd h (tF_w (by decide))
theorem pQ_w {tp : Nat → Int} {n : Nat} {K : Int} {t : TS} (h : (pQ tp n K t).1.2.1 = 0) : (pK tp n t).2.1 = 0 := Decidable.byContradiction fun z => z (by unfold pQ at h; rw [pT_no (fun t q => pF_no q 6) z] at h; exact h)
theorem ct_hear {I : Nat → Nat → Int} {tp : Nat → Int} {n : Nat} {K : Int} (hz : SZ G) (hd : 29 ≤ dp) (hB : TpB tp) (hT : Tb I tp n) (hk : Rk (I, Z)) (hq : Qu (I, Z) 78) (hK : 0 ≤ K ∧ K ≤ 3) (hR : RdC I tp n (rn blk tp n 0, 0, -1)) (h : ∀ I' : Nat → Nat → Int, (∀ x, x ≠ 76 → x ≠ 78 → x ≠ 79 → x ≠ 80 → I' x = I x) → RdC I' tp n (askT tp n K).1 → CdV I' (askT tp n K).2 → ((askT tp n K).1.2.1 = 0 → I' 78 5 = askK tp n) → Q (.inl none) (I', Z)) : T G dp 0 0 M5_hear [rV (some 78), rV (some 76), iV K] (I, Z) Q := by
  have t0 : Tk n (rn blk tp n 0, 0, -1) := Tk.o
  have kf := fun q => pF_k (tp := tp) (n := n) (K := K) 6 q
  have fin : ∀ (J : Nat → Nat → Int) (v : Int), (∀ x, x ≠ 76 → x ≠ 78 → x ≠ 79 → x ≠ 80 → J x = I x) → J 78 5 = v → RdC J tp n (pK tp n (rn blk tp n 0, 0, -1)) → CdV J [] → ((pK tp n (rn blk tp n 0, 0, -1)).2.1 = 0 → v = askK tp n) → X G dp 0 0 M5_hear 61 [some (rV (some 78)), some (rV (some 76)), some (iV K)] [] (J, Z) Q := by
    intro J v fx h5 g c1 hv
    have hTJ : Tb J tp n := ⟨hT.1, fun j hj => by rw [fx 2 (by omega) (by omega) (by omega) (by omega)]; exact hT.2 j hj⟩
    have fc := ct_readTest (dp := dp - 1) (I0 := I) (f := pF tp n K 6) hz (by omega) hB hk hq (ct_readBoth (I0 := I) (f := pF tp n K 6) hz (by omega) hB hk hq (ct_readFact (G := G) (Z := Z) (I0 := I) hz hB hk hq hK 6 (dp - 1 - 1 - 1) (by omega) (by omega)) kf) (fun q hh => pB_k kf hh)
    refine s5_hear_61 (by omega) (am_ow hq.1) fun Q' hK' => fc _ J (pK tp n (rn blk tp n 0, 0, -1)) [] hTJ g (pK_k t0) c1 fun J1 f1 g1 c2 => hK' _ ?_
    have g1 : RdC J1 tp n (pQ tp n K (rn blk tp n 0, 0, -1)).1 := g1
    have c2 : CdV J1 (pQ tp n K (rn blk tp n 0, 0, -1)).2 := c2
    have fx1 : ∀ x, x ≠ 76 → x ≠ 78 → x ≠ 79 → x ≠ 80 → J1 x = I x := fun x a b c d => (f1.1 x a b c d).trans (fx x a b c d)
    have ha : (askT tp n K).1.2.1 = 0 → J1 78 5 = askK tp n := fun w => by
      rw [f1.2 5 (by omega), h5]
      exact hv (pQ_w (pEnd_w w).1)
    refine s5_hear_68 (by omega) (am_ow hk.1) fun Q' hK' => ct_isEnd (I := J1) (t := (pQ tp n K (rn blk tp n 0, 0, -1)).1) hk g1 (hK' _ _ ?_)
    unfold askT pEnd at h ha
    dsimp only at h ha
    by_cases z : kd tp n (pQ tp n K (rn blk tp n 0, 0, -1)).1.1 = 0
    · rw [if_pos z] at h ha
      rw [if_pos z]
      exact s5_hear_72 (by omega) (am_ow hk.1) (fun _ => s5_hear_80 (h J1 fx1 g1 c2 ha)) (fun q => absurd q (by decide))
    · rw [if_neg z] at h ha
      rw [if_neg z]
      exact s5_hear_72 (by omega) (am_ow hk.1) (fun q => absurd rfl q) (fun _ Q' hK' => ct_fail (I := J1) (t := (pQ tp n K (rn blk tp n 0, 0, -1)).1) hk g1 fun J2 f2 g2 => hK' _ (s5_hear_80 (h J2 (fun x a b c d => (f2 x a).trans (fx1 x a b c d)) g2 (c2.rd f2) (fun w => absurd w (tF_w (by decide))))))
  unfold askK pK at fin
  have c0 : CdV (u2 I 78 3 0) [] := ⟨u2_at, fun j x _ hx => absurd hx (by simp)⟩
  have fx0 : ∀ x, x ≠ 76 → x ≠ 78 → x ≠ 79 → x ≠ 80 → u2 I 78 3 0 x = I x := fun x _ b _ _ => u2r b
  have r0 : RdC (u2 I 78 3 0) tp n (rn blk tp n 0, 0, -1) := hR.qf (u2r (by omega))
  have hT0 : Tb (u2 I 78 3 0) tp n := ⟨hT.1, fun j hj => by rw [u2r (by omega)]; exact hT.2 j hj⟩
  have put : ∀ {J : Nat → Nat → Int} {v : Int}, CdV J [] → CdV (u2 J 78 5 v) [] := fun {J v} hc => ⟨by rw [u2n (by omega)]; exact hc.1, fun j x _ hx => absurd hx (by simp)⟩
  refine T5_hear (s5_hear_0 (by omega) hq.1 (am_ow hk.1) fun Q' hK' => ct_skipWord (I := u2 I 78 3 0) (t := (rn blk tp n 0, 0, -1)) hz (by omega) (by decide) hB hT0 hk r0 t0 fun I1 f1 g1 => hK' _ _ ?_)
  have fx1 : ∀ x, x ≠ 76 → x ≠ 78 → x ≠ 79 → x ≠ 80 → I1 x = I x := fun x a b c d => (f1 x a).trans (fx0 x a b c d)
  have c1 : CdV I1 [] := c0.rd f1
  have hT1 : Tb I1 tp n := ⟨hT.1, fun j hj => by rw [fx1 2 (by omega) (by omega) (by omega) (by omega)]; exact hT.2 j hj⟩
  by_cases e1 : iW tp n (rn blk tp n 0, 0, -1) (sby 31) = true
  · rw [e1] at g1 ⊢
    refine s5_hear_11 (by omega) (am_ow hk.1) hq.1 (fun q => absurd q (by decide)) (fun _ => fin _ 0 (fun x a b c d => by dsimp only; rw [u2r b]; exact fx1 x a b c d) u2_at ?_ (put c1) (fun _ => by rw [if_pos e1]))
    rw [if_pos (Or.inl e1)]
    exact g1.qf (u2r (by omega))
  rw [eq_false_of_ne_true e1] at g1 ⊢
  refine s5_hear_11 (by omega) (am_ow hk.1) hq.1 (fun _ Q' hK' => ct_skipWord (I := I1) (t := (rn blk tp n 0, 0, -1)) hz (by omega) (by decide) hB hT1 hk g1 t0 fun I2 f2 g2 => hK' _ _ ?_) (fun q => absurd rfl q)
  have fx2 : ∀ x, x ≠ 76 → x ≠ 78 → x ≠ 79 → x ≠ 80 → I2 x = I x := fun x a b c d => (f2 x a).trans (fx1 x a b c d)
  have c2 : CdV I2 [] := c1.rd f2
  have hT2 : Tb I2 tp n := ⟨hT.1, fun j hj => by rw [fx2 2 (by omega) (by omega) (by omega) (by omega)]; exact hT.2 j hj⟩
  by_cases e2 : iW tp n (rn blk tp n 0, 0, -1) (sby 32) = true
  · rw [e2] at g2 ⊢
    refine s5_hear_28 (by omega) (am_ow hk.1) hq.1 (fun q => absurd q (by decide)) (fun _ => fin _ 1 (fun x a b c d => by dsimp only; rw [u2r b]; exact fx2 x a b c d) u2_at ?_ (put c2) (fun _ => by rw [if_neg e1, if_pos e2]))
    rw [if_pos (Or.inr (Or.inl e2))]
    exact g2.qf (u2r (by omega))
  rw [eq_false_of_ne_true e2] at g2 ⊢
  refine s5_hear_28 (by omega) (am_ow hk.1) hq.1 (fun _ Q' hK' => ct_skipWord (I := I2) (t := (rn blk tp n 0, 0, -1)) hz (by omega) (by decide) hB hT2 hk g2 t0 fun I3 f3 g3 => hK' _ _ ?_) (fun q => absurd rfl q)
  have fx3 : ∀ x, x ≠ 76 → x ≠ 78 → x ≠ 79 → x ≠ 80 → I3 x = I x := fun x a b c d => (f3 x a).trans (fx2 x a b c d)
  have c3 : CdV I3 [] := c2.rd f3
  by_cases e3 : iW tp n (rn blk tp n 0, 0, -1) (sby 33) = true
  · rw [e3] at g3 ⊢
    refine s5_hear_45 (by omega) (am_ow hk.1) hq.1 (fun q => absurd q (by decide)) (fun _ => fin _ 2 (fun x a b c d => by dsimp only; rw [u2r b]; exact fx3 x a b c d) u2_at ?_ (put c3) (fun _ => by rw [if_neg e1, if_neg e2]))
    rw [if_pos (Or.inr (Or.inr e3))]
    exact g3.qf (u2r (by omega))
  rw [eq_false_of_ne_true e3] at g3 ⊢
  have hn : ¬ (iW tp n (rn blk tp n 0, 0, -1) (sby 31) = true ∨ iW tp n (rn blk tp n 0, 0, -1) (sby 32) = true ∨ iW tp n (rn blk tp n 0, 0, -1) (sby 33) = true) := fun z => z.elim e1 (fun z => z.elim e2 e3)
  refine s5_hear_45 (by omega) (am_ow hk.1) hq.1 (fun _ Q' hK' => ct_fail (I := I3) (t := (rn blk tp n 0, 0, -1)) hk g3 fun I4 f4 g4 => hK' _ (fin I4 _ (fun x a b c d => (f4 x a).trans (fx3 x a b c d)) rfl ?_ (c3.rd f4) (fun w => ?_))) (fun q => absurd rfl q)
  · rw [if_neg hn]; exact g4
  · rw [if_neg hn] at w; exact absurd w (tF_w (by decide))
end
