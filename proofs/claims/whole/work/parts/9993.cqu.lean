/-! THE CLASS reads a question -/
def CdV (I : Nat → Nat → Int) (c : QC) : Prop := I 78 3 = ((min 200 c.length : Nat) : Int) ∧ ∀ (j : Nat) (x : Int × Int), j < 200 → c[j]? = some x → I 79 j = x.1 ∧ I 80 j = x.2
def QF (I I' : Nat → Nat → Int) : Prop := (∀ x, x ≠ 76 → x ≠ 78 → x ≠ 79 → x ≠ 80 → I' x = I x) ∧ ∀ j, j ≠ 3 → I' 78 j = I 78 j
theorem QF.rd {I J : Nat → Nat → Int} (h : ∀ x, x ≠ 76 → J x = I x) : QF I J := ⟨fun x a _ _ _ => h x a, fun j _ => by rw [h 78 (by omega)]⟩
theorem QF.tr {I J K : Nat → Nat → Int} (h : QF I J) (k : QF J K) : QF I K := ⟨fun x a b c d => (k.1 x a b c d).trans (h.1 x a b c d), fun j a => (k.2 j a).trans (h.2 j a)⟩
theorem QF.rf {I : Nat → Nat → Int} : QF I I := ⟨fun _ _ _ _ _ => rfl, fun _ _ => rfl⟩
theorem CdV.rd {I J : Nat → Nat → Int} {c : QC} (h : CdV I c) (f : ∀ x, x ≠ 76 → J x = I x) : CdV J c := by
  unfold CdV at h ⊢
  rw [f 78 (by omega), f 79 (by omega), f 80 (by omega)]
  exact h
theorem Tb.qf {I I' : Nat → Nat → Int} {tp : Nat → Int} {n : Nat} (h : Tb I tp n) (f : QF I I') : Tb I' tp n := ⟨h.1, fun j hj => by rw [f.1 2 (by omega) (by omega) (by omega) (by omega)]; exact h.2 j hj⟩
theorem RdC.qf {I I' : Nat → Nat → Int} {tp : Nat → Int} {n : Nat} {t : TS} (h : RdC I tp n t) (f : I' 76 = I 76) : RdC I' tp n t := by
  unfold RdC at h ⊢
  rw [f]
  exact h
section
variable {G : am_G} {dp : Nat} {Q : am_Q} {Z : (Nat → Nat → Option Nat) × (Nat → Nat × Nat) × Nat × Bool}
theorem ct_qadd {I : Nat → Nat → Int} {c : QC} {s g : Int} (hq : Qu (I, Z) 78) (hC : CdV I c) (h : ∀ I' : Nat → Nat → Int, QF I I' → I' 76 = I 76 → CdV I' (c ++ [(s, g)]) → Q (.inl none) (I', Z)) : T G dp 0 0 M5_add [rV (some 78), iV s, iV g] (I, Z) Q := by
  have e3 : (I, Z).1 78 3 = ((min 200 c.length : Nat) : Int) := hC.1
  have e31 : (u2 (I, Z).1 79 ((I, Z).1 78 3).toNat s) 78 3 = ((min 200 c.length : Nat) : Int) := by rw [u2r (by omega)]; exact e3
  refine T5_add (s5_add_0 hq.2.1.1 hq.2.2.1 hq.2.1.2.1 hq.2.2.2.1 hq.1 (fun q => h I QF.rf rfl ?_) (fun q => ?_) (fun _ => by omega) (fun q => by omega) (fun _ => by rw [e31]; omega) (fun q => by rw [e31]; omega))
  · rw [e3] at q
    refine ⟨by rw [List.length_append, List.length_singleton]; exact e3.trans (by omega), fun j x hj hx => ?_⟩
    rw [List.getElem?_append_left (by omega)] at hx
    exact hC.2 j x hj hx
  · rw [e3] at q
    have hl : c.length < 200 := by omega
    dsimp only at e3 e31 ⊢
    rw [e31, e3, show min 200 c.length = c.length by omega, Int.toNat_natCast]
    have e9 : (u2 (u2 I 79 c.length s) 80 c.length g) 78 3 = c.length := by rw [u2r (by omega), u2r (by omega), e3]; omega
    rw [e9, wr_s (by omega)]
    refine h _ ⟨fun x a b d e => by rw [u2r b, u2r e, u2r d], fun j hj => by rw [u2n hj, u2r (by omega), u2r (by omega)]⟩ (by rw [u2r (by omega), u2r (by omega), u2r (by omega)]) ⟨?_, fun j x hj hx => ?_⟩
    · rw [u2_at, List.length_append, List.length_singleton]; omega
    · rw [u2r (by omega), u2r (by omega), u2r (show 80 ≠ 78 by omega)]
      by_cases z : j = c.length
      · rw [z, List.getElem?_append_right (Nat.le_refl _), Nat.sub_self] at hx
        have hx : (s, g) = x := Option.some.inj hx
        rw [z, u2_at, u2_at, ← hx]
        exact ⟨rfl, rfl⟩
      · rw [u2n z, u2n z]
        have z2 : j < c.length := by
          have := (List.getElem?_eq_some_iff.mp hx).1
          rw [List.length_append, List.length_singleton] at this
          omega
        rw [List.getElem?_append_left z2] at hx
        exact hC.2 j x hj hx
theorem ct_readValue {I : Nat → Nat → Int} {tp : Nat → Int} {n : Nat} {t : TS} {c : QC} {K : Int} (hz : SZ G) (hd : 6 ≤ dp) (hB : TpB tp) (hT : Tb I tp n) (hk : Rk (I, Z)) (hq : Qu (I, Z) 78) (hK : 0 ≤ K ∧ K ≤ 3) (hR : RdC I tp n t) (ht : Tk n t) (hC : CdV I c) (h : ∀ I' : Nat → Nat → Int, QF I I' → RdC I' tp n (pV tp n K t).1 → CdV I' (c ++ (pV tp n K t).2) → Q (.inl none) (I', Z)) : T G dp 0 0 M5_readValue [rV (some 78), rV (some 76), iV K] (I, Z) Q := by
  unfold pV at h
  have hs : ∀ {I1 : Nat → Nat → Int}, (∀ x, x ≠ 76 → I1 x = I x) → Tb I1 tp n := fun f => hT.qf (QF.rd f)
  refine T5_readValue (s5_readValue_0 (by omega) (am_ow hk.1) fun Q' hK' => ct_skipWord (I := I) (t := t) hz (by omega) (by decide) hB hT hk hR ht fun I1 f1 g1 => hK' _ _ ?_)
  by_cases e1 : iW tp n t (sby 35) = true
  · rw [if_pos e1] at h
    rw [e1] at g1 ⊢
    exact s5_readValue_6 (by omega) (am_ow hk.1) (am_ow hq.1) (fun q => absurd q (by decide)) (fun _ Q' hK' => ct_qadd (I := I1) hq (hC.rd f1) fun I2 f2 r2 c2 => hK' _ (s5_readValue_15 (s5_readValue_169 (h I2 ((QF.rd f1).tr f2) (g1.qf r2) c2))))
  rw [if_neg e1] at h
  rw [eq_false_of_ne_true e1] at g1 ⊢
  clear e1
  refine s5_readValue_6 (by omega) (am_ow hk.1) (am_ow hq.1) (fun _ Q' hK' => ct_skipWord (I := I1) (t := t) hz (by omega) (by decide) hB (hs f1) hk g1 ht fun I2 f2 g2 => hK' _ _ ?_) (fun q => absurd rfl q)
  have f2 : ∀ x, x ≠ 76 → I2 x = I x := fun x hx => (f2 x hx).trans (f1 x hx)
  clear f1 g1
  by_cases e1 : iW tp n t (sby 36) = true
  · rw [if_pos e1] at h
    rw [e1] at g2 ⊢
    exact s5_readValue_24 (by omega) (am_ow hk.1) (am_ow hq.1) (fun q => absurd q (by decide)) (fun _ Q' hK' => ct_qadd (I := I2) hq (hC.rd f2) fun I3 f3 r3 c3 => hK' _ (s5_readValue_34 (s5_readValue_169 (h I3 ((QF.rd f2).tr f3) (g2.qf r3) c3))))
  rw [if_neg e1] at h
  rw [eq_false_of_ne_true e1] at g2 ⊢
  clear e1
  refine s5_readValue_24 (by omega) (am_ow hk.1) (am_ow hq.1) (fun _ Q' hK' => ct_skipWord (I := I2) (t := t) hz (by omega) (by decide) hB (hs f2) hk g2 ht fun I3 f3 g3 => hK' _ _ ?_) (fun q => absurd rfl q)
  have f3 : ∀ x, x ≠ 76 → I3 x = I x := fun x hx => (f3 x hx).trans (f2 x hx)
  clear f2 g2
  by_cases e1 : iW tp n t (sby 37) = true
  · rw [if_pos e1] at h
    rw [e1] at g3 ⊢
    exact s5_readValue_43 (by omega) (am_ow hk.1) (am_ow hq.1) (fun q => absurd q (by decide)) (fun _ Q' hK' => ct_qadd (I := I3) hq (hC.rd f3) fun I4 f4 r4 c4 => hK' _ (s5_readValue_52 (s5_readValue_169 (h I4 ((QF.rd f3).tr f4) (g3.qf r4) c4))))
  rw [if_neg e1] at h
  rw [eq_false_of_ne_true e1] at g3 ⊢
  clear e1
  refine s5_readValue_43 (by omega) (am_ow hk.1) (am_ow hq.1) (fun _ Q' hK' => ct_skipWord (I := I3) (t := t) hz (by omega) (by decide) hB (hs f3) hk g3 ht fun I4 f4 g4 => hK' _ _ ?_) (fun q => absurd rfl q)
  have f4 : ∀ x, x ≠ 76 → I4 x = I x := fun x hx => (f4 x hx).trans (f3 x hx)
  clear f3 g3
  by_cases e1 : iW tp n t (sby 38) = true
  · rw [if_pos e1] at h
    rw [e1] at g4 ⊢
    exact s5_readValue_61 (by omega) (am_ow hk.1) (am_ow hq.1) (fun q => absurd q (by decide)) (fun _ Q' hK' => ct_qadd (I := I4) hq (hC.rd f4) fun I5 f5 r5 c5 => hK' _ (s5_readValue_70 (s5_readValue_169 (h I5 ((QF.rd f4).tr f5) (g4.qf r5) c5))))
  rw [if_neg e1] at h
  rw [eq_false_of_ne_true e1] at g4 ⊢
  clear e1
  refine s5_readValue_61 (by omega) (am_ow hk.1) (am_ow hq.1) (fun _ Q' hK' => ct_skipWord (I := I4) (t := t) hz (by omega) (by decide) hB (hs f4) hk g4 ht fun I5 f5 g5 => hK' _ _ ?_) (fun q => absurd rfl q)
  have f5 : ∀ x, x ≠ 76 → I5 x = I x := fun x hx => (f5 x hx).trans (f4 x hx)
  clear f4 g4
  by_cases e1 : iW tp n t (sby 39) = true
  · rw [if_pos e1] at h
    rw [e1] at g5 ⊢
    refine s5_readValue_79 (by omega) (am_ow hk.1) (fun q => absurd q (by decide)) (fun _ Q' hK' => ?_)
    rw [wr_of (by omega) (by omega)]
    refine ct_needNumber (I := I5) (t := tP tp n t) (lo := 0) (hi := K - 1) (room := 100000000) (by omega) (by omega) (by omega) (by omega) hB (hs f5) hk g5 ht.P fun I6 f6 g6 => hK' _ _ ?_
    have f6 : ∀ x, x ≠ 76 → I6 x = I x := fun x hx => (f6 x hx).trans (f5 x hx)
    exact s5_readValue_94 (by omega) (am_ow hq.1) fun Q' hK' => ct_qadd (I := I6) hq (hC.rd f6) fun I7 f7 r7 c7 => hK' _ (s5_readValue_97 (s5_readValue_169 (h I7 ((QF.rd f6).tr f7) (g6.qf r7) c7)))
  rw [if_neg e1] at h
  rw [eq_false_of_ne_true e1] at g5 ⊢
  clear e1
  refine s5_readValue_79 (by omega) (am_ow hk.1) (fun _ Q' hK' => ct_skipWord (I := I5) (t := t) hz (by omega) (by decide) hB (hs f5) hk g5 ht fun I6 f6 g6 => hK' _ _ ?_) (fun q => absurd rfl q)
  have f6 : ∀ x, x ≠ 76 → I6 x = I x := fun x hx => (f6 x hx).trans (f5 x hx)
  clear f5 g5
  by_cases e1 : iW tp n t (sby 40) = true
  · rw [if_pos e1] at h
    rw [e1] at g6 ⊢
    refine s5_readValue_106 (by omega) (am_ow hk.1) (fun q => absurd q (by decide)) (fun _ Q' hK' => ?_)
    rw [wr_of (by omega) (by omega)]
    refine ct_needNumber (I := I6) (t := tP tp n t) (lo := 0) (hi := K - 1) (room := 100000000) (by omega) (by omega) (by omega) (by omega) hB (hs f6) hk g6 ht.P fun I7 f7 g7 => hK' _ _ ?_
    have f7 : ∀ x, x ≠ 76 → I7 x = I x := fun x hx => (f7 x hx).trans (f6 x hx)
    exact s5_readValue_121 (by omega) (am_ow hq.1) fun Q' hK' => ct_qadd (I := I7) hq (hC.rd f7) fun I8 f8 r8 c8 => hK' _ (s5_readValue_124 (s5_readValue_169 (h I8 ((QF.rd f7).tr f8) (g7.qf r8) c8)))
  rw [if_neg e1] at h
  rw [eq_false_of_ne_true e1] at g6 ⊢
  clear e1
  refine s5_readValue_106 (by omega) (am_ow hk.1) (fun _ Q' hK' => ct_skipWord (I := I6) (t := t) hz (by omega) (by decide) hB (hs f6) hk g6 ht fun I7 f7 g7 => hK' _ _ ?_) (fun q => absurd rfl q)
  have f7 : ∀ x, x ≠ 76 → I7 x = I x := fun x hx => (f7 x hx).trans (f6 x hx)
  clear f6 g6
  by_cases e1 : iW tp n t (sby 41) = true
  · rw [if_pos e1] at h
    rw [e1] at g7 ⊢
    refine s5_readValue_133 (by omega) (am_ow hk.1) (fun q => absurd q (by decide)) (fun _ Q' hK' => ?_)
    rw [wr_of (by omega) (by omega)]
    refine ct_needNumber (I := I7) (t := tP tp n t) (lo := 0) (hi := K - 1) (room := 100000000) (by omega) (by omega) (by omega) (by omega) hB (hs f7) hk g7 ht.P fun I8 f8 g8 => hK' _ _ ?_
    have f8 : ∀ x, x ≠ 76 → I8 x = I x := fun x hx => (f8 x hx).trans (f7 x hx)
    exact s5_readValue_148 (by omega) (am_ow hq.1) fun Q' hK' => ct_qadd (I := I8) hq (hC.rd f8) fun I9 f9 r9 c9 => hK' _ (s5_readValue_151 (s5_readValue_169 (h I9 ((QF.rd f8).tr f9) (g8.qf r9) c9)))
  rw [if_neg e1] at h
  rw [eq_false_of_ne_true e1] at g7 ⊢
  clear e1
  refine s5_readValue_133 (by omega) (am_ow hk.1) (fun _ Q' hK' => ct_needNumber (I := I7) (t := t) (lo := 0) (hi := 9999) (room := 100000000) (by omega) (by omega) (by omega) (by omega) hB (hs f7) hk g7 ht fun I8 f8 g8 => hK' _ _ ?_) (fun q => absurd rfl q)
  have f8 : ∀ x, x ≠ 76 → I8 x = I x := fun x hx => (f8 x hx).trans (f7 x hx)
  exact s5_readValue_166 (by omega) (am_ow hq.1) fun Q' hK' => ct_qadd (I := I8) hq (hC.rd f8) fun I9 f9 r9 c9 => hK' _ (s5_readValue_169 (h I9 ((QF.rd f8).tr f9) (g8.qf r9) c9))
theorem ct_readComparison {I : Nat → Nat → Int} {tp : Nat → Int} {n : Nat} {t : TS} {c : QC} {K : Int} (hz : SZ G) (hd : 7 ≤ dp) (hB : TpB tp) (hT : Tb I tp n) (hk : Rk (I, Z)) (hq : Qu (I, Z) 78) (hK : 0 ≤ K ∧ K ≤ 3) (hR : RdC I tp n t) (ht : Tk n t) (hC : CdV I c) (h : ∀ I' : Nat → Nat → Int, QF I I' → RdC I' tp n (pC tp n K t).1 → CdV I' (c ++ (pC tp n K t).2) → Q (.inl none) (I', Z)) : T G dp 0 0 M5_readComparison [rV (some 78), rV (some 76), iV K] (I, Z) Q := by
  unfold pC at h
  dsimp only at h
  rw [← List.append_assoc, ← List.append_assoc] at h
  refine T5_readComparison (s5_readComparison_0 (by omega) (am_ow hq.1) fun Q' hK' => ct_readValue (I := I) hz (by omega) hB hT hk hq hK hR ht hC fun I1 f1 g1 c1 => hK' _ ?_)
  have t1 : Tk n (pV tp n K t).1 := ht.V
  have last : ∀ (I2 : Nat → Nat → Int) (op : Int), (pOp tp n (pV tp n K t).1).2 = op → QF I I2 → RdC I2 tp n (pOp tp n (pV tp n K t).1).1 → CdV I2 (c ++ (pV tp n K t).2) → X G dp 0 0 M5_readComparison 45 [some (rV (some 78)), some (rV (some 76)), some (iV K), some (iV op)] [] (I2, Z) Q := by
    intro I2 op ho f2 g2 c2
    refine s5_readComparison_45 (by omega) (am_ow hq.1) fun Q' hK' => ct_readValue (I := I2) hz (by omega) hB (hT.qf f2) hk hq hK g2 t1.O c2 fun I3 f3 g3 c3 => hK' _ ?_
    refine s5_readComparison_51 (by omega) (am_ow hq.1) fun Q' hK' => ct_qadd (I := I3) hq c3 fun I4 f4 r4 c4 => hK' _ (s5_readComparison_57 (h I4 ((f2.tr f3).tr f4) (g3.qf r4) ?_))
    rw [ho]
    exact c4
  refine s5_readComparison_6 (by omega) (am_ow hk.1) fun Q' hK' => ct_skipSign (I := I1) (t := (pV tp n K t).1) (c := 60) (by omega) (by omega) hB (hT.qf f1) hk g1 t1 fun I2 f2 g2 => hK' _ _ ?_
  unfold pOp at last
  by_cases e1 : iS tp n (pV tp n K t).1 60 = true
  · rw [if_pos e1] at last
    rw [e1] at g2 ⊢
    exact s5_readComparison_15 (by omega) (am_ow hk.1) (fun q => absurd q (by decide)) (fun _ => last I2 6 rfl (f1.tr (QF.rd f2)) g2 (c1.rd f2))
  rw [if_neg e1] at last
  rw [eq_false_of_ne_true e1] at g2 ⊢
  refine s5_readComparison_15 (by omega) (am_ow hk.1) (fun _ Q' hK' => ct_skipSign (I := I2) (t := (pV tp n K t).1) (c := 62) (by omega) (by omega) hB (hT.qf (f1.tr (QF.rd f2))) hk g2 t1 fun I3 f3 g3 => hK' _ _ ?_) (fun q => absurd rfl q)
  have f13 := (f1.tr (QF.rd f2)).tr (QF.rd f3)
  have c3 := (c1.rd f2).rd f3
  by_cases e2 : iS tp n (pV tp n K t).1 62 = true
  · rw [if_pos e2] at last
    rw [e2] at g3 ⊢
    exact s5_readComparison_30 (by omega) (am_ow hk.1) (fun q => absurd q (by decide)) (fun _ => last I3 8 rfl f13 g3 c3)
  rw [if_neg e2] at last
  rw [eq_false_of_ne_true e2] at g3 ⊢
  exact s5_readComparison_30 (by omega) (am_ow hk.1) (fun _ Q' hK' => ct_needSign (I := I3) (t := (pV tp n K t).1) (c := 61) (by omega) (by omega) hB (hT.qf f13) hk g3 t1 fun I4 f4 g4 => hK' _ (last I4 7 rfl (f13.tr (QF.rd f4)) g4 (c3.rd f4))) (fun q => absurd rfl q)
end
