/-! NUMBERS, WORDS, SIGNS of the reference -/
def tH (tp : Nat → Int) (n : Nat) (t : TS) (lo hi : Int) : TS := if iN tp n t = true then (if nv tp n t.1 < lo ∨ hi < nv tp n t.1 then tF t 2 else t) else tF t 1
theorem tN_H {tp : Nat → Int} {n : Nat} {t : TS} {lo hi room : Int} (h : hi ≤ room) : tN tp n t lo hi room = tP tp n (tH tp n t lo hi) := by
  unfold tN tH
  by_cases e : iN tp n t = true
  · rw [if_pos e, if_pos e]
    by_cases e2 : nv tp n t.1 < lo ∨ hi < nv tp n t.1
    · rw [if_pos e2, if_pos e2, tP_no (tF_w (by decide))]
    · rw [if_neg e2, if_neg e2, if_neg (by omega)]
  · rw [if_neg e, if_neg e, tP_no (tF_w (by decide))]
theorem tH_v {tp : Nat → Int} {n : Nat} {t : TS} {lo hi : Int} (h : (tH tp n t lo hi).2.1 = 0) : t.2.1 = 0 ∧ kd tp n t.1 = 2 ∧ lo ≤ nv tp n t.1 ∧ nv tp n t.1 ≤ hi ∧ tH tp n t lo hi = t := by
  unfold tH at h ⊢
  by_cases e : iN tp n t = true
  · rw [if_pos e] at h ⊢
    by_cases e2 : nv tp n t.1 < lo ∨ hi < nv tp n t.1
    · rw [if_pos e2] at h; exact absurd h (tF_w (by decide))
    · rw [if_neg e2]
      have e4 := of_decide_eq_true e
      exact ⟨e4.1, e4.2, by omega, by omega, rfl⟩
  · rw [if_neg e] at h; exact absurd h (tF_w (by decide))
theorem Tk.H {tp : Nat → Int} {n : Nat} {t : TS} {lo hi : Int} (h : Tk n t) : Tk n (tH tp n t lo hi) := by
  unfold tH
  by_cases e : iN tp n t = true
  · rw [if_pos e]
    by_cases e2 : nv tp n t.1 < lo ∨ hi < nv tp n t.1
    · rw [if_pos e2]; exact h.F ⟨by decide, by decide⟩
    · rw [if_neg e2]; exact h
  · rw [if_neg e]; exact h.F ⟨by decide, by decide⟩
theorem dstep7 {V c : Int} (h : 0 ≤ V) (h1 : 48 ≤ c) (h2 : c ≤ 57) : min 10000000 (wr (wr (wr (10 * min 10000000 V) + c) - 48)) = min 10000000 (V * 10 + c - 48) := by
  rw [wr_of (z := 10 * min 10000000 V) (by omega) (by omega), wr_of (z := 10 * min 10000000 V + c) (by omega) (by omega), wr_of (by omega) (by omega)]
  omega
section
variable {G : am_G} {dp : Nat} {Q : am_Q} {Z : (Nat → Nat → Option Nat) × (Nat → Nat × Nat) × Nat × Bool} {x y : Nat}
theorem r_pass {I : Nat → Nat → Int} {tp : Nat → Int} {n : Nat} {t : TS} (hd : 2 ≤ dp) (hB : TpB tp) (hT : TbM I tp n) (hM : Md (I, Z)) (hR : RdM I tp n t) (ht : Tk n t) (h : ∀ I' : Nat → Nat → Int, NF I I' → RdM I' tp n (tP tp n t) → Q (.inl none) (I', Z)) : T G dp 0 0 M9_pass [rV (some 103)] (I, Z) Q := by
  obtain ⟨r1, r2, r3, r4, r5, r6, r7⟩ := hR
  refine T9_pass (s9_pass_0 (by omega) (am_ow hM.1) (fun q => s9_pass_11 ?_) (fun q Q' hK => ?_))
  · have q : ¬ I 103 30 = 0 := q
    refine h I NF.rfl ?_
    rw [tP_no (by rw [← r6]; exact q)]
    exact ⟨r1, r2, r3, r4, r5, r6, r7⟩
  · have q : I 103 30 = 0 := q
    have w0 : t.2.1 = 0 := r6.symm.trans q
    refine r_step (n := n) (tp := tp) (by omega) hB hT hM r1 r2 (en_b ht.1).2 fun I' g1 g2 => hK _ (s9_pass_11 (h I' g1 ?_))
    unfold tP
    rw [if_pos w0]
    exact ⟨g2.1, g2.2.1, g2.2.2.1, g2.2.2.2.1, g2.2.2.2.2.1, by rw [g2.2.2.2.2.2.1]; exact r6, fun z => absurd w0 z⟩
theorem r_wrong {I : Nat → Nat → Int} {tp : Nat → Int} {n : Nat} {t : TS} {k : Int} (hM : Md (I, Z)) (hR : RdM I tp n t) (h : ∀ I' : Nat → Nat → Int, NF I I' → RdM I' tp n (tF t k) → Q (.inl none) (I', Z)) : T G dp 0 0 M9_wrong [rV (some 103), iV k] (I, Z) Q := by
  obtain ⟨r1, r2, r3, r4, r5, r6, r7⟩ := hR
  refine T9_wrong (s9_wrong_0 hM.1 (fun q => h _ ((NF.rfl.u (by omega)).u (by omega)) ?_) (fun q => h I NF.rfl ?_))
  · have q : I 103 30 = 0 := q
    unfold tF
    rw [if_pos (r6.symm.trans q)]
    dsimp only
    refine ⟨?_, ?_, ?_, ?_, ?_, ?_, fun _ => ?_⟩
    · rw [u2n (by omega), u2n (by omega)]; exact r1
    · rw [u2n (by omega), u2n (by omega)]; exact r2
    · rw [u2n (by omega), u2n (by omega)]; exact r3
    · rw [u2n (by omega), u2n (by omega)]; exact r4
    · rw [u2n (by omega), u2n (by omega)]; exact r5
    · rw [u2n (by omega), u2_at]
    · rw [u2_at, u2n (by omega)]; exact r4
  · have q : ¬ I 103 30 = 0 := q
    rw [tF_no (by rw [← r6]; exact q)]
    exact ⟨r1, r2, r3, r4, r5, r6, r7⟩
theorem r_isSign {I : Nat → Nat → Int} {tp : Nat → Int} {n : Nat} {t : TS} {c : Int} (hT : TbM I tp n) (hM : Md (I, Z)) (hR : RdM I tp n t) (h : Q (.inl (some (iV (b01 (iS tp n t c))))) (I, Z)) : T G dp 0 0 M9_isSign [rV (some 103), iV c] (I, Z) Q := by
  obtain ⟨r1, r2, r3, r4, r5, r6, r7⟩ := hR
  have hn := hT.1
  have lt : I 103 27 = 3 → t.1 < n := fun q => kd_in (tp := tp) (by rw [← r3, q]; decide)
  have eb : I 103 27 = 3 → (I, Z).1 121 ((I, Z).1 103 28).toNat = tp t.1 := fun q => by
    show I 121 (I 103 28).toNat = tp t.1
    rw [r4, Int.toNat_natCast]
    exact hT.2 _ (lt q)
  unfold iS b01 at h
  refine T9_isSign (s9_isSign_0 (am_ow hM.1) hM.tape.1 (am_rw hM.tape.2) (fun q => ?_) (fun _ q => ?_) (fun _ q q3 => ?_) (fun q q2 q3 => ?_) (fun _ _ => ?_) (fun _ q => ?_))
  · rw [decide_eq_false (fun z => q (r6.trans z.1)), if_neg (by decide)] at h; exact h
  · rw [decide_eq_false (fun z => q (r3.trans z.2.1)), if_neg (by decide)] at h; exact h
  · rw [eb q] at q3
    rw [decide_eq_false (fun z => q3 z.2.2), if_neg (by decide)] at h; exact h
  · rw [eb q2] at q3
    rw [decide_eq_true ⟨r6.symm.trans q, r3.symm.trans q2, q3⟩, if_pos rfl] at h; exact h
  · show 0 ≤ I 103 28
    omega
  · have := lt q
    show I 103 28 < ((600 : Nat) : Int)
    omega
theorem r_must {I : Nat → Nat → Int} {tp : Nat → Int} {n : Nat} {t : TS} {c : Int} (hd : 3 ≤ dp) (hB : TpB tp) (hT : TbM I tp n) (hM : Md (I, Z)) (hR : RdM I tp n t) (ht : Tk n t) (h : ∀ I' : Nat → Nat → Int, NF I I' → RdM I' tp n (tS tp n t c) → Q (.inl none) (I', Z)) : T G dp 0 0 M9_must [rV (some 103), iV c] (I, Z) Q := by
  refine T9_must (s9_must_0 (by omega) (am_ow hM.1) fun Q' hK => r_isSign (n := n) (tp := tp) (t := t) hT hM hR (hK _ _ ?_))
  unfold tS at h
  by_cases e : iS tp n t c = true
  · rw [if_pos e] at h
    rw [e]
    exact s9_must_5 (by omega) (am_ow hM.1) (fun _ => s9_must_13 (by omega) (am_ow hM.1) fun Q' hK => r_pass (I := I) (t := t) (by omega) hB hT hM hR ht fun I' g1 g2 => hK _ (s9_must_17 (h I' g1 g2))) (fun q => absurd q (by decide))
  · rw [if_neg e] at h
    rw [eq_false_of_ne_true e]
    refine s9_must_5 (by omega) (am_ow hM.1) (fun q => absurd rfl q) (fun _ Q' hK => r_wrong (I := I) (t := t) hM hR fun I1 f1 g1 => hK _ ?_)
    refine s9_must_13 (by omega) (am_ow hM.1) fun Q' hK => r_pass (I := I1) (t := tF t 1) (by omega) hB (hT.nf f1) hM g1 (ht.F ⟨by decide, by decide⟩) fun I' g1 g2 => hK _ (s9_must_17 (h I' (f1.tr g1) ?_))
    rw [tP_no (tF_w (by decide))] at g2
    exact g2
theorem lp_rnum {I : Nat → Nat → Int} {tp : Nat → Int} {n : Nat} {t : TS} {lo hi : Int} (hd : 1 ≤ dp) (hhi : hi < 10000000) (hlo : lo ≤ 10000000) (hT : TbM I tp n) (hM : Md (I, Z)) (hR : RdM I tp n t) (hN : iN tp n t = true) (ht : Tk n t) (h : ∀ (I' : Nat → Nat → Int) (v : Int), NF I I' → RdM I' tp n (tH tp n t lo hi) → 0 ≤ v ∧ v ≤ 10000000 → ((tH tp n t lo hi).2.1 = 0 → v = nv tp n t.1) → Q (.inl (some (iV v))) (I', Z)) : ∀ (u p : Nat), en tp n t.1 - p = u → t.1 ≤ p → p ≤ en tp n t.1 → 0 ≤ vl tp t.1 (p - t.1) → X G dp x y M9_numberHere 28 [some (rV (some 103)), some (iV lo), some (iV hi), some (iV (min 10000000 (vl tp t.1 (p - t.1)))), some (iV p)] [] (I, Z) Q := by
  have hR0 := hR
  obtain ⟨r1, r2, r3, r4, r5, r6, r7⟩ := hR
  have hn := hT.1
  have e4 := of_decide_eq_true hN
  have w0 : (I, Z).1 103 30 = 0 := r6.trans e4.1
  have hen := en_b (tp := tp) ht.1
  have v0 := nv_nn e4.2
  have hbn := kd_in (tp := tp) (n := n) (b := t.1) (by omega)
  have h2 : ¬ sml (tp t.1) = true := fun z => by have := (kd_t1 hbn z).1; omega
  have h3 : fig (tp t.1) = true := Decidable.byContradiction fun z => by have := (kd_t3 hbn h2 z).1; omega
  have k2 := kd_t2 hbn h2 h3
  have hF : ∀ k, t.1 ≤ k → k < en tp n t.1 → k < n ∧ fig (tp k) = true := fun k a b => by rw [k2.2] at b; exact rn_all (n := n) _ t.1 rfl k a b
  intro u
  induction u with
  | zero =>
    intro p hu hp hpe hV
    have pe : p = en tp n t.1 := by omega
    have ev : vl tp t.1 (p - t.1) = nv tp n t.1 := by rw [pe]; rfl
    rw [ev]
    refine s9_numberHere_28 hd (am_ow hM.1) hM.tape.1 (am_rw hM.tape.2) (fun q => absurd w0 q) (fun q => absurd w0 q) (fun _ _ q => absurd w0 q) (fun _ _ _ Q' hK => md_isIn (hK _ _ ?_)) (fun _ q => absurd (show I 103 29 ≤ p by omega) q) (fun _ q => absurd (show I 103 29 ≤ p by omega) q) (fun _ q => absurd (show I 103 29 ≤ p by omega) q)
    unfold tH at h
    rw [if_pos hN] at h
    by_cases z : nv tp n t.1 < lo ∨ hi < nv tp n t.1
    · rw [if_pos z] at h
      rw [if_neg (by omega)]
      refine s9_numberHere_85 hd (am_ow hM.1) (fun q => absurd rfl q) (fun _ Q' hK => r_wrong (I := I) (t := t) hM hR0 fun I' g1 g2 => hK _ (s9_numberHere_93 (h I' _ g1 g2 (by omega) (fun q => absurd q (tF_w (by decide))))))
    · rw [if_neg z] at h
      rw [if_pos (by omega)]
      exact s9_numberHere_85 hd (am_ow hM.1) (fun _ => s9_numberHere_93 (h I _ NF.rfl hR0 (by omega) (fun _ => by omega))) (fun q => absurd q (by decide))
  | succ u ih =>
    intro p hu hp hpe hV
    have hf := hF p hp (by omega)
    have hfv := fig_t.mp hf.2
    have e5 : (I, Z).1 103 29 = (en tp n t.1 : Nat) := r5
    have eb : (I, Z).1 121 ((p : Int)).toNat = tp p := by
      show I 121 ((p : Int)).toNat = tp p
      rw [Int.toNat_natCast]
      exact hT.2 p hf.1
    refine s9_numberHere_28 hd (am_ow hM.1) hM.tape.1 (am_rw hM.tape.2) (fun q => absurd w0 q) (fun q => absurd w0 q) (fun _ q => absurd q (by omega)) (fun _ q => absurd q (by omega)) (fun _ _ => ?_) (fun _ _ => by omega) (fun _ _ => by omega)
    have a6 : 0 ≤ vl tp t.1 (p + 1 - t.1) := by
      rw [vl_s hp]
      omega
    rw [eb, dstep7 hV hfv.1 hfv.2, ← vl_s hp, wr_s (by omega)]
    exact ih (p + 1) (by omega) (by omega) (by omega) a6
theorem r_numberHere {I : Nat → Nat → Int} {tp : Nat → Int} {n : Nat} {t : TS} {lo hi : Int} (hd : 1 ≤ dp) (hhi : hi < 10000000) (hlo : lo ≤ 10000000) (hT : TbM I tp n) (hM : Md (I, Z)) (hR : RdM I tp n t) (ht : Tk n t) (h : ∀ (I' : Nat → Nat → Int) (v : Int), NF I I' → RdM I' tp n (tH tp n t lo hi) → 0 ≤ v ∧ v ≤ 10000000 → ((tH tp n t lo hi).2.1 = 0 → v = nv tp n t.1) → Q (.inl (some (iV v))) (I', Z)) : T G dp 0 0 M9_numberHere [rV (some 103), iV lo, iV hi] (I, Z) Q := by
  have hR0 := hR
  obtain ⟨r1, r2, r3, r4, r5, r6, r7⟩ := hR
  have fin : ∀ (I1 : Nat → Nat → Int), NF I I1 → ¬ I1 103 30 = 0 → RdM I1 tp n (tH tp n t lo hi) → (tH tp n t lo hi).2.1 ≠ 0 → X G dp 0 0 M9_numberHere 20 [some (rV (some 103)), some (iV lo), some (iV hi), none, none] [] (I1, Z) Q := fun I1 f1 q g hw => by
    refine s9_numberHere_20 (am_ow hM.1) ?_
    exact s9_numberHere_28 hd (am_ow hM.1) hM.tape.1 (am_rw hM.tape.2) (fun _ _ => s9_numberHere_93 (h I1 0 f1 g (by omega) (fun z => absurd z hw))) (fun z z2 => absurd z2 z) (fun z => absurd z q) (fun z => absurd z q) (fun z => absurd z q) (fun z => absurd z q) (fun z => absurd z q)
  refine T9_numberHere (s9_numberHere_0 hd (am_ow hM.1) (fun q => ?_) (fun q q2 => ?_) (fun q q2 Q' hK => ?_))
  · have q : ¬ I 103 30 = 0 := q
    have w : t.2.1 ≠ 0 := by rw [← r6]; exact q
    have e : tH tp n t lo hi = t := by unfold tH; rw [iN_no w, if_neg (by decide), tF_no w]
    exact fin I NF.rfl q (by rw [e]; exact hR0) (by rw [e]; exact w)
  · have q : I 103 30 = 0 := q
    have q2 : I 103 27 = 2 := q2
    have hN : iN tp n t = true := decide_eq_true ⟨r6.symm.trans q, r3.symm.trans q2⟩
    refine s9_numberHere_20 (am_ow hM.1) ?_
    have e8 : (I, Z).1 103 28 = t.1 := r4
    have := lp_rnum (G := G) (Q := Q) (Z := Z) (x := 0) (y := 0) (I := I) (t := t) (lo := lo) (hi := hi) hd hhi hlo hT hM hR0 hN ht h _ t.1 rfl (Nat.le_refl _) (en_b ht.1).1 (by rw [Nat.sub_self]; exact Int.le_refl _)
    rw [Nat.sub_self] at this
    rw [e8]
    exact this
  · have q : I 103 30 = 0 := q
    have q2 : ¬ I 103 27 = 2 := q2
    have hN : ¬ iN tp n t = true := fun z => q2 (r3.trans (of_decide_eq_true z).2)
    have e : tH tp n t lo hi = tF t 1 := by unfold tH; rw [if_neg hN]
    refine r_wrong (I := I) (t := t) hM hR0 fun I1 f1 g1 => hK _ (fin I1 f1 ?_ (by rw [e]; exact g1) (by rw [e]; exact tF_w (by decide)))
    rw [g1.2.2.2.2.2.1]
    exact tF_w (by decide)
theorem r_number {I : Nat → Nat → Int} {tp : Nat → Int} {n : Nat} {t : TS} {lo hi : Int} (hd : 3 ≤ dp) (hhi : hi < 10000000) (hlo : lo ≤ 10000000) (hB : TpB tp) (hT : TbM I tp n) (hM : Md (I, Z)) (hR : RdM I tp n t) (ht : Tk n t) (h : ∀ (I' : Nat → Nat → Int) (v : Int), NF I I' → RdM I' tp n (tN tp n t lo hi 100000000) → 0 ≤ v ∧ v ≤ 10000000 → ((tN tp n t lo hi 100000000).2.1 = 0 → v = tV tp n t lo hi 100000000) → Q (.inl (some (iV v))) (I', Z)) : T G dp 0 0 M9_number [rV (some 103), iV lo, iV hi] (I, Z) Q := by
  rw [tN_H (by omega)] at h
  refine T9_number (s9_number_0 (by omega) (am_ow hM.1) fun Q' hK => r_numberHere (t := t) (by omega) hhi hlo hT hM hR ht fun I1 v f1 g1 hv he => hK _ _ ?_)
  refine s9_number_6 (by omega) (am_ow hM.1) fun Q' hK => r_pass (I := I1) (t := tH tp n t lo hi) (by omega) hB (hT.nf f1) hM g1 ht.H fun I' f2 g2 => hK _ (s9_number_11 (h I' v (f1.tr f2) g2 hv fun z => ?_))
  rw [tP_w] at z
  rw [he z]
  have q := tH_v z
  unfold tV
  exact (if_pos ⟨decide_eq_true ⟨q.1, q.2.1⟩, q.2.2.1, q.2.2.2.1, by omega⟩).symm
theorem r_opens {I : Nat → Nat → Int} {tp : Nat → Int} {n : Nat} (hd : 2 ≤ dp) (hB : TpB tp) (hT : TbM I tp n) (hM : Md (I, Z)) (h : ∀ I' : Nat → Nat → Int, (∀ x, x ≠ 103 → I' x = I x) → (∀ k, k < 25 ∨ k = 32 ∨ 33 < k → I' 103 k = I 103 k) → I' 103 33 = 0 → RdM I' tp n (rn blk tp n 0, 0, -1) → Q (.inl none) (I', Z)) : T G dp 0 0 M9_opens [rV (some 103), iV n] (I, Z) Q := by
  refine T9_opens (s9_opens_0 (by omega) hM.1 fun Q' hK => ?_)
  refine r_step (n := n) (tp := tp) (e := 0) (by omega) hB ⟨hT.1, fun j hj => ?_⟩ hM ?_ ?_ (Nat.zero_le _) (fun I' g1 g2 => hK _ (s9_opens_24 (h I' (fun x hx => ?_) (fun k hk => ?_) ?_ ?_)))
  · rw [u2r (by omega), u2r (by omega), u2r (by omega), u2r (by omega)]; exact hT.2 j hj
  · rw [u2n (by omega), u2n (by omega), u2n (by omega), u2_at]
  · rw [u2n (by omega), u2n (by omega), u2_at]; rfl
  · rw [g1.1 x hx, u2r hx, u2r hx, u2r hx, u2r hx]
  · rw [g1.2 k (by omega), u2n (by omega), u2n (by omega), u2n (by omega), u2n (by omega)]
  · rw [g1.2 33 (by omega), u2_at]
  · have a1 : (u2 (u2 (u2 (u2 I 103 25 (n : Int)) 103 26 0) 103 30 0) 103 33 0) 103 30 = 0 := by rw [u2n (by omega), u2_at]
    dsimp only at g2
    rw [a1] at g2
    exact ⟨g2.1, g2.2.1, g2.2.2.1, g2.2.2.2.1, g2.2.2.2.2.1, g2.2.2.2.2.2.1, fun z => absurd rfl z⟩
/-- the word, once it is as long as the token -/
theorem lp_risWord {I : Nat → Nat → Int} {tp : Nat → Int} {n j : Nat} {t : TS} (hz : SZ G) (hd : 4 ≤ dp) (hj : sby j ≠ []) (hT : TbM I tp n) (hM : Md (I, Z)) (hR : RdM I tp n t) (he : t.1 + (sby j).length ≤ n) (h : Q (.inl (some (iV (if ∀ k, k < (sby j).length → tp (t.1 + k) = (sby j).getD k 0 then 1 else 0)))) (I, Z)) : ∀ (u k : Nat) (is : Int), (sby j).length - k = u → k ≤ (sby j).length → is = (if ∀ i, i < k → tp (t.1 + i) = (sby j).getD i 0 then 1 else 0) → X G dp x y M9_isWord 39 [some (rV (some 103)), some (sV j), some (iV is), some (iV k)] [] (I, Z) Q := by
  obtain ⟨r1, r2, r3, r4, r5, r6, r7⟩ := hR
  have hn := hT.1
  have hl8 := sby_len j
  have out : ∀ (k : Nat) (is : Int), k ≤ (sby j).length → is = (if ∀ i, i < k → tp (t.1 + i) = (sby j).getD i 0 then 1 else 0) → (is = 0 ∨ k = (sby j).length) → X G dp x y M9_isWord 82 [some (rV (some 103)), some (sV j), some (iV is), some (iV k)] [] (I, Z) Q := by
    intro k is hk8 hi hx
    have e : is = (if ∀ k, k < (sby j).length → tp (t.1 + k) = (sby j).getD k 0 then 1 else 0) := by
      rcases hx with hx | hx
      · rw [hx] at hi ⊢
        by_cases z : ∀ i, i < k → tp (t.1 + i) = (sby j).getD i 0
        · rw [if_pos z] at hi; exact absurd hi (by decide)
        · rw [if_neg (fun y => z fun i hi9 => y i (by omega))]
      · subst hx; exact hi
    have h01 : is = 0 ∨ is = 1 := by
      rw [hi]
      by_cases z : ∀ i, i < k → tp (t.1 + i) = (sby j).getD i 0
      · rw [if_pos z]; exact Or.inr rfl
      · rw [if_neg z]; exact Or.inl rfl
    refine X_iload_n dX9_isWord_82 rfl rfl ?_
    rw [← e] at h
    exact X_zret dX9_isWord_83 rfl h01 h
  intro u
  induction u with
  | zero =>
    intro k is hu hk8 hi
    refine X_iload_n dX9_isWord_39 rfl rfl ?_
    refine X_if_eq dX9_isWord_40 (tgt := 82) rfl (fun q => out k is hk8 hi (Or.inl q)) (fun _ => ?_)
    refine X_iload_n dX9_isWord_43 rfl rfl ?_
    refine X_saload_n dX9_isWord_44 rfl rfl ?_
    refine X_sLen hz hj dX9_isWord_45 ml_9_362 (by simp [am_wd]) rfl (by omega) ?_
    exact X_icmp_ge dX9_isWord_48 (tgt := 82) rfl (fun _ => out k is hk8 hi (Or.inr (by omega))) (fun q => absurd (show ((sby j).length : Int) ≤ k by omega) q)
  | succ u ih =>
    intro k is hu hk8 hi
    have hk9 : k < (sby j).length := by omega
    have e8 : (I, Z).1 103 28 = t.1 := r4
    refine X_iload_n dX9_isWord_39 rfl rfl ?_
    refine X_if_eq dX9_isWord_40 (tgt := 82) rfl (fun q => out k is hk8 hi (Or.inl q)) (fun h0 => ?_)
    have hall : ∀ i, i < k → tp (t.1 + i) = (sby j).getD i 0 := Decidable.byContradiction fun z => by rw [if_neg z] at hi; exact h0 hi
    refine X_iload_n dX9_isWord_43 rfl rfl ?_
    refine X_saload_n dX9_isWord_44 rfl rfl ?_
    refine X_sLen hz hj dX9_isWord_45 ml_9_362 (by simp [am_wd]) rfl (by omega) ?_
    refine X_icmp_ge dX9_isWord_48 (tgt := 82) rfl (fun q => absurd q (by omega)) (fun _ => ?_)
    refine X_saload_n dX9_isWord_51 rfl rfl ?_
    refine X_iload_n dX9_isWord_52 rfl rfl ?_
    refine X_sAt hz hj dX9_isWord_53 ml_9_367 (by simp) rfl hd hk9 ?_
    refine X_aload_n dX9_isWord_56 rfl rfl ?_
    refine X_getP dX9_isWord_57 fl_9_62 rfl (am_ow hM.1) ?_
    refine am_ptr hM.tape.1 ?_
    refine X_aload_n dX9_isWord_60 rfl rfl ?_
    refine X_getI dX9_isWord_61 fl_9_336 (by decide) (am_ow hM.1) ?_
    refine X_iload_n dX9_isWord_64 rfl rfl ?_
    refine X_iadd dX9_isWord_65 ?_
    rw [e8, wr_of (by omega) (by omega)]
    refine X_iald dX9_isWord_66 (am_rw hM.tape.2) (by omega) (by omega) ?_
    rw [show ((t.1 : Int) + (k : Int)).toNat = t.1 + k by omega, show (I, Z).1 121 (t.1 + k) = tp (t.1 + k) from hT.2 _ (by omega)]
    have nxt9 : ∀ is' : Int, is' = (if (sby j).getD k 0 = tp (t.1 + k) then 1 else 0) → X G dp x y M9_isWord 76 [some (rV (some 103)), some (sV j), some (iV is'), some (iV k)] [] (I, Z) Q := fun is' e => by
      refine X_iinc dX9_isWord_76 rfl ?_
      refine X_goto dX9_isWord_79 (tgt := 39) rfl ?_
      rw [wr_s (by omega)]
      refine ih (k + 1) is' (by omega) (by omega) ?_
      rw [e]
      by_cases z : (sby j).getD k 0 = tp (t.1 + k)
      · rw [if_pos z, if_pos]
        intro i hi9
        by_cases z2 : i = k
        · rw [z2]; exact z.symm
        · exact hall i (by omega)
      · rw [if_neg z, if_neg]
        exact fun y => z (y k (by omega)).symm
    refine X_icmp_ne dX9_isWord_67 (tgt := 74) rfl (fun q => ?_) (fun q => ?_)
    · refine Y_iconst dX9_isWord_74 (by unfold i32; omega) ?_
      refine X_istore_n dX9_isWord_75 rfl (Nat.le_of_ble_eq_true rfl) ?_
      exact nxt9 0 (by rw [if_neg q])
    · refine Y_iconst dX9_isWord_70 (by unfold i32; omega) ?_
      refine X_goto dX9_isWord_71 (tgt := 75) rfl ?_
      refine X_istore_n dX9_isWord_75 rfl (Nat.le_of_ble_eq_true rfl) ?_
      exact nxt9 1 (by rw [if_pos q])
theorem r_isWord {I : Nat → Nat → Int} {tp : Nat → Int} {n j : Nat} {t : TS} (hz : SZ G) (hd : 4 ≤ dp) (hj : sby j ≠ []) (hT : TbM I tp n) (hM : Md (I, Z)) (hR : RdM I tp n t) (ht : Tk n t) (h : Q (.inl (some (iV (b01 (iW tp n t (sby j)))))) (I, Z)) : T G dp 0 0 M9_isWord [rV (some 103), sV j] (I, Z) Q := by
  have hR0 := hR
  obtain ⟨r1, r2, r3, r4, r5, r6, r7⟩ := hR
  have hn := hT.1
  have e30 : (I, Z).1 103 30 = t.2.1 := r6
  have e27 : (I, Z).1 103 27 = kd tp n t.1 := r3
  have e29 : (I, Z).1 103 29 = (en tp n t.1 : Nat) := r5
  have e28 : (I, Z).1 103 28 = t.1 := r4
  have hen := en_b (tp := tp) ht.1
  have hl8 := sby_len j
  unfold iW b01 at h
  have no : ¬ (t.2.1 = 0 ∧ kd tp n t.1 = 1 ∧ en tp n t.1 - t.1 = (sby j).length) → X G dp 0 0 M9_isWord 35 [some (rV (some 103)), some (sV j), none, none] [] (I, Z) Q := fun q => by
    rw [decide_eq_false (fun z => q ⟨z.1, z.2.1, z.2.2.1⟩), if_neg (by decide)] at h
    refine Y_iconst dX9_isWord_35 (by unfold i32; omega) ?_
    refine X_istore_n dX9_isWord_36 rfl (Nat.le_of_ble_eq_true rfl) ?_
    refine Y_iconst dX9_isWord_37 (by unfold i32; omega) ?_
    refine X_istore_n dX9_isWord_38 rfl (Nat.le_of_ble_eq_true rfl) ?_
    refine X_iload_n dX9_isWord_39 rfl rfl ?_
    refine X_if_eq dX9_isWord_40 (tgt := 82) rfl (fun _ => ?_) (fun z => absurd rfl z)
    refine X_iload_n dX9_isWord_82 rfl rfl ?_
    exact X_zret dX9_isWord_83 rfl (Or.inl rfl) h
  refine T9_isWord ?_
  refine X_aload_n dX9_isWord_0 rfl rfl ?_
  refine X_getI dX9_isWord_1 fl_9_350 (by decide) (am_ow hM.1) ?_
  rw [e30]
  refine X_if_ne dX9_isWord_4 (tgt := 35) rfl (fun q => no fun z => q z.1) (fun q => ?_)
  refine X_aload_n dX9_isWord_7 rfl rfl ?_
  refine X_getI dX9_isWord_8 fl_9_338 (by decide) (am_ow hM.1) ?_
  rw [e27]
  refine Y_iconst dX9_isWord_11 (by unfold i32; omega) ?_
  refine X_icmp_ne dX9_isWord_12 (tgt := 35) rfl (fun q => no fun z => q z.2.1) (fun q2 => ?_)
  refine X_saload_n dX9_isWord_15 rfl rfl ?_
  refine X_sLen hz hj dX9_isWord_16 ml_9_362 (by simp) rfl (by omega) ?_
  refine X_aload_n dX9_isWord_19 rfl rfl ?_
  refine X_getI dX9_isWord_20 fl_9_347 (by decide) (am_ow hM.1) ?_
  refine X_aload_n dX9_isWord_23 rfl rfl ?_
  refine X_getI dX9_isWord_24 fl_9_336 (by decide) (am_ow hM.1) ?_
  refine X_isub dX9_isWord_27 ?_
  rw [e29, e28, wr_of (by omega) (by omega)]
  refine X_icmp_ne dX9_isWord_28 (tgt := 35) rfl (fun q3 => no fun z => q3 (by omega)) (fun q3 => ?_)
  have hl : en tp n t.1 - t.1 = (sby j).length := by omega
  refine Y_iconst dX9_isWord_31 (by unfold i32; omega) ?_
  refine X_goto dX9_isWord_32 (tgt := 36) rfl ?_
  refine X_istore_n dX9_isWord_36 rfl (Nat.le_of_ble_eq_true rfl) ?_
  refine Y_iconst dX9_isWord_37 (by unfold i32; omega) ?_
  refine X_istore_n dX9_isWord_38 rfl (Nat.le_of_ble_eq_true rfl) ?_
  refine lp_risWord (n := n) (tp := tp) (t := t) hz hd hj hT hM hR0 (by omega) ?_ _ 0 1 rfl (Nat.zero_le _) (by rw [if_pos]; exact fun i hi => absurd hi (Nat.not_lt_zero _))
  by_cases z : ∀ k, k < (sby j).length → tp (t.1 + k) = (sby j).getD k 0
  · rw [if_pos z]
    rw [decide_eq_true ⟨q, q2, hl, z⟩, if_pos rfl] at h; exact h
  · rw [if_neg z]
    rw [decide_eq_false (fun y => z y.2.2.2), if_neg (by decide)] at h; exact h
end
