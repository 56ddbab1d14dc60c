/-! THE REFERENCE: more questions -/
theorem MaV.same {I I' : Nat → Nat → Int} {R d : Nat → Int} {k : Nat} (h : MaV I R d k) (hR : RV R) (h1 : I' 103 16 = I 103 16) (h2 : ∀ x, 109 ≤ x → x < 118 → I' x = I x) : MaV I' R d k := by
  obtain ⟨a, b, c, e⟩ := h
  refine ⟨by rw [h1]; exact a, b.same fun x p q => h2 x p (by omega), fun r hr => (c r hr).same (fun c hc => by rw [h2 115 (by omega) (by omega)]) (by rw [h2 116 (by omega) (by omega)]), ?_⟩
  rw [h2 117 (by omega) (by omega)]
  exact e
section
variable {G : am_G} {dp : Nat} {Q : am_Q} {R : Nat → Int} {Z : (Nat → Nat → Option Nat) × (Nat → Nat × Nat) × Nat × Bool}
theorem lp_rwcopy {I0 : Nat → Nat → Int} {r b : Nat} {o4 o5 : Option am_V} (hM : Md (I0, Z)) (hr : r < 3) (h : ∀ I' : Nat → Nat → Int, (∀ x, x ≠ 119 → I' x = I0 x) → (∀ c, c < 4 → I' 119 c = I0 115 (4 * r + c)) → ∀ Q' : am_Q, (∀ (z : Int) (m' : am_M), X G dp 0 0 M9_riskWith 53 [some (rV (some 103)), some (iV r), some (iV b), some (iV 4), o4, o5] [iV z, iV r, rV (some 103)] m' Q → Q' (.inl (some (iV z))) m') → T G (dp - 1) 0 0 M9_mistakeAt [rV (some 103), iV b, iV r] (I', Z) Q') (hd : 1 ≤ dp) : ∀ (t k : Nat) (I : Nat → Nat → Int), k + t = 4 → (∀ x, x ≠ 119 → I x = I0 x) → (∀ c, c < k → I 119 c = I0 115 (4 * r + c)) → X G dp 0 0 M9_riskWith 18 [some (rV (some 103)), some (iV r), some (iV b), some (iV k), o4, o5] [] (I, Z) Q := by
  intro t
  induction t with
  | zero =>
    intro k I ht hf h1
    have e : k = 4 := by omega
    subst e
    exact s9_riskWith_18 (n_p1 := 4) (n_p2 := 12) hd (am_ow hM.1) hM.before.1 hM.risks.1 (am_rw hM.risks.2) hM.before.2 (fun _ Q' hK => h I hf h1 Q' hK) (fun c => absurd (by omega) c) (h5 := fun c => absurd (by omega) c) (h6 := fun c => absurd (by omega) c)
  | succ t ih =>
    intro k I ht hf h1
    refine s9_riskWith_18 (n_p1 := 4) (n_p2 := 12) hd (am_ow hM.1) hM.before.1 hM.risks.1 (am_rw hM.risks.2) hM.before.2 (fun c => absurd c (by omega)) (fun _ => ?_) (h5 := fun _ => by rw [ix4 (by omega) (by omega)]; omega) (h6 := fun _ => by rw [ix4 (by omega) (by omega)]; omega)
    rw [wrs (by omega), ix4 (by omega) (by omega), tnc, tnc]
    dsimp only
    refine ih (k + 1) _ (by omega) (fun x hx => by rw [u2r hx]; exact hf x hx) (fun c hc => ?_)
    by_cases e : c = k
    · subst e; rw [u2_at, hf 115 (by omega)]
    · rw [u2n e]; exact h1 c (by omega)
theorem lp_rwback {I0 : Nat → Nat → Int} {r b : Nat} {v : Int} {g : Nat → Int} (hM : Md (I0, Z)) (hr : r < 3) (hg : ∀ c, c < 4 → I0 119 c = g c) (h : ∀ I' : Nat → Nat → Int, (∀ x, x ≠ 115 → I' x = I0 x) → (∀ c, c < 4 → I' 115 (4 * r + c) = g c) → (∀ j, j < 4 * r ∨ 4 * r + 4 ≤ j → I' 115 j = I0 115 j) → Q (.inl (some (lV v))) (I', Z)) : ∀ (t k : Nat) (I : Nat → Nat → Int), k + t = 4 → (∀ x, x ≠ 115 → I x = I0 x) → (∀ c, c < k → I 115 (4 * r + c) = g c) → (∀ j, j < 4 * r ∨ 4 * r + 4 ≤ j → I 115 j = I0 115 j) → X G dp 0 0 M9_riskWith 77 [some (rV (some 103)), some (iV r), some (iV b), some (lV v), none, some (iV k)] [] (I, Z) Q := by
  intro t
  induction t with
  | zero =>
    intro k I ht hf h1 h2
    have e : k = 4 := by omega
    subst e
    exact s9_riskWith_77 (n_p1 := 12) (n_p2 := 4) (am_ow hM.1) hM.risks.1 hM.before.1 (am_rw hM.before.2) hM.risks.2 (fun _ => h I hf h1 h2) (fun c => absurd (by omega) c) (h8 := fun c => absurd (by omega) c) (h9 := fun c => absurd (by omega) c)
  | succ t ih =>
    intro k I ht hf h1 h2
    refine s9_riskWith_77 (n_p1 := 12) (n_p2 := 4) (am_ow hM.1) hM.risks.1 hM.before.1 (am_rw hM.before.2) hM.risks.2 (fun c => absurd c (by omega)) (fun _ => ?_) (h8 := fun _ => by rw [ix4 (by omega) (by omega)]; omega) (h9 := fun _ => by rw [ix4 (by omega) (by omega)]; omega)
    rw [wrs (by omega), ix4 (by omega) (by omega), tnc, tnc]
    dsimp only
    rw [hf 119 (by omega), hg k (by omega)]
    refine ih (k + 1) _ (by omega) (fun x hx => by rw [u2r hx]; exact hf x hx) (fun c hc => ?_) (fun j hj => by rw [u2n (by omega)]; exact h2 j hj)
    by_cases e : c = k
    · subst e; exact u2_at
    · rw [u2n (by omega)]; exact h1 c (by omega)
theorem md_riskWith {I : Nat → Nat → Int} {r b : Nat} (hd : 5 ≤ dp) (hM : Md (I, Z)) (hv : RowV I R) (hR : RV R) (hA : MaV I R (dw R (R 5)) (kN R)) (hr : r < rC R) (hb : b < rN R) (h : ∀ I' : Nat → Nat → Int, (∀ x, x ≠ 119 → I' x = I x) → Q (.inl (some (lV (nx R r b)))) (I', Z)) : T G dp 0 0 M9_riskWith [rV (some 103), iV r, iV b] (I, Z) Q := by
  have hc := hR.c
  have hn := hR.n
  have hf3 := hR.2.2.2.1
  have hmi := hR.m r b
  have hrr := hA.2.2.1 r hr
  have e15 : I 116 r = (rq R r).2.2 := hrr.2
  have hq := rq_rng R r
  unfold nx at h
  refine T9_riskWith (s9_riskWith_0 (n_p1 := 3) (by omega) (am_ow hM.1) hM.done.1 (am_rw hM.done.2) (fun c => ?_) (fun c Q' hK => ?_))
  · dsimp only at c
    rw [tnc, e15] at c
    rw [if_pos c] at h
    refine lp_rwcopy (I0 := I) hM (by omega) (fun I1 g1 g2 Q' hK => ?_) (by omega) 4 0 I rfl (fun _ _ => rfl) (fun c hc => absurd hc (by omega))
    have hv1 : RowV I1 R := fun j hj => by rw [g1 104 (by omega)]; exact hv j hj
    have hA1 : MaV I1 R (dw R (R 5)) (kN R) := hA.same hR (by rw [g1 103 (by omega)]) (fun x p q => g1 x (by omega))
    have e3 : I1 104 3 = R 3 := hv1 3 (by omega)
    refine md_mistakeAt hM hR hA1.2.1 hr hb (hK _ _ ?_)
    refine s9_riskWith_53 (by omega) (am_ow hM.1) fun Q' hK => md_shown (m := (I1, Z)) (by omega) hM hv1 (by omega) (by omega) (hK _ _ ?_)
    refine s9_riskWith_59 (n_p1 := 1514) (by omega) (am_ow hM.1) hM.row.1 (am_rw hM.row.2) (am_ow hM.1) fun Q' hK => ?_
    dsimp only
    rw [show (3 : Int).toNat = 3 from rfl, e3]
    refine md_draws (st := rq R r) (z := 0) (by omega) hM hv1 hR hA1.2.1 hr (hA1.2.2.1 r hr).1 hq.1 hq.2 hf3.1 hf3.2 hmi.1 hmi.2 (fun I2 k1 k2 k3 => hK _ ?_)
    have hv2 : RowV I2 R := fun j hj => by rw [k1 104 (by omega)]; exact hv1 j hj
    have hL2 : LdV I2 R := hA1.2.1.same fun x p q => k1 x (by omega)
    refine s9_riskWith_68 (by omega) (am_ow hM.1) fun Q' hK => md_riskNow (by omega) hM hv2 hR hL2 hr k3 (hK _ _ (s9_riskWith_73 ?_))
    dsimp only
    refine lp_rwback (I0 := I2) (g := fun c => I 115 (4 * r + c)) hM (by omega) (fun c hc => by rw [k1 119 (by omega)]; exact g2 c hc) (fun I3 m1 m2 m3 => h I3 (fun x hx => ?_)) 4 0 I2 rfl (fun _ _ => rfl) (fun c hc => absurd hc (by omega)) (fun _ _ => rfl)
    by_cases e : x = 115
    · subst e
      funext j
      by_cases q : j < 4 * r ∨ 4 * r + 4 ≤ j
      · rw [m3 j q, k2 j q, g1 115 (by omega)]
      · have := m2 (j - 4 * r) (by omega)
        rw [show 4 * r + (j - 4 * r) = j by omega] at this
        exact this
    · rw [m1 x e, k1 x e]; exact g1 x hx
  · dsimp only at c
    rw [tnc, e15] at c
    rw [if_neg c] at h
    exact md_riskNow (by omega) hM hv hR hA.2.1 hr hrr.1 (hK _ _ (s9_riskWith_15 (h I (fun _ _ => rfl))))
theorem r_next {I : Nat → Nat → Int} {i j : Int} (hd : 8 ≤ dp) (hM : Md (I, Z)) (hv : RowV I R) (hR : RV R) (hD : DR R) (h0 : ∀ (r b : Nat) (I' : Nat → Nat → Int), i = r → r < rC R → j = b → b < rN R → MF I I' → I' 103 7 = 0 → Q (.inl (some (lV (nx R r b)))) (I', Z)) (h1 : (¬ isR R i ∨ ¬ isB R j) → ∀ I' : Nat → Nat → Int, MF I I' → I' 103 7 = 1 → Q (.inl (some (lV 0))) (I', Z)) : T G dp 4 24 M9_next [rV (some 103), iV i, iV j] (I, Z) Q := by
  have hv0 : RowV (u2 I 103 7 0) R := MF.code.row hv
  refine T9_next (s9_next_0 (by omega) hM.1 fun Q' hK => md_isRace (m := (u2 I 103 7 0, Z)) (by omega) hM hv0 hR (fun c => hK _ _ ?_) (fun c => hK _ _ ?_))
  · obtain ⟨r, er, hr, hr3⟩ := c.n hR
    subst er
    refine s9_next_10 (by omega) (am_ow hM.1) (fun c => absurd c (by decide)) (fun _ Q' hK => md_isBallot (m := (u2 I 103 7 0, Z)) (by omega) hM hv0 hR (fun cc => hK _ _ ?_) (fun cc => hK _ _ ?_))
    · obtain ⟨b, eb, hb, hb2⟩ := cc.n hR
      subst eb
      refine s9_next_18 (by omega) (am_ow hM.1) (fun _ Q' hK => md_goes0 (by omega) hM hv hR hD (fun I1 g1 g2 g3 g4 => hK _ ?_)) (fun c => absurd c (by decide))
      refine s9_next_32 (by omega) (am_ow hM.1) fun Q' hK => md_riskWith (by omega) hM g3 hR g4 hr hb (fun I2 k1 => hK _ _ (s9_next_38 ?_))
      exact h0 r b I2 rfl hr rfl hb ⟨fun x a b => by rw [k1 x (by omega)]; exact g1.1 x a b, fun j a b c => by rw [k1 103 (by omega)]; exact g1.2 j a b c⟩ (by rw [k1 103 (by omega)]; exact g2)
    · exact s9_next_18 (by omega) (am_ow hM.1) (fun c => absurd rfl c) (fun _ Q' hK => md_fail1 hM MF.code (fun I2 k1 k2 => hK _ _ (s9_next_26 (h1 (Or.inr cc) I2 k1 k2))))
  · exact s9_next_10 (by omega) (am_ow hM.1) (fun _ Q' hK => md_fail1 hM MF.code (fun I2 k1 k2 => hK _ _ (s9_next_26 (h1 (Or.inl c) I2 k1 k2)))) (fun c => absurd rfl c)
theorem wgo_0 {f : Nat → Int} (h : ∀ j, 1 ≤ f j) : ∀ n, (wgo f n).1 = -1 → (wgo f n).2 = 0
  | 0, _ => rfl
  | n + 1, e => by
    have ih := wgo_0 h n
    have hf := h n
    unfold wgo at e ⊢
    split
    · rename_i q
      rw [if_pos q] at e
      dsimp only at e
      omega
    · rename_i q
      rw [if_neg q] at e
      exact ih e
theorem lp_rworst {I0 : Nat → Nat → Int} {r : Nat} (hd : 6 ≤ dp) (hM : Md (I0, Z)) (hv : RowV I0 R) (hR : RV R) (hA : MaV I0 R (dw R (R 5)) (kN R)) (hr : r < rC R) (h : ∀ I' : Nat → Nat → Int, (∀ x, x ≠ 119 → I' x = I0 x) → Q (.inl (some (iV (wgo (nx R r) (rN R)).1))) (I', Z)) : ∀ (t k : Nat) (I : Nat → Nat → Int) (o6 o7 : Option am_V), rN R - k = t → k ≤ rN R → (∀ x, x ≠ 119 → I x = I0 x) → X G dp 0 0 M9_worstOf 7 [some (rV (some 103)), some (iV r), some (iV (wgo (nx R r) k).1), some (lV (wgo (nx R r) k).2), none, some (iV k), o6, o7] [] (I, Z) Q := by
  have hn := hR.n
  intro t
  induction t with
  | zero =>
    intro k I o6 o7 ht hk hf
    have hvI : RowV I R := fun j hj => by rw [hf 104 (by omega)]; exact hv j hj
    have e : k = rN R := by omega
    rw [← e] at h
    exact s9_worstOf_7 (by omega) (am_ow hM.1) fun Q' hK => md_ballots (m := (I, Z)) hM hvI (hK _ _ (s9_worstOf_13 (by omega) (am_ow hM.1) (fun _ => h I hf) (fun c => absurd (by omega) c)))
  | succ t ih =>
    intro k I o6 o7 ht hk hf
    have hvI : RowV I R := fun j hj => by rw [hf 104 (by omega)]; exact hv j hj
    have hAI : MaV I R (dw R (R 5)) (kN R) := hA.same hR (by rw [hf 103 (by omega)]) (fun x p q => hf x (by omega))
    have ih := fun I o6 o7 => ih (k + 1) I o6 o7 (by omega) (by omega)
    have w0 := wgo_0 (f := nx R r) (fun j => (nx_rng (R := R) (r := r) (b := j)).1) k
    have hk1 := (nx_rng (R := R) (r := r) (b := k)).1
    unfold wgo at ih
    refine s9_worstOf_7 (by omega) (am_ow hM.1) fun Q' hK => md_ballots (m := (I, Z)) hM hvI (hK _ _ (s9_worstOf_13 (by omega) (am_ow hM.1) (fun c => absurd c (by omega)) (fun _ Q' hK => md_riskWith (by omega) hM hvI hR hAI hr (by omega) (fun I1 g1 => hK _ _ ?_))))
    have hf1 : ∀ x, x ≠ 119 → I1 x = I0 x := fun x hx => by rw [g1 x hx]; exact hf x hx
    refine s9_worstOf_23 (fun c => ?_) (fun c c2 => ?_) (fun c c2 => ?_)
    · rw [if_pos (by have := w0 c; omega)] at ih
      rw [wrs (by omega)]
      exact ih I1 _ _ hf1
    · have := (lc_gt _ _).mp c2
      rw [if_pos (by omega)] at ih
      rw [wrs (by omega)]
      exact ih I1 _ _ hf1
    · have := n_gt c2
      rw [if_neg (by omega)] at ih
      rw [wrs (by omega)]
      exact ih I1 _ _ hf1
theorem r_worst {I : Nat → Nat → Int} {i : Int} (hd : 8 ≤ dp) (hM : Md (I, Z)) (hv : RowV I R) (hR : RV R) (hD : DR R) (h0 : ∀ (r : Nat) (I' : Nat → Nat → Int), i = r → r < rC R → MF I I' → I' 103 7 = 0 → Q (.inl (some (iV (wgo (nx R r) (rN R)).1))) (I', Z)) (h1 : ¬ isR R i → ∀ I' : Nat → Nat → Int, MF I I' → I' 103 7 = 1 → Q (.inl (some (iV 0))) (I', Z)) : T G dp 4 24 M9_worst [rV (some 103), iV i] (I, Z) Q := by
  have hv0 : RowV (u2 I 103 7 0) R := MF.code.row hv
  refine T9_worst (s9_worst_0 (by omega) hM.1 fun Q' hK => md_isRace (m := (u2 I 103 7 0, Z)) (by omega) hM hv0 hR (fun c => hK _ _ ?_) (fun c => hK _ _ ?_))
  · obtain ⟨r, er, hr, hr3⟩ := c.n hR
    subst er
    refine s9_worst_10 (by omega) (am_ow hM.1) (fun _ Q' hK => md_goes0 (by omega) hM hv hR hD (fun I1 g1 g2 g3 g4 => hK _ ?_)) (fun c => absurd c (by decide))
    refine s9_worst_23 (by omega) (am_ow hM.1) fun Q' hK => T9_worstOf (s9_worstOf_0 (lp_rworst (I0 := I1) (by omega) hM g3 hR g4 hr (fun I2 k1 => hK _ _ (s9_worst_28 ?_)) (rN R) 0 I1 _ _ rfl (by omega) (fun _ _ => rfl)))
    exact h0 r I2 rfl hr ⟨fun x a b => by rw [k1 x (by omega)]; exact g1.1 x a b, fun j a b c => by rw [k1 103 (by omega)]; exact g1.2 j a b c⟩ (by rw [k1 103 (by omega)]; exact g2)
  · exact s9_worst_10 (by omega) (am_ow hM.1) (fun c => absurd rfl c) (fun _ Q' hK => md_fail1 hM MF.code (fun I2 k1 k2 => hK _ _ (s9_worst_18 (h1 c I2 k1 k2))))
theorem lp_clean {I : Nat → Nat → Int} {r : Nat} (hd : 1 ≤ dp) (hM : Md (I, Z)) (hv : RowV I R) (hR : RV R) (hL : LdV I R) (hr : r < rC R) (h : Q (.inl (some (iV (wo R r)))) (I, Z)) : ∀ (t k : Nat), rN R - k = t → k ≤ rN R → X G dp 0 0 M9_clean 4 [some (rV (some 103)), some (iV r), some (iV ((k : Int) - mky (rM R r) k)), some (iV k)] [] (I, Z) Q := by
  have hn := hR.n
  intro t
  induction t with
  | zero =>
    intro k ht hk
    have e : k = rN R := by omega
    unfold wo at h
    rw [hn.1, ← e] at h
    exact s9_clean_4 hd (am_ow hM.1) fun Q' hK => md_ballots (m := (I, Z)) hM hv (hK _ _ (s9_clean_9 hd (am_ow hM.1) (fun _ => h) (fun c => absurd (by omega) c)))
  | succ t ih =>
    intro k ht hk
    have ih := ih (k + 1) (by omega) (by omega)
    have hm := mky_rng (rM R r) k
    have e1 : mky (rM R r) (k + 1) = mky (rM R r) k + if 0 < rM R r k then 1 else 0 := rfl
    rw [e1] at ih
    refine s9_clean_4 hd (am_ow hM.1) fun Q' hK => md_ballots (m := (I, Z)) hM hv (hK _ _ (s9_clean_9 hd (am_ow hM.1) (fun c => absurd c (by omega)) (fun _ Q' hK => md_mistakeAt hM hR hL hr (by omega) (hK _ _ ?_))))
    refine s9_clean_18 (fun c => ?_) (fun c => ?_)
    · rw [if_pos c] at ih
      rw [wrs (by omega), show (k : Int) - mky (rM R r) k = ((k + 1 : Nat) : Int) - (mky (rM R r) k + 1) by omega]
      exact ih
    · rw [if_neg c] at ih
      rw [wrs (by omega), wr_of (z := (k : Int) - mky (rM R r) k + 1) (by omega) (by omega), show (k : Int) - mky (rM R r) k + 1 = ((k + 1 : Nat) : Int) - (mky (rM R r) k + 0) by omega]
      exact ih
theorem md_clean {I : Nat → Nat → Int} {r : Nat} (hd : 1 ≤ dp) (hM : Md (I, Z)) (hv : RowV I R) (hR : RV R) (hL : LdV I R) (hr : r < rC R) (h : Q (.inl (some (iV (wo R r)))) (I, Z)) : T G dp 0 0 M9_clean [rV (some 103), iV r] (I, Z) Q :=
  T9_clean (s9_clean_0 (lp_clean hd hM hv hR hL hr h (rN R) 0 rfl (by omega)))
theorem md_chanceBehind {I : Nat → Nat → Int} {v u : Int} (hd : 1 ≤ dp) (hM : Md (I, Z)) (hv : RowV I R) (hR : RV R) (h1 : 0 ≤ v) (h2 : v ≤ 1000000000) (h3 : 0 ≤ u) (h4 : u ≤ 200) (h : Q (.inl (some (lV (chs (R 1) u v)))) (I, Z)) : T G dp 0 0 M9_chanceBehind [rV (some 103), lV v, iV u] (I, Z) Q := by
  have hN := hR.n
  have hm := mul_bd h1 h2 h3 h4
  unfold chs at h
  refine T9_chanceBehind (s9_chanceBehind_0 hd (am_ow hM.1) fun Q' hK => md_ballots (m := (I, Z)) hM hv (hK _ _ (s9_chanceBehind_4 hd (am_ow hM.1) (fun c Q' hK => md_ballots (m := (I, Z)) hM hv (hK _ _ ?_)) (fun c => ?_))))
  · rw [if_neg (by omega)] at h
    have hq := div_bd (x := v * u + R 1 - 1) (b := R 1) (by omega) (by omega)
    refine s9_chanceBehind_17 hd (am_ow hM.1) fun Q' hK => md_ballots (m := (I, Z)) hM hv (hK _ _ (s9_chanceBehind_25 ?_))
    rw [wrl_of (z := v * u) (by omega) (by omega), wrl_of (z := v * u + R 1) (by omega) (by omega), wrl_of (z := v * u + R 1 - 1) (by omega) (by omega), Int.tdiv_eq_ediv_of_nonneg (by omega), wrl_of (by omega) (by omega)]
    exact h
  · rw [if_pos (by omega)] at h
    exact h
theorem lp_rchance {I : Nat → Nat → Int} {a b : Nat} {r n : Nat} {i : Int} (hd : 2 ≤ dp) (hM : Md (I, Z)) (hv : RowV I R) (hR : RV R) (hn : n ≤ 300) (h : Q (.inl (some (lV (chn (R 1) (wo R r) n)))) (I, Z)) : ∀ (t k : Nat), n - k = t → k ≤ n → X G dp a b M9_chance 59 [some (rV (some 103)), some (iV i), some (iV n), some (iV (wo R r)), some (lV (chn (R 1) (wo R r) k)), none, some (iV k)] [] (I, Z) Q := by
  have hw := wo_rng hR r
  intro t
  induction t with
  | zero =>
    intro k ht hk
    have e : k = n := by omega
    subst e
    exact s9_chance_59 (by omega) (am_ow hM.1) (fun _ => h) (fun c => absurd (by omega) c)
  | succ t ih =>
    intro k ht hk
    have hr := chn_rng (n := R 1) (wo := wo R r) hw.1 hw.2.1 k
    refine s9_chance_59 (by omega) (am_ow hM.1) (fun c => absurd c (by omega)) (fun _ Q' hK => md_chanceBehind (by omega) hM hv hR hr.1 hr.2 hw.1 hw.2.2 (hK _ _ (s9_chance_72 ?_)))
    rw [wrs (by omega)]
    exact ih (k + 1) (by omega) (by omega)
theorem r_chance {I : Nat → Nat → Int} {i j : Int} (hd : 8 ≤ dp) (hM : Md (I, Z)) (hv : RowV I R) (hR : RV R) (h0 : ∀ (r n : Nat) (I' : Nat → Nat → Int), i = r → r < rC R → j = n → n ≤ 300 → MF I I' → I' 103 7 = 0 → Q (.inl (some (lV (chn (R 1) (wo R r) n)))) (I', Z)) (h1 : ¬ isR R i → ∀ I' : Nat → Nat → Int, MF I I' → I' 103 7 = 1 → Q (.inl (some (lV 0))) (I', Z)) (h2 : isR R i → ¬ (0 ≤ j ∧ j ≤ 300) → ∀ I' : Nat → Nat → Int, MF I I' → I' 103 7 = 2 → Q (.inl (some (lV 0))) (I', Z)) : T G dp 4 24 M9_chance [rV (some 103), iV i, iV j] (I, Z) Q := by
  have nn : ∀ k : Int, ¬ k ≤ 0 → ¬ (u2 (I, Z).1 103 7 k) 103 7 ≤ 0 := fun k hk => by rw [u2_at]; exact hk
  have n0 : (u2 (I, Z).1 103 7 0) 103 7 ≤ 0 := by rw [u2_at]; exact Int.le_refl _
  refine T9_chance (s9_chance_0 (by omega) (am_ow hM.1) fun Q' hK => md_isRace (m := (I, Z)) (by omega) hM hv hR (fun c => hK _ _ ?_) (fun c => hK _ _ ?_))
  · obtain ⟨r, er, hr, hr3⟩ := c.n hR
    subst er
    refine s9_chance_6 (by omega) hM.1 (am_ow hM.1) (fun _ Q' hK => md_isIn (hK _ _ ?_)) (fun c => absurd c (by decide)) (fun c => absurd c (by decide))
    by_cases q : 0 ≤ j ∧ j ≤ 300
    · rw [if_pos q]
      obtain ⟨n, en⟩ : ∃ n : Nat, j = n := ⟨j.toNat, by omega⟩
      subst en
      refine s9_chance_21 (by omega) hM.1 (am_ow hM.1) (fun _ _ Q' hK => ?_) (fun _ c => absurd n0 c) (fun c => absurd c (by decide)) (fun c => absurd c (by decide))
      refine md_layRaces (I := u2 I 103 7 0) (by omega) hM (MF.code.row hv) hR (fun I1 g1 g2 => hK _ ?_)
      have hf : MF I I1 := MF.code.tr ⟨fun x a b => g1 x (by omega), fun j _ _ _ => by rw [g1 103 (by omega)]⟩
      have hc0 : I1 103 7 = 0 := by rw [g1 103 (by omega)]; exact u2_at
      have hv1 := hf.row hv
      refine s9_chance_45 (by omega) (am_ow hM.1) fun Q' hK => md_clean (by omega) hM hv1 hR g2 hr (hK _ _ (s9_chance_50 ?_))
      exact lp_rchance (I := I1) (by omega) hM hv1 hR (by omega) (h0 r n I1 rfl hr rfl (by omega) hf hc0) n 0 rfl (by omega)
    · rw [if_neg q]
      exact s9_chance_21 (by omega) hM.1 (am_ow hM.1) (fun c => absurd rfl c) (fun c => absurd rfl c) (fun _ c => absurd c (nn 2 (by omega))) (fun _ _ => h2 c q _ MF.code u2_at)
  · exact s9_chance_6 (by omega) hM.1 (am_ow hM.1) (fun c => absurd rfl c) (fun _ c => absurd c (nn 1 (by omega))) (fun _ _ => h1 c _ MF.code u2_at)
theorem lp_renough {I : Nat → Nat → Int} {a b : Nat} {r : Nat} {i : Int} (hd : 2 ≤ dp) (hM : Md (I, Z)) (hv : RowV I R) (hR : RV R) : ∀ (t k : Nat), k + t = 5001 → Q (.inl (some (iV (engo (R 1) (wo R r) (goal R) t k)))) (I, Z) → X G dp a b M9_enough 36 [some (rV (some 103)), some (iV i), some (iV (wo R r)), some (lV (chn (R 1) (wo R r) k)), none, some (iV k)] [] (I, Z) Q := by
  have hw := wo_rng hR r
  intro t
  induction t with
  | zero =>
    intro k ht h
    exact s9_enough_36 (by omega) (am_ow hM.1) (fun _ => h) (fun c => absurd (by omega) c)
  | succ t ih =>
    intro k ht h
    have hr := chn_rng (n := R 1) (wo := wo R r) hw.1 hw.2.1 k
    unfold engo at h
    refine s9_enough_36 (by omega) (am_ow hM.1) (fun c => absurd c (by omega)) (fun _ Q' hK => md_isLittle hM hv hR (fun c => hK _ _ ?_) (fun c => hK _ _ ?_))
    · rw [if_pos c] at h
      exact s9_enough_49 (by omega) (am_ow hM.1) (fun c => absurd c (by decide)) (fun _ => h)
    · rw [if_neg c] at h
      refine s9_enough_49 (by omega) (am_ow hM.1) (fun _ Q' hK => md_chanceBehind (by omega) hM hv hR hr.1 hr.2 hw.1 hw.2.2 (hK _ _ (s9_enough_61 ?_))) (fun c => absurd rfl c)
      rw [wrs (by omega)]
      exact ih (k + 1) (by omega) h
theorem r_enough {I : Nat → Nat → Int} {i : Int} (hd : 8 ≤ dp) (hM : Md (I, Z)) (hv : RowV I R) (hR : RV R) (h0 : ∀ (r : Nat) (I' : Nat → Nat → Int), i = r → r < rC R → MF I I' → I' 103 7 = 0 → Q (.inl (some (iV (engo (R 1) (wo R r) (goal R) 5000 1)))) (I', Z)) (h1 : ¬ isR R i → ∀ I' : Nat → Nat → Int, MF I I' → I' 103 7 = 1 → Q (.inl (some (iV 0))) (I', Z)) : T G dp 4 24 M9_enough [rV (some 103), iV i] (I, Z) Q := by
  have hv0 : RowV (u2 I 103 7 0) R := MF.code.row hv
  have hl := hR.2.2.1
  refine T9_enough (s9_enough_0 (by omega) hM.1 fun Q' hK => md_isRace (m := (u2 I 103 7 0, Z)) (by omega) hM hv0 hR (fun c => hK _ _ ?_) (fun c => hK _ _ ?_))
  · obtain ⟨r, er, hr, hr3⟩ := c.n hR
    subst er
    refine s9_enough_10 (by omega) (am_ow hM.1) (fun _ Q' hK => md_layRaces (I := u2 I 103 7 0) (by omega) hM hv0 hR (fun I1 g1 g2 => hK _ ?_)) (fun c => absurd c (by decide))
    have hf : MF I I1 := MF.code.tr ⟨fun x a b => g1 x (by omega), fun j _ _ _ => by rw [g1 103 (by omega)]⟩
    have hc0 : I1 103 7 = 0 := by rw [g1 103 (by omega)]; exact u2_at
    have hv1 := hf.row hv
    refine s9_enough_23 (by omega) (am_ow hM.1) fun Q' hK => md_clean (by omega) hM hv1 hR g2 hr (hK _ _ (s9_enough_28 ?_))
    refine lp_renough (I := I1) (by omega) hM hv1 hR 5001 0 rfl ?_
    have e : engo (R 1) (wo R r) (goal R) 5001 0 = engo (R 1) (wo R r) (goal R) 5000 1 := by
      show (if chn (R 1) (wo R r) 0 ≤ goal R then _ else _) = _
      rw [if_neg]
      show ¬ (1000000000 : Int) ≤ goal R
      unfold goal
      omega
    rw [e]
    exact h0 r I1 rfl hr hf hc0
  · exact s9_enough_10 (by omega) (am_ow hM.1) (fun c => absurd rfl c) (fun _ Q' hK => md_fail1 hM MF.code (fun I2 k1 k2 => hK _ _ (s9_enough_18 (h1 c I2 k1 k2))))
theorem lp_flipsFor {m : am_M} {a b x y : Int} {z : Int} (hx : 0 ≤ x) (hy : y ≤ 200) (hxy : x ≤ y) (hz : z = 0 ∨ z = 1) (h : Q (.inl (some (iV ((y - x + z + 1) / 2)))) m) : ∀ (t k : Nat), ((y - x + z + 1) / 2).toNat - k = t → (k : Int) ≤ (y - x + z + 1) / 2 → X G dp 0 0 M9_flipsFor 15 [some (iV a), some (iV b), some (iV x), some (iV y), some (iV k), some (iV z)] [] m Q := by
  intro t
  induction t with
  | zero =>
    intro k ht hk
    have e : (y - x + z + 1) / 2 = k := by omega
    rw [e] at h
    refine s9_flipsFor_15 (fun _ => h) (fun c => absurd ?_ c)
    rw [wr_of (z := x + (k : Int)) (by omega) (by omega), wr_of (z := y - (k : Int)) (by omega) (by omega), wr_of (by omega) (by omega)]
    omega
  | succ t ih =>
    intro k ht hk
    refine s9_flipsFor_15 (fun c => absurd c ?_) (fun _ => ?_)
    · rw [wr_of (z := x + (k : Int)) (by omega) (by omega), wr_of (z := y - (k : Int)) (by omega) (by omega), wr_of (by omega) (by omega)]
      omega
    · rw [wrs (by omega)]
      exact ih (k + 1) (by omega) (by omega)
theorem md_flipsFor {m : am_M} {k w : Nat} {T' : Nat → Int} (hx : 0 ≤ T' k) (hy : T' w ≤ 200) (hxy : T' k ≤ T' w) (h : Q (.inl (some (iV (flp T' w k)))) m) : T G dp 0 0 M9_flipsFor [iV k, iV w, iV (T' k), iV (T' w)] m Q := by
  unfold flp at h
  refine T9_flipsFor (s9_flipsFor_0 (fun c => ?_) (fun c => ?_))
  · rw [if_neg (by omega), show (T' w - T' k) / 2 + 1 = (T' w - T' k + 1 + 1) / 2 by omega] at h
    exact lp_flipsFor hx hy hxy (Or.inr rfl) h _ 0 rfl (by omega)
  · rw [if_pos (by omega), show (T' w - T' k + 1) / 2 = (T' w - T' k + 0 + 1) / 2 by omega] at h
    exact lp_flipsFor hx hy hxy (Or.inl rfl) h _ 0 rfl (by omega)
theorem fgo_some {T' : Nat → Int} {w : Nat} : ∀ n : Nat, (∃ j, j < n ∧ j ≠ w) → (fgo T' w n).1 ≠ -1
  | 0, h => by obtain ⟨j, h1, _⟩ := h; omega
  | n + 1, h => by
    unfold fgo
    by_cases e : n = w
    · rw [if_pos e]
      obtain ⟨j, h1, h2⟩ := h
      exact fgo_some n ⟨j, by omega, h2⟩
    · rw [if_neg e]
      by_cases q : (fgo T' w n).1 = -1 ∨ flp T' w n < (fgo T' w n).2
      · rw [if_pos q]; dsimp only; omega
      · rw [if_neg q]; exact fun z => q (Or.inl z)
theorem lp_rflips {I : Nat → Nat → Int} {a b : Nat} {r : Nat} {j : Int} (hd : 1 ≤ dp) (hM : Md (I, Z)) (hv : RowV I R) (hR : RV R) (hL : LdV I R) (hr : r < rC R) (h : Q (.inl (some (iV (if j = 0 then (fgo (rH R r) (rO R r) (rK R r)).2 else (fgo (rH R r) (rO R r) (rK R r)).1)))) (I, Z)) : ∀ (t k : Nat) (i4 : Int) (o6 : Option am_V), rK R r - k = t → k ≤ rK R r → ((fgo (rH R r) (rO R r) k).1 ≠ -1 → i4 = (fgo (rH R r) (rO R r) k).2) → X G dp a b M9_flips 40 [some (rV (some 103)), some (iV r), some (iV j), some (iV (fgo (rH R r) (rO R r) k).1), some (iV i4), some (iV k), o6] [] (I, Z) Q := by
  have hc := hR.c
  have hK4 := hR.k hr
  have hO := hR.o hr
  have eo : I 112 r = rO R r := hL.o hr
  have eH : ∀ c, c < 4 → I 110 (4 * r + c) = rH R r c := fun c hc => (hL.1 r hr c hc).2
  intro t
  induction t with
  | zero =>
    intro k i4 o6 ht hk h4
    have e : k = rK R r := by omega
    have hs := fgo_some (T' := rH R r) (w := rO R r) (rK R r) (by
      by_cases q : rO R r = 0
      · exact ⟨1, by omega, by omega⟩
      · exact ⟨0, by omega, by omega⟩)
    rw [← e] at h hs
    have h4 := h4 hs
    refine s9_flips_40 hd (am_ow hM.1) fun Q' hK => md_candidates (m := (I, Z)) hM hv (by omega) (hK _ _ ?_)
    refine s9_flips_47 (n_p1 := 3) (n_p2 := 12) hd (am_ow hM.1) hM.right.1 (am_rw hM.right.2) hM.hands.1 (am_rw hM.hands.2) (fun _ c => ?_) (fun _ c => ?_) (fun c => absurd (by omega) c) (fun c => absurd (by omega) c) (h4 := fun c => absurd (by omega) c) (h5 := fun c => absurd (by omega) c) (h8 := fun c => absurd (by omega) c) (h9 := fun c => absurd (by omega) c) (h10 := fun c => absurd (by omega) c) (h11 := fun c => absurd (by omega) c)
    · rw [if_neg c] at h; exact h
    · rw [if_pos c] at h; rw [h4]; exact h
  | succ t ih =>
    intro k i4 o6 ht hk h4
    have ih := fun i4 o6 => ih (k + 1) i4 o6 (by omega) (by omega)
    have b1 := hR.h r k
    have b2 := hR.h r (rO R r)
    have b3 := hR.ho (r := r) (j := k) (by omega)
    have fr := fgo_rng (T := rH R r) (w := rO R r) (fun j => hR.h r j) k
    unfold fgo at ih
    refine s9_flips_40 hd (am_ow hM.1) fun Q' hK => md_candidates (m := (I, Z)) hM hv (by omega) (hK _ _ ?_)
    have eo' : (I, Z).1 112 ((r : Int)).toNat = rO R r := by rw [tnc]; exact eo
    refine s9_flips_47 (n_p1 := 3) (n_p2 := 12) hd (am_ow hM.1) hM.right.1 (am_rw hM.right.2) hM.hands.1 (am_rw hM.hands.2) (fun c => absurd c (by omega)) (fun c => absurd c (by omega)) (fun _ c Q' hK => ?_) (fun _ c => ?_) (h8 := fun _ _ => by rw [ix4 (by omega) (by omega)]; omega) (h9 := fun _ _ => by rw [ix4 (by omega) (by omega)]; omega) (h10 := fun _ _ => by rw [eo', ix4 (by omega) (by omega)]; omega) (h11 := fun _ _ => by rw [eo', ix4 (by omega) (by omega)]; omega)
    · rw [eo'] at c ⊢
      rw [ix4 (by omega) (by omega), ix4 (by omega) (by omega), tnc, tnc]
      dsimp only
      rw [eH k (by omega), eH _ (by omega)]
      rw [if_neg (by omega)] at ih
      refine md_flipsFor (T' := rH R r) b1.1 b2.2 b3 (hK _ _ ?_)
      refine s9_flips_101 (fun c2 => ?_) (fun c2 c3 => ?_) (fun c2 c3 => ?_)
      · rw [if_pos (Or.inl c2)] at ih
        rw [wrs (by omega)]
        exact ih _ _ (fun _ => rfl)
      · have e4 := h4 c2
        rw [e4] at c3
        rw [if_pos (Or.inr c3)] at ih
        rw [wrs (by omega)]
        exact ih _ _ (fun _ => rfl)
      · have e4 := h4 c2
        rw [e4] at c3
        rw [if_neg (fun z => z.elim c2 c3)] at ih
        rw [wrs (by omega)]
        exact ih _ _ h4
    · rw [eo'] at c
      rw [if_pos (by omega)] at ih
      rw [wrs (by omega)]
      exact ih _ _ h4
theorem r_flips {I : Nat → Nat → Int} {i j : Int} (hd : 8 ≤ dp) (hM : Md (I, Z)) (hv : RowV I R) (hR : RV R) (h0 : ∀ (r : Nat) (I' : Nat → Nat → Int), i = r → r < rC R → 0 ≤ j → j ≤ 1 → MF I I' → I' 103 7 = 0 → Q (.inl (some (iV (if j = 0 then (fgo (rH R r) (rO R r) (rK R r)).2 else (fgo (rH R r) (rO R r) (rK R r)).1)))) (I', Z)) (h1 : (¬ isR R i ∨ ¬ (0 ≤ j ∧ j ≤ 1)) → ∀ I' : Nat → Nat → Int, MF I I' → I' 103 7 = 1 → Q (.inl (some (iV 0))) (I', Z)) : T G dp 4 24 M9_flips [rV (some 103), iV i, iV j] (I, Z) Q := by
  have hv0 : RowV (u2 I 103 7 0) R := MF.code.row hv
  refine T9_flips (s9_flips_0 (by omega) hM.1 fun Q' hK => md_isRace (m := (u2 I 103 7 0, Z)) (by omega) hM hv0 hR (fun c => hK _ _ ?_) (fun c => hK _ _ ?_))
  · obtain ⟨r, er, hr, hr3⟩ := c.n hR
    subst er
    refine s9_flips_10 (by omega) (am_ow hM.1) (fun c => absurd c (by decide)) (fun _ Q' hK => md_isIn (hK _ _ ?_))
    by_cases q : 0 ≤ j ∧ j ≤ 1
    · rw [if_pos q]
      refine s9_flips_19 (by omega) (am_ow hM.1) (fun _ Q' hK => md_layRaces (I := u2 I 103 7 0) (by omega) hM hv0 hR (fun I1 g1 g2 => hK _ (s9_flips_32 ?_))) (fun c => absurd c (by decide))
      have hf : MF I I1 := MF.code.tr ⟨fun x a b => g1 x (by omega), fun j _ _ _ => by rw [g1 103 (by omega)]⟩
      have hc0 : I1 103 7 = 0 := by rw [g1 103 (by omega)]; exact u2_at
      exact lp_rflips (I := I1) (by omega) hM (hf.row hv) hR g2 hr (h0 r I1 rfl hr q.1 q.2 hf hc0) _ 0 _ _ rfl (by omega) (fun z => absurd rfl z)
    · rw [if_neg q]
      exact s9_flips_19 (by omega) (am_ow hM.1) (fun c => absurd rfl c) (fun _ Q' hK => md_fail1 hM MF.code (fun I2 k1 k2 => hK _ _ (s9_flips_27 (h1 (Or.inr q) I2 k1 k2))))
  · exact s9_flips_10 (by omega) (am_ow hM.1) (fun _ Q' hK => md_fail1 hM MF.code (fun I2 k1 k2 => hK _ _ (s9_flips_27 (h1 (Or.inl c) I2 k1 k2)))) (fun c => absurd rfl c)
theorem r_votes {I : Nat → Nat → Int} {i j g : Int} (hd : 8 ≤ dp) (hM : Md (I, Z)) (hv : RowV I R) (hR : RV R) (h0 : ∀ (r c : Nat) (I' : Nat → Nat → Int), i = r → r < rC R → j = c → c < rK R r → MF I I' → I' 103 7 = 0 → Q (.inl (some (iV (if g = 0 then rT R r c else rH R r c)))) (I', Z)) (h1 : (¬ isR R i ∨ ∃ r : Nat, i = r ∧ ¬ isC R r j) → ∀ I' : Nat → Nat → Int, MF I I' → I' 103 7 = 1 → Q (.inl (some (iV 0))) (I', Z)) : T G dp 4 24 M9_votes [rV (some 103), iV i, iV j, iV g] (I, Z) Q := by
  have hv0 : RowV (u2 I 103 7 0) R := MF.code.row hv
  refine T9_votes (s9_votes_0 (by omega) hM.1 fun Q' hK => md_isRace (m := (u2 I 103 7 0, Z)) (by omega) hM hv0 hR (fun c => hK _ _ ?_) (fun c => hK _ _ ?_))
  · obtain ⟨r, er, hr, hr3⟩ := c.n hR
    subst er
    refine s9_votes_10 (by omega) (am_ow hM.1) (fun c => absurd c (by decide)) (fun _ Q' hK => md_isCandidate (m := (u2 I 103 7 0, Z)) (by omega) hM hv0 hR hr (fun cc => hK _ _ ?_) (fun cc => hK _ _ ?_))
    · obtain ⟨c, ec, hc, hc4⟩ := cc.n hR hr
      subst ec
      refine s9_votes_19 (by omega) (am_ow hM.1) (fun _ Q' hK => md_layVotes (I := u2 I 103 7 0) (by omega) hM hv0 hR (fun I1 g1 g2 => hK _ ?_)) (fun c => absurd c (by decide))
      have hf : MF I I1 := MF.code.tr ⟨fun x a b => g1 x (by omega) (by omega), fun j _ _ _ => by rw [g1 103 (by omega) (by omega)]⟩
      have hc0 : I1 103 7 = 0 := by rw [g1 103 (by omega) (by omega)]; exact u2_at
      have h0 := h0 r c I1 rfl hr rfl hc hf hc0
      have hVt := g2 r hr c hc4
      refine s9_votes_32 (n_p1 := 12) (n_p2 := 12) (am_ow hM.1) hM.votes.1 (am_rw hM.votes.2) hM.hands.1 (am_rw hM.hands.2) (fun q => ?_) (fun q => ?_) (h4 := fun _ => by rw [ix4 (by omega) (by omega)]; omega) (h5 := fun _ => by rw [ix4 (by omega) (by omega)]; omega) (h8 := fun _ => by rw [ix4 (by omega) (by omega)]; omega) (h9 := fun _ => by rw [ix4 (by omega) (by omega)]; omega)
      · rw [if_pos q] at h0
        dsimp only
        rw [ix4 (by omega) (by omega), tnc, hVt.1]; exact h0
      · rw [if_neg q] at h0
        dsimp only
        rw [ix4 (by omega) (by omega), tnc, hVt.2]; exact h0
    · exact s9_votes_19 (by omega) (am_ow hM.1) (fun c => absurd rfl c) (fun _ Q' hK => md_fail1 hM MF.code (fun I2 k1 k2 => hK _ _ (s9_votes_27 (h1 (Or.inr ⟨r, rfl, cc⟩) I2 k1 k2))))
  · exact s9_votes_10 (by omega) (am_ow hM.1) (fun _ Q' hK => md_fail1 hM MF.code (fun I2 k1 k2 => hK _ _ (s9_votes_27 (h1 (Or.inl c) I2 k1 k2)))) (fun c => absurd rfl c)
theorem r_ballot {I : Nat → Nat → Int} {i j g : Int} (hd : 8 ≤ dp) (hM : Md (I, Z)) (hv : RowV I R) (hR : RV R) (h0 : ∀ (r b : Nat) (v : Int) (I' : Nat → Nat → Int), j = r → r < rC R → i = b → b < rN R → vBallot R r b g = some v → MF I I' → I' 103 7 = 0 → Q (.inl (some (iV v))) (I', Z)) (h1 : (¬ isR R j ∨ ¬ isB R i ∨ ∀ r b, vBallot R r b g = none) → ∀ I' : Nat → Nat → Int, MF I I' → I' 103 7 = 1 → Q (.inl (some (iV 0))) (I', Z)) : T G dp 4 24 M9_ballot [rV (some 103), iV i, iV j, iV g] (I, Z) Q := by
  have hv0 : RowV (u2 I 103 7 0) R := MF.code.row hv
  refine T9_ballot (s9_ballot_0 (by omega) hM.1 fun Q' hK => md_isBallot (m := (u2 I 103 7 0, Z)) (by omega) hM hv0 hR (fun c => hK _ _ ?_) (fun c => hK _ _ ?_))
  · obtain ⟨b, eb, hb, hb2⟩ := c.n hR
    subst eb
    refine s9_ballot_10 (by omega) (am_ow hM.1) (fun c => absurd c (by decide)) (fun _ Q' hK => md_isRace (m := (u2 I 103 7 0, Z)) (by omega) hM hv0 hR (fun cc => hK _ _ ?_) (fun cc => hK _ _ ?_))
    · obtain ⟨r, er, hr, hr3⟩ := cc.n hR
      subst er
      refine s9_ballot_18 (by omega) (am_ow hM.1) (fun c => absurd c (by decide)) (fun _ Q' hK => md_isIn (hK _ _ ?_))
      by_cases q : 0 ≤ g ∧ g ≤ 2
      · rw [if_pos q]
        refine s9_ballot_27 (by omega) (am_ow hM.1) (fun _ c2 Q' hK => ?_) (fun _ c2 c3 Q' hK => md_shown (m := (u2 I 103 7 0, Z)) (by omega) hM hv0 (by omega) (by omega) (hK _ _ (s9_ballot_60 ?_))) (fun _ c2 c3 Q' hK => md_recorded (m := (u2 I 103 7 0, Z)) (by omega) hM hv0 (by omega) (by omega) (hK _ _ (s9_ballot_51 (s9_ballot_60 ?_)))) (fun c => absurd c (by decide))
        · have e2 : g = 2 := by omega
          subst e2
          refine md_layRaces (I := u2 I 103 7 0) (by omega) hM hv0 hR (fun I1 g1 g2 => hK _ ?_)
          have hf : MF I I1 := MF.code.tr ⟨fun x a b => g1 x (by omega), fun j _ _ _ => by rw [g1 103 (by omega)]⟩
          have hc0 : I1 103 7 = 0 := by rw [g1 103 (by omega)]; exact u2_at
          exact s9_ballot_65 (by omega) (am_ow hM.1) fun Q' hK => md_mistakeAt hM hR g2 hr hb (hK _ _ (s9_ballot_71 (h0 r b _ I1 rfl hr rfl hb rfl hf hc0)))
        · have e1 : g = 1 := by omega
          subst e1
          exact h0 r b _ _ rfl hr rfl hb rfl MF.code u2_at
        · subst c3
          exact h0 r b _ _ rfl hr rfl hb rfl MF.code u2_at
      · rw [if_neg q]
        refine s9_ballot_27 (by omega) (am_ow hM.1) (fun c => absurd rfl c) (fun c => absurd rfl c) (fun c => absurd rfl c) (fun _ Q' hK => md_fail1 hM MF.code (fun I2 k1 k2 => hK _ _ (s9_ballot_35 (h1 (Or.inr (Or.inr fun r b => ?_)) I2 k1 k2))))
        unfold vBallot
        rw [if_neg (by omega), if_neg (by omega), if_neg (by omega)]
    · exact s9_ballot_18 (by omega) (am_ow hM.1) (fun _ Q' hK => md_fail1 hM MF.code (fun I2 k1 k2 => hK _ _ (s9_ballot_35 (h1 (Or.inl cc) I2 k1 k2)))) (fun c => absurd rfl c)
  · exact s9_ballot_10 (by omega) (am_ow hM.1) (fun _ Q' hK => md_fail1 hM MF.code (fun I2 k1 k2 => hK _ _ (s9_ballot_35 (h1 (Or.inr (Or.inl c)) I2 k1 k2)))) (fun c => absurd rfl c)
end
