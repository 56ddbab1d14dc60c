/-! THE CLASS: questions about draws -/
theorem goes_at {R : Nat → Int} {d : Nat → Int} {most : Int} : ∀ t k j : Nat, k ≤ j → j < goes R d most t k → (j : Int) < most ∧ pnd R d j (rC R) ≠ 0 ∧ 0 < R 1
  | 0, k, j, h1, h2 => by unfold goes at h2; omega
  | t + 1, k, j, h1, h2 => by
    unfold goes at h2
    by_cases q : (k : Int) < most ∧ pnd R d k (rC R) ≠ 0 ∧ 0 < R 1
    · rw [if_pos q] at h2
      by_cases e : j = k
      · subst e; exact q
      · exact goes_at t (k + 1) j (by omega) h2
    · rw [if_neg q] at h2; omega
theorem stC_congr {R : Nat → Int} {r : Nat} {f cur mi ch : Int} {o o' : Nat → Int} (hK : rK R r ≤ 4) (h : ∀ j, j < 4 → o j = o' j) : stC R r f o cur mi ch = stC R r f o' cur mi ch := by
  unfold stC
  split
  · rfl
  · exact grt_congr _ fun j hj _ => by unfold stO; rw [h j (by omega)]
/-- a race's risk with a ballot more -/
def nx (R : Nat → Int) (r b : Nat) : Int := if (rq R r).2.2 = -1 then stC R r (R 3) (rq R r).1 (rq R r).2.1 (rM R r b) (rP_ R r b) else (rq R r).2.1
theorem rq_rng (R : Nat → Int) (r : Nat) : (∀ j, 1 ≤ (rq R r).1 j ∧ (rq R r).1 j ≤ 10000000000000) ∧ (1 ≤ (rq R r).2.1 ∧ (rq R r).2.1 ≤ 10000000000000) := ⟨(rs_rng R _ r _).1, (rs_rng R _ r _).2.1⟩
theorem nx_rng {R : Nat → Int} {r b : Nat} : 1 ≤ nx R r b ∧ nx R r b ≤ 10000000000000 := by
  have h := rq_rng R r
  unfold nx
  split
  · unfold stC
    split
    · exact sc_rng _ _ _
    · exact grt_rng (by omega) (by omega) _ (fun j _ => (stO_rng (h.1 j).1 (h.1 j).2).2)
  · exact h.2
section
variable {G : am_G} {dp : Nat} {Q : am_Q} {w s : Nat} {R : Nat → Int} {Z : (Nat → Nat → Option Nat) × (Nat → Nat × Nat) × Nat × Bool} {I : Nat → Nat → Int}
theorem ct_nx {r b : Nat} (hd : 4 ≤ dp) (hC : Cl (I, Z) w s) (hI : CI I w R) (hr : r < rC R) (hb : b < rN R) (h : Q (.inl (some (lV (nx R r b)))) (I, Z)) : T G dp 0 0 M1_riskWith [rV (some 47), rV (some w), iV r, iV b] (I, Z) Q := by
  have hw := hC.ws
  have hg := rq_rng R r
  have hK := hI.1.k hr
  refine ct_riskWith (k := kN R) (R := R) hd hC.audit hC.now hI.2.1 hI.1 (by omega) hr hb hI.k5 (kN_le R) (fun j hj => ?_) ?_ ?_
  · dsimp only; rw [hI.ow hr hj]; exact hg.1 j
  · dsimp only; rw [hI.cu hr]; exact hg.2
  · dsimp only
    unfold nx at h
    have e1 : I (47 + 9) r = (rq R r).2.2 := hI.dn hr
    have e2 : I (47 + 6 + r) (kN R) = (rq R r).2.1 := hI.cu hr
    have e3 := stC_congr (R := R) (r := r) (f := R 3) (cur := (rq R r).2.1) (mi := rM R r b) (ch := rP_ R r b) hK.2.2 (fun j hj => hI.ow hr hj)
    by_cases q : (rq R r).2.2 = -1
    · rw [if_pos q] at h
      rw [if_pos (by rw [e1]; exact q), e2]
      show Q (.inl (some (lV (stC R r (R 3) (I (49 + r)) (rq R r).2.1 (rM R r b) (rP_ R r b))))) (I, Z)
      rw [e3]; exact h
    · rw [if_neg q] at h
      rw [if_neg (by rw [e1]; exact q), e2]; exact h
theorem q_next {i j : Int} (hd : 5 ≤ dp) (hC : Cl (I, Z) w s) (hI : CI I w R) (h0 : ∀ r b : Nat, i = r → r < rC R → r < 3 → j = b → b < rN R → b < 200 → Q (.inl (some (lV (nx R r b)))) (I, Z)) (h1 : (¬ isR R i ∨ ¬ isB R j) → Q (.inr 1) (I, Z)) : T G dp 4 24 M8_next [rV (some 1), iV i, iV j] (I, Z) Q := by
  refine T8_next (s8_next_0 (by omega) (by omega) (by omega) (am_ow hC.o) fun Q' hK hE => ct_contestOf hC hI (fun r er hr hr3 => hK _ _ ?_) (fun q => hE _ _ (h1 (Or.inl q))))
  subst er
  refine s8_next_5 (by omega) (by omega) (by omega) (am_ow hC.o) fun Q' hK hE => ct_seekBallot hC hI (fun b eb hb hb2 => hK _ ?_) (fun q => hE _ _ (h1 (Or.inr q)))
  subst eb
  exact s8_next_11 (by omega) (am_ow hC.o) hC.p6 hC.p4 (am_ow hC.audit.1) fun Q' hK => ct_nx (by omega) hC hI hr hb (hK _ _ (s8_next_24 (h0 r b rfl hr hr3 rfl hb hb2)))
/-- the first with the greatest -/
def wgo (f : Nat → Int) : Nat → Int × Int
  | 0 => (-1, 0)
  | n + 1 => if (wgo f n).2 < f n then (n, f n) else wgo f n
theorem wgo_rng {f : Nat → Int} {B : Int} (hB : 0 ≤ B) (h : ∀ j, f j ≤ B) : ∀ n : Nat, 0 ≤ (wgo f n).2 ∧ (wgo f n).2 ≤ B ∧ -1 ≤ (wgo f n).1 ∧ (wgo f n).1 < n
  | 0 => by unfold wgo; omega
  | n + 1 => by
    have ih := wgo_rng hB h n
    have h2 := h n
    unfold wgo
    split <;> (try dsimp only) <;> omega
theorem lp_worst {r : Nat} (hd : 5 ≤ dp) (hC : Cl (I, Z) w s) (hI : CI I w R) (hr : r < rC R) (h : Q (.inl (some (iV (wgo (nx R r) (rN R)).1))) (I, Z)) : ∀ (t k : Nat) (o6 o7 : Option am_V) {a b : Nat}, rN R - k = t → k ≤ rN R → X G dp a b M8_worst 13 [some (rV (some 1)), some (iV r), some (iV (wgo (nx R r) k).1), some (lV (wgo (nx R r) k).2), none, some (iV k), o6, o7] [] (I, Z) Q := by
  have hN := hI.1.n
  have e3 : I w 3 = R 1 := hI.2.1.2.1
  intro t
  induction t with
  | zero =>
    intro k o6 o7 a b ht hk
    have e : k = rN R := by omega
    rw [← e] at h
    exact s8_worst_13 (by omega) (am_ow hC.o) hC.p4 (am_ow hC.now.1) hC.p6 (am_ow hC.audit.1) (fun _ => h) (fun _ _ => h) (fun c1 => absurd (by dsimp only; rw [e3]; omega) c1)
  | succ t ih =>
    intro k o6 o7 a b ht hk
    have ih := fun o6 o7 => ih (k + 1) o6 o7 (a := a) (b := b) (by omega) (by omega)
    refine s8_worst_13 (by omega) (am_ow hC.o) hC.p4 (am_ow hC.now.1) hC.p6 (am_ow hC.audit.1) (fun c1 => absurd c1 (by dsimp only; rw [e3]; omega)) (fun _ c1 => absurd c1 (by omega)) (fun c1 _ Q' hK => ct_nx (by omega) hC hI hr (by omega) (hK _ _ ?_))
    unfold wgo at ih
    refine s8_worst_47 (fun c2 => ?_) (fun c2 => ?_)
    · have c3 := (lc_le _ _).mp c2
      rw [if_neg (by omega)] at ih
      rw [wrs (by omega)]
      exact ih _ _
    · have c3 := n_le c2
      rw [if_pos c3] at ih
      rw [wrs (by omega)]
      exact ih _ _
theorem q_worst {i : Int} (hd : 5 ≤ dp) (hC : Cl (I, Z) w s) (hI : CI I w R) (h0 : ∀ r : Nat, i = r → r < rC R → r < 3 → Q (.inl (some (iV (wgo (nx R r) (rN R)).1))) (I, Z)) (h1 : ¬ isR R i → Q (.inr 1) (I, Z)) : T G dp 4 24 M8_worst [rV (some 1), iV i] (I, Z) Q := by
  refine T8_worst (s8_worst_0 (by omega) (by omega) (by omega) (am_ow hC.o) fun Q' hK hE => ct_contestOf hC hI (fun r er hr hr3 => hK _ _ (s8_worst_5 ?_)) (fun q => hE _ _ (h1 q)))
  subst er
  exact lp_worst hd hC hI hr (h0 r rfl hr hr3) _ 0 _ _ rfl (by omega)
theorem q_drawn {i : Int} (hC : Cl (I, Z) w s) (hI : CI I w R) (h0 : ∀ k : Nat, i = k → k < kN R → Q (.inl (some (iV (dw R (R 5) k)))) (I, Z)) (h1 : ¬ (0 ≤ i ∧ i < kN R) → Q (.inr 1) (I, Z)) : T G dp 4 24 M8_drawn [rV (some 1), iV i] (I, Z) Q := by
  have hk := kN_le R
  have e5 := hI.k5
  refine T8_drawn (s8_drawn_0 (n_p2 := 300) (by omega) (by omega) (am_ow hC.o) hC.p6 (am_ow hC.audit.1) hC.audit.2.1.2.2.2.1 (am_rw hC.audit.2.2.1.2.2.2.1) (fun c1 => hC.nx (h1 (by omega))) (fun c1 c2 => hC.nx (h1 (by dsimp only at c2; omega))) (fun c1 c2 c3 => ?_) (fun c1 c2 c3 => hC.nx (h1 (by dsimp only at c2; omega))))
  dsimp only at c2 ⊢
  rw [hI.2.2.2.2.2.2.2.1 i.toNat (by omega)]
  exact h0 i.toNat (by omega) (by omega)
theorem q_times {i : Int} (hd : 2 ≤ dp) (hC : Cl (I, Z) w s) (hI : CI I w R) (h0 : ∀ b : Nat, i = b → b < rN R → b < 200 → Q (.inl (some (iV (cnt (dw R (R 5)) (kN R) b)))) (I, Z)) (h1 : ¬ isB R i → Q (.inr 1) (I, Z)) : T G dp 4 24 M8_times [rV (some 1), iV i] (I, Z) Q := by
  refine T8_times (s8_times_0 (by omega) (by omega) (by omega) (am_ow hC.o) fun Q' hK hE => ct_seekBallot hC hI (fun b eb hb hb2 => hK _ ?_) (fun q => hE _ _ (h1 q)))
  subst eb
  refine s8_times_5 (n_p2 := 200) (am_ow hC.o) hC.p6 (am_ow hC.audit.1) hC.audit.2.1.2.2.2.2 (am_rw hC.audit.2.2.1.2.2.2.2) ?_
  rw [tnc]
  dsimp only
  rw [hI.2.2.2.2.2.2.2.2 b hb2]
  exact h0 b rfl hb hb2
theorem q_riskAt {i j : Int} (hd : 2 ≤ dp) (hC : Cl (I, Z) w s) (hI : CI I w R) (h0 : ∀ r k : Nat, i = r → r < rC R → r < 3 → j = k → k ≤ kN R → Q (.inl (some (lV (rs R (dw R (R 5)) r k).2.1))) (I, Z)) (h1 : (¬ isR R i ∨ ¬ (0 ≤ j ∧ j ≤ kN R)) → Q (.inr 1) (I, Z)) : T G dp 4 24 M8_riskAt [rV (some 1), iV i, iV j] (I, Z) Q := by
  have hk := kN_le R
  have e5 := hI.k5
  refine T8_riskAt (s8_riskAt_0 (by omega) (by omega) (by omega) (am_ow hC.o) fun Q' hK hE => ct_contestOf hC hI (fun r er hr hr3 => hK _ _ ?_) (fun q => hE _ _ (h1 (Or.inl q))))
  subst er
  have har := hC.audit.2.2.2 r hr3
  refine s8_riskAt_5 (n_p2 := 3) (n_p3 := 301) (by omega) (by omega) (am_ow hC.o) hC.p6 (am_ow hC.audit.1) hC.audit.2.1.2.1 (Or.inr rfl) (am_rw hC.audit.2.2.1.2.1) (fun _ _ _ => har.1.2) (fun _ _ _ => am_rw har.2.2) (fun c1 => hC.nx (h1 (Or.inr (by omega)))) (fun c1 c2 => hC.nx (h1 (Or.inr (by dsimp only at c2; omega)))) (fun c1 c2 c3 => ?_) (fun c1 c2 c3 => hC.nx (h1 (Or.inr (by dsimp only at c2; omega))))
  dsimp only at c2 ⊢
  rw [(hI.2.2.2.2.2.2.1 r hr).2.1 j.toNat (by omega)]
  exact h0 r j.toNat rfl hr hr3 (by omega) (by omega)
/-- how many draws show a mistake -/
def mkd (R : Nat → Int) (r : Nat) (z : Int) : Int := cnt (fun k => rM R r (dw R (R 5) k).toNat) (kN R) z
theorem lp_mistakes {r : Nat} {z : Int} (hC : Cl (I, Z) w s) (hI : CI I w R) (hr : r < rC R) (h : Q (.inl (some (iV (mkd R r z)))) (I, Z)) : ∀ (t k : Nat) {a b : Nat} {o6 : Option am_V}, kN R - k = t → k ≤ kN R → X G dp a b M8_mistakes 34 [some (rV (some 1)), some (iV r), some (iV z), some (rV (some (ec w r))), some (iV (cnt (fun k => rM R r (dw R (R 5) k).toNat) k z)), some (iV k), o6] [] (I, Z) Q := by
  have hN := hI.1.n
  have hkN := kN_le R
  have hc := hI.1.c
  have e5 := hI.k5
  have hct := (hC.now.2.2.2 r (by omega)).2
  have hcv := (hI.2.1.2.2.2.2.2 r hr).2.2.2.2.2.2
  intro t
  induction t with
  | zero =>
    intro k a b o6 ht hk
    have e : k = kN R := by omega
    unfold mkd at h
    rw [← e] at h
    refine s8_mistakes_34 (n_p2 := 300) (n_p3 := 200) (am_ow hC.o) hC.p6 (am_ow hC.audit.1) hC.audit.2.1.2.2.2.1 (am_rw hC.audit.2.2.1.2.2.2.1) (am_ow hct.1) hct.2.1.2.2.1 (am_rw hct.2.2.2.2.1) (fun _ => h) (fun _ _ => h) (fun c1 => ?_) (fun c1 => ?_) (fun c1 => ?_) (fun c1 => ?_) <;> exact absurd (by dsimp only; rw [e5]; omega) c1
  | succ t ih =>
    intro k a b o6 ht hk
    have ih := fun o6 => ih (k + 1) (a := a) (b := b) (o6 := o6) (by omega) (by omega)
    have hpos := (goes_at (R := R) 300 0 k (by omega) (show k < goes R (dw R (R 5)) (R 6) 300 0 by have : kN R = goes R (dw R (R 5)) (R 6) 300 0 := rfl; omega)).2.2
    have hdw := dw_rng (R := R) (z := R 5) (k := k) hpos
    have ed : I (47 + 10) k = dw R (R 5) k := hI.2.2.2.2.2.2.2.1 k (by omega)
    have em : I (ec w r + 3) (dw R (R 5) k).toNat = rM R r (dw R (R 5) k).toNat := (hcv _ (by omega)).2.2
    have hcr := cnt_rng (fun k => rM R r (dw R (R 5) k).toNat) z k
    rw [cnt_s] at ih
    refine s8_mistakes_34 (n_p2 := 300) (n_p3 := 200) (am_ow hC.o) hC.p6 (am_ow hC.audit.1) hC.audit.2.1.2.2.2.1 (am_rw hC.audit.2.2.1.2.2.2.1) (am_ow hct.1) hct.2.1.2.2.1 (am_rw hct.2.2.2.2.1) (fun c1 => ?_) (fun _ c1 => absurd c1 (by omega)) (fun _ _ c1 => absurd c1 (by dsimp only; rw [tnc, ed]; omega)) (fun _ _ _ c1 => absurd c1 (by dsimp only; rw [tnc, ed]; omega)) (fun c1 _ _ _ c2 => ?_) (fun c1 _ _ _ c2 => ?_)
    · exact absurd c1 (by dsimp only; rw [e5]; omega)
    · dsimp only at c2
      rw [tnc, ed, em] at c2
      rw [if_neg c2, Int.add_zero] at ih
      rw [wrs (by omega)]
      exact ih _
    · dsimp only at c2
      rw [tnc, ed, em] at c2
      rw [if_pos c2] at ih
      rw [wrs (by omega), wr_of (by omega) (by omega)]
      exact ih _
theorem q_mistakes {i z : Int} (hd : 2 ≤ dp) (hC : Cl (I, Z) w s) (hI : CI I w R) (h0 : ∀ r : Nat, i = r → r < rC R → r < 3 → -2 ≤ z → z ≤ 2 → Q (.inl (some (iV (mkd R r z)))) (I, Z)) (h1 : (¬ isR R i ∨ ¬ (-2 ≤ z ∧ z ≤ 2)) → Q (.inr 1) (I, Z)) : T G dp 4 24 M8_mistakes [rV (some 1), iV i, iV z] (I, Z) Q := by
  refine T8_mistakes (s8_mistakes_0 (by omega) (by omega) (by omega) (am_ow hC.o) fun Q' hK hE => ct_contestOf hC hI (fun r er hr hr3 => hK _ _ ?_) (fun q => hE _ _ (h1 (Or.inl q))))
  subst er
  exact s8_mistakes_5 (by omega) (by omega) (fun c1 => hC.nx (h1 (Or.inr (by omega)))) (fun c1 c2 => lp_mistakes hC hI hr (h0 r rfl hr hr3 (by omega) c2) _ 0 rfl (by omega)) (fun c1 c2 => hC.nx (h1 (Or.inr (by omega))))
end
