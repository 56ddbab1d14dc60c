/-! THE CLASS: supposed audits -/
def mN (R : Nat → Int) (z : Int) : Nat := goes R (dw R z) (R 4) 300 0
theorem mN_le (R : Nat → Int) (z : Int) : mN R z ≤ 300 := by have := (goes_le (R := R) (d := dw R z) (most := R 4) 300 0).2; unfold mN; omega
def tr1 (R : Nat → Int) (r : Nat) (g z : Int) : Int := if g = 1 then mN R z else if (rs R (dw R z) r (mN R z)).2.2 ≠ -1 ∧ (g = 0 ∨ rW R r ≠ rO R r) then 1 else 0
def tsum (R : Nat → Int) (r : Nat) (g seed : Int) : Nat → Int
  | 0 => 0
  | k + 1 => tsum R r g seed k + tr1 R r g (wr (seed + k))
theorem tr1_rng {R : Nat → Int} {r : Nat} {g z : Int} : 0 ≤ tr1 R r g z ∧ tr1 R r g z ≤ 300 := by
  have := mN_le R z
  unfold tr1
  split
  · omega
  · split <;> omega
theorem tsum_rng {R : Nat → Int} {r : Nat} {g seed : Int} : ∀ k : Nat, 0 ≤ tsum R r g seed k ∧ tsum R r g seed k ≤ 300 * k
  | 0 => by unfold tsum; omega
  | k + 1 => by
    have ih := tsum_rng (R := R) (r := r) (g := g) (seed := seed) k
    have := tr1_rng (R := R) (r := r) (g := g) (z := wr (seed + k))
    unfold tsum
    omega
def qgo (R : Nat → Int) (seed : Int) : Nat → Int × Int
  | 0 => (-1, 0)
  | k + 1 => if pnd R (dw R (wr (seed + k))) (mN R (wr (seed + k))) (rC R) = 0 ∧ ((qgo R seed k).1 = -1 ∨ (mN R (wr (seed + k)) : Int) < (qgo R seed k).2) then (k, mN R (wr (seed + k))) else qgo R seed k
section
variable {G : am_G} {dp : Nat} {Q : am_Q} {w s : Nat} {R : Nat → Int} {Z : (Nat → Nat → Option Nat) × (Nat → Nat × Nat) × Nat × Bool} {I : Nat → Nat → Int}
theorem ct_seekTries {m : am_M} {i : Int} (hC : Cl m w s) (h0 : 1 ≤ i → i ≤ 30 → Q (.inl none) m) (h1 : ¬ (1 ≤ i ∧ i ≤ 30) → Q (.inr 0) m) : T G dp 1 6 M8_seekTries [iV i] m Q :=
  T8_seekTries (s8_seekTries_0 (by omega) (by omega) (fun c1 => hC.nx0 (h1 (by omega))) (fun c1 c2 => h0 (by omega) c2) (fun c1 c2 => hC.nx0 (h1 (by omega))))
theorem lp_tries {r n : Nat} {seed g N : Int} {I0 : Nat → Nat → Int} (hd : 6 ≤ dp) (hC : Cl (I0, Z) w s) (hI : CI I0 w R) (hr : r < rC R) (hN : N = n) (hn : n ≤ 30) (h : ∀ I' : Nat → Nat → Int, (∀ x, x < 59 ∨ 71 ≤ x → I' x = I0 x) → Q (.inl (some (iV (tsum R r g seed n)))) (I', Z)) : ∀ (t k : Nat) (I : Nat → Nat → Int) {a b : Nat}, n - k = t → k ≤ n → (∀ x, x < 59 ∨ 71 ≤ x → I x = I0 x) → X G dp a b M8_tries 39 [some (rV (some 1)), some (iV r), some (iV seed), some (iV N), some (iV g), some (rV (some (ec w r))), some (iV (tsum R r g seed k)), some (iV k)] [] (I, Z) Q := by
  have hw := hC.ws
  have hR := hI.1
  have hc := hR.c
  have hct := (hC.now.2.2.2 r (by omega)).2
  intro t
  induction t with
  | zero =>
    intro k I a b ht hk hf
    have e : k = n := by omega
    subst e
    exact s8_tries_39 (by omega) (am_ow hC.o) hC.p7 hC.p4 (am_ow hC.trial.1) (fun _ => h I hf) (fun c1 => absurd (by omega) c1)
  | succ t ih =>
    intro k I a b ht hk hf
    have ih := fun I' hf' => ih (k + 1) I' (a := a) (b := b) (by omega) (by omega) hf'
    have hII : CI I w R := hI.same (fun x q1 q2 => hf x (by omega)) (fun x q1 q2 => hf x (by omega))
    have hts := tsum_rng (R := R) (r := r) (g := g) (seed := seed) k
    have htr := tr1_rng (R := R) (r := r) (g := g) (z := wr (seed + k))
    have es : tsum R r g seed (k + 1) = tsum R r g seed k + tr1 R r g (wr (seed + k)) := rfl
    rw [es] at ih
    refine s8_tries_39 (by omega) (am_ow hC.o) hC.p7 hC.p4 (am_ow hC.trial.1) (fun c1 => absurd c1 (by omega)) (fun c1 Q' hK => ct_begin (R := R) (by omega) hC.trial hC.now hII.2.1 hR (by omega) (fun I1 g1 g2 => hK _ ?_))
    have hv1 : ElV I1 w R := hII.2.1.same hR fun x q1 q2 => g1 x (by omega)
    have e4 : I1 (w + 2) 2 = R 4 := hv1.2.2.2.2.1.2.2
    refine s8_tries_60 (n_p3 := 3) (by omega) (am_ow hC.o) hC.p7 hC.p4 (am_ow hC.now.1) hC.now.2.1.2 (am_rw hC.now.2.2.1.2) (am_ow hC.trial.1) fun Q' hK => ?_
    dsimp only
    rw [show (2 : Int).toNat = 2 from rfl, e4]
    refine ct_goOn (k := 0) (R := R) (by omega) hC.trial hC.now hv1 hR (by omega) (by omega) g2 (fun I2 q1 q2 => hK _ ?_)
    have q2 : AuV I2 59 R (wr (seed + k)) (mN R (wr (seed + k))) := q2
    have hf2 : ∀ x, x < 59 ∨ 71 ≤ x → I2 x = I0 x := fun x hx => by rw [q1 x (by omega), g1 x (by omega)]; exact hf x hx
    have e5 : I2 59 5 = mN R (wr (seed + k)) := q2.1
    have ed : I2 (59 + 9) r = (rs R (dw R (wr (seed + k))) r (mN R (wr (seed + k)))).2.2 := (q2.2.2.2.2.1 r hr).2.2
    refine s8_tries_80 (by omega) (am_ow hC.o) hC.p7 (am_ow hC.trial.1) hC.p7 (am_ow hC.trial.1) (fun c2 Q' hK => ct_isDoneV hC.trial (by omega) ed (hK _ _ ?_)) (fun c2 => ?_)
    · unfold tr1 at ih htr
      rw [if_neg c2] at ih htr
      have hcv := (hII.2.1.2.2.2.2.2 r hr)
      have e7 : I2 (ec w r) 7 = rW R r := by rw [hf2 _ (by unfold ec; omega), ← hf _ (by unfold ec; omega)]; exact hcv.2.2.1
      have e8 : I2 (ec w r) 8 = rO R r := by rw [hf2 _ (by unfold ec; omega), ← hf _ (by unfold ec; omega)]; exact hcv.2.2.2.1
      refine s8_tries_109 (am_ow hct.1) (fun c3 => ?_) (fun c3 c4 => ?_) (fun c3 c4 c5 => ?_) (fun c3 c4 c5 => ?_)
      · have q : (rs R (dw R (wr (seed + k))) r (mN R (wr (seed + k)))).2.2 = -1 := by
          by_cases q : (rs R (dw R (wr (seed + k))) r (mN R (wr (seed + k)))).2.2 = -1
          · exact q
          · rw [if_neg q] at c3; omega
        rw [if_neg (fun z => z.1 q), Int.add_zero] at ih
        rw [wrs (by omega)]; exact ih _ hf2
      · have q : (rs R (dw R (wr (seed + k))) r (mN R (wr (seed + k)))).2.2 ≠ -1 := fun q => c3 (by rw [if_pos q])
        rw [if_pos ⟨q, Or.inl c4⟩] at ih
        rw [wrs (by omega), wr_of (by omega) (by omega)]; exact ih _ hf2
      · dsimp only at c5
        rw [e7, e8] at c5
        rw [if_neg (fun z => z.2.elim c4 (fun z => z (by omega))), Int.add_zero] at ih
        rw [wrs (by omega)]; exact ih _ hf2
      · have q : (rs R (dw R (wr (seed + k))) r (mN R (wr (seed + k)))).2.2 ≠ -1 := fun q => c3 (by rw [if_pos q])
        dsimp only at c5
        rw [e7, e8] at c5
        rw [if_pos ⟨q, Or.inr (by omega)⟩] at ih
        rw [wrs (by omega), wr_of (by omega) (by omega)]; exact ih _ hf2
    · unfold tr1 at ih htr
      rw [if_pos c2] at ih htr
      dsimp only
      rw [e5, wrs (by omega), wr_of (by omega) (by omega)]
      exact ih _ hf2
theorem q_tries {i seed N g : Int} (hd : 7 ≤ dp) (hC : Cl (I, Z) w s) (hI : CI I w R) (h1 : (¬ isR R i ∨ ¬ (0 ≤ g ∧ g ≤ 2)) → Q (.inr 1) (I, Z)) (h2 : isR R i → 0 ≤ g → g ≤ 2 → ¬ (1 ≤ N ∧ N ≤ 30) → Q (.inr 0) (I, Z)) (h0 : ∀ r n : Nat, i = r → r < rC R → r < 3 → 0 ≤ g → g ≤ 2 → N = n → 1 ≤ n → n ≤ 30 → ∀ I' : Nat → Nat → Int, (∀ x, x < 59 ∨ 71 ≤ x → I' x = I x) → Q (.inl (some (iV (tsum R r g seed n)))) (I', Z)) : T G dp 4 24 M8_tries [rV (some 1), iV i, iV seed, iV N, iV g] (I, Z) Q := by
  have hc := hI.1.c
  refine T8_tries (s8_tries_0 (by omega) (by omega) (by omega) (am_ow hC.o) fun Q' hK hE => ct_contestOf hC hI (fun r er hr hr3 => hK _ _ ?_) (fun q => hE _ _ (h1 (Or.inl q))))
  subst er
  refine s8_tries_5 (by omega) (by omega) (by omega) (fun c1 => hC.nx (h1 (Or.inr (by omega)))) (fun c1 c2 Q' hK hE => ct_seekTries hC (fun b1 b2 => hK _ (s8_tries_33 ?_)) (fun q => hE _ _ (h2 ⟨by omega, by omega⟩ (by omega) c2 q))) (fun c1 c2 => hC.nx (h1 (Or.inr (by omega))))
  exact lp_tries (n := N.toNat) (by omega) hC hI hr (by omega) (by omega) (h0 r N.toNat rfl hr hr3 (by omega) c2 (by omega) (by omega) (by omega)) _ 0 I rfl (by omega) (fun _ _ => rfl)
theorem lp_quick {n : Nat} {seed N : Int} {I0 : Nat → Nat → Int} (hd : 6 ≤ dp) (hC : Cl (I0, Z) w s) (hI : CI I0 w R) (hN : N = n) (hn : n ≤ 30) (h : ∀ I' : Nat → Nat → Int, (∀ x, x < 59 ∨ 71 ≤ x → I' x = I0 x) → Q (.inl (some (iV (qgo R seed n).1))) (I', Z)) : ∀ (t k : Nat) (I : Nat → Nat → Int) {a b : Nat}, n - k = t → k ≤ n → (∀ x, x < 59 ∨ 71 ≤ x → I x = I0 x) → X G dp a b M8_quickest 12 [some (rV (some 1)), some (iV seed), some (iV N), some (iV (qgo R seed k).1), some (iV (qgo R seed k).2), some (iV k)] [] (I, Z) Q := by
  have hw := hC.ws
  have hR := hI.1
  intro t
  induction t with
  | zero =>
    intro k I a b ht hk hf
    have e : k = n := by omega
    subst e
    exact s8_quickest_12 (by omega) (am_ow hC.o) hC.p7 hC.p4 (am_ow hC.trial.1) (fun _ => h I hf) (fun c1 => absurd (by omega) c1)
  | succ t ih =>
    intro k I a b ht hk hf
    have ih := fun I' hf' => ih (k + 1) I' (a := a) (b := b) (by omega) (by omega) hf'
    have hII : CI I w R := hI.same (fun x q1 q2 => hf x (by omega)) (fun x q1 q2 => hf x (by omega))
    unfold qgo at ih
    refine s8_quickest_12 (by omega) (am_ow hC.o) hC.p7 hC.p4 (am_ow hC.trial.1) (fun c1 => absurd c1 (by omega)) (fun c1 Q' hK => ct_begin (R := R) (by omega) hC.trial hC.now hII.2.1 hR (by omega) (fun I1 g1 g2 => hK _ ?_))
    have hv1 : ElV I1 w R := hII.2.1.same hR fun x q1 q2 => g1 x (by omega)
    have e4 : I1 (w + 2) 2 = R 4 := hv1.2.2.2.2.1.2.2
    refine s8_quickest_33 (n_p3 := 3) (by omega) (am_ow hC.o) hC.p7 hC.p4 (am_ow hC.now.1) hC.now.2.1.2 (am_rw hC.now.2.2.1.2) (am_ow hC.trial.1) fun Q' hK => ?_
    dsimp only
    rw [show (2 : Int).toNat = 2 from rfl, e4]
    refine ct_goOn (k := 0) (R := R) (by omega) hC.trial hC.now hv1 hR (by omega) (by omega) g2 (fun I2 q1 q2 => hK _ ?_)
    have q2 : AuV I2 59 R (wr (seed + k)) (mN R (wr (seed + k))) := q2
    have hf2 : ∀ x, x < 59 ∨ 71 ≤ x → I2 x = I0 x := fun x hx => by rw [q1 x (by omega), g1 x (by omega)]; exact hf x hx
    have e5 : I2 59 5 = mN R (wr (seed + k)) := q2.1
    refine s8_quickest_53 (by omega) (am_ow hC.o) hC.p7 (am_ow hC.trial.1) fun Q' hK => ct_isOverV hC.trial q2.2.2.1 (hK _ _ ?_)
    refine s8_quickest_60 (am_ow hC.o) hC.p7 (am_ow hC.trial.1) hC.p7 (am_ow hC.trial.1) (fun c2 => ?_) (fun c2 c3 => ?_) (fun c2 c3 c4 => ?_) (fun c2 c3 c4 => ?_)
    all_goals try dsimp only at *
    · have q : pnd R (dw R (wr (seed + k))) (mN R (wr (seed + k))) (rC R) ≠ 0 := fun q => by rw [q] at c2; exact absurd c2 (by decide)
      rw [if_neg (fun z => q z.1)] at ih
      rw [wrs (by omega)]; exact ih _ hf2
    · have q : pnd R (dw R (wr (seed + k))) (mN R (wr (seed + k))) (rC R) = 0 := by
        by_cases q : pnd R (dw R (wr (seed + k))) (mN R (wr (seed + k))) (rC R) = 0
        · exact q
        · exact absurd (if_neg (by omega)) c2
      rw [if_pos ⟨q, Or.inl c3⟩] at ih
      rw [wrs (by omega), e5]; exact ih _ hf2
    · rw [e5] at c4
      rw [if_neg (fun z => z.2.elim c3 (fun z => by omega))] at ih
      rw [wrs (by omega)]; exact ih _ hf2
    · have q : pnd R (dw R (wr (seed + k))) (mN R (wr (seed + k))) (rC R) = 0 := by
        by_cases q : pnd R (dw R (wr (seed + k))) (mN R (wr (seed + k))) (rC R) = 0
        · exact q
        · exact absurd (if_neg (by omega)) c2
      rw [e5] at c4
      rw [if_pos ⟨q, Or.inr (by omega)⟩] at ih
      rw [wrs (by omega), e5]; exact ih _ hf2
theorem q_quickest {seed N : Int} (hd : 7 ≤ dp) (hC : Cl (I, Z) w s) (hI : CI I w R) (h1 : ¬ (1 ≤ N ∧ N ≤ 30) → Q (.inr 0) (I, Z)) (h0 : ∀ n : Nat, N = n → 1 ≤ n → n ≤ 30 → ∀ I' : Nat → Nat → Int, (∀ x, x < 59 ∨ 71 ≤ x → I' x = I x) → Q (.inl (some (iV (qgo R seed n).1))) (I', Z)) : T G dp 4 24 M8_quickest [rV (some 1), iV seed, iV N] (I, Z) Q := by
  refine T8_quickest (s8_quickest_0 (by omega) (by omega) (by omega) fun Q' hK hE => ct_seekTries hC (fun b1 b2 => hK _ (s8_quickest_4 ?_)) (fun q => hE _ _ (h1 q)))
  exact lp_quick (n := N.toNat) (by omega) hC hI (by omega) (by omega) (h0 N.toNat (by omega) (by omega) (by omega)) _ 0 I rfl (by omega) (fun _ _ => rfl)
end
