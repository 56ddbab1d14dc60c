/-! AUDITS: going on, beginning -/
/-- how many draws count where it goes on from k till most, t steps at most -/
def goes (R : Nat → Int) (d : Nat → Int) (most : Int) : Nat → Nat → Nat
  | 0, k => k
  | t + 1, k => if (k : Int) < most ∧ pnd R d k (rC R) ≠ 0 ∧ 0 < R 1 then goes R d most t (k + 1) else k
theorem goes_le {R : Nat → Int} {d : Nat → Int} {most : Int} : ∀ t k : Nat, k ≤ goes R d most t k ∧ goes R d most t k ≤ k + t
  | 0, k => ⟨Nat.le_refl _, Nat.le_refl _⟩
  | t + 1, k => by
    unfold goes
    have h := goes_le (R := R) (d := d) (most := most) t (k + 1)
    split <;> omega
theorem lp_goOn {G : am_G} {dp : Nat} {Q : am_Q} {a e : Nat} {R : Nat → Int} {z most : Int} {Z : (Nat → Nat → Option Nat) × (Nat → Nat × Nat) × Nat × Bool} {I0 : Nat → Nat → Int} (hd : 5 ≤ dp) (ha : Au (I0, Z) a) (he : El (I0, Z) e) (hv : ElV I0 e R) (hR : RV R) (hs : e + 21 ≤ a ∨ a + 12 ≤ e) : ∀ (t k : Nat) (I : Nat → Nat → Int), k + t = 300 → (∀ x, x < a ∨ a + 12 ≤ x → I x = I0 x) → AuV I a R z k → (∀ I' : Nat → Nat → Int, (∀ x, x < a ∨ a + 12 ≤ x → I' x = I0 x) → AuV I' a R z (goes R (dw R z) most t k) → Q (.inl none) (I', Z)) → X G dp 0 0 M1_goOn 5 [some (rV (some a)), some (rV (some e)), some (iV most), some (iV k)] [] (I, Z) Q := by
  intro t
  induction t with
  | zero =>
    intro k I ht h1 hA h
    have hf := h I h1 hA
    refine s1_goOn_5 (by omega) (am_ow ha.1) (fun _ => hf) (fun _ _ => hf) (fun c1 c2 => absurd (by omega) c2)
  | succ t ih =>
    intro k I ht h1 hA h
    have hN := hR.n
    have hvI : ElV I e R := hv.same hR fun x hx1 hx2 => h1 x (by omega)
    unfold goes at h
    refine s1_goOn_5 (by omega) (am_ow ha.1) (fun c1 => ?_) (fun c1 c2 => absurd c2 (by omega)) (fun c1 c2 Q' hK => ct_isOver ha (hK _ _ ?_))
    · rw [if_neg (by omega)] at h
      exact h I h1 hA
    · dsimp only
      refine s1_goOn_21 (by omega) (am_ow he.1) (am_ow ha.1) (fun c3 => ?_) (fun c3 c4 => ?_) (fun c3 c4 Q' hK => ?_)
      · have q : I a 7 = 0 := by by_cases q : I a 7 = 0; exact q; exact absurd (by rw [if_neg q]) c3
        rw [hA.2.2.1] at q
        rw [if_neg (fun z => z.2.1 (by omega))] at h
        exact h I h1 hA
      · dsimp only at c4
        rw [hvI.2.1] at c4
        rw [if_neg (fun z => by omega)] at h
        exact h I h1 hA
      · dsimp only at c4
        rw [hvI.2.1] at c4
        have q : I a 7 ≠ 0 := fun q => by rw [if_pos q] at c3; omega
        rw [hA.2.2.1] at q
        rw [if_pos ⟨by omega, by omega, by omega⟩] at h
        refine ct_drawOne (k := k) (by omega) ha he hvI hR hs (by omega) (by omega) hA (fun I' g1 g2 => hK _ (s1_goOn_36 ?_))
        rw [wrs (by omega)]
        exact ih (k + 1) I' (by omega) (fun x hx => by rw [g1 x hx]; exact h1 x hx) g2 h
theorem ct_goOn {G : am_G} {dp : Nat} {Q : am_Q} {a e k : Nat} {R : Nat → Int} {z most : Int} {Z : (Nat → Nat → Option Nat) × (Nat → Nat × Nat) × Nat × Bool} {I0 : Nat → Nat → Int} (hd : 5 ≤ dp) (ha : Au (I0, Z) a) (he : El (I0, Z) e) (hv : ElV I0 e R) (hR : RV R) (hs : e + 21 ≤ a ∨ a + 12 ≤ e) (hk : k ≤ 300) (hA : AuV I0 a R z k) (h : ∀ I' : Nat → Nat → Int, (∀ x, x < a ∨ a + 12 ≤ x → I' x = I0 x) → AuV I' a R z (goes R (dw R z) most (300 - k) k) → Q (.inl none) (I', Z)) : T G dp 0 0 M1_goOn [rV (some a), rV (some e), iV most] (I0, Z) Q := by
  refine T1_goOn (s1_goOn_0 (am_ow ha.1) ?_)
  dsimp only
  rw [hA.1]
  exact lp_goOn hd ha he hv hR hs (300 - k) k I0 (by omega) (fun _ _ => rfl) hA h
theorem pnd_0 (R : Nat → Int) (d : Nat → Int) : ∀ n : Nat, pnd R d 0 n = n
  | 0 => rfl
  | n + 1 => by
    unfold pnd
    rw [pnd_0 R d n]
    rfl
theorem lp_begin {G : am_G} {dp : Nat} {Q : am_Q} {a e : Nat} {z : Int} {Z : (Nat → Nat → Option Nat) × (Nat → Nat × Nat) × Nat × Bool} {I0 : Nat → Nat → Int} (hd : 2 ≤ dp) (ha : Au (I0, Z) a) : ∀ (t i : Nat) (I : Nat → Nat → Int), i + t = 3 → (∀ x, x < a + 2 ∨ a + 10 ≤ x → I x = I0 x) → (∀ r, r < i → (∀ j, j < 4 → I (a + 2 + r) j = 1000000000) ∧ I (a + 6 + r) 0 = 1000000000 ∧ I (a + 9) r = -1) → (∀ I' : Nat → Nat → Int, (∀ x, x < a + 2 ∨ a + 10 ≤ x → I' x = I0 x) → (∀ r, r < 3 → (∀ j, j < 4 → I' (a + 2 + r) j = 1000000000) ∧ I' (a + 6 + r) 0 = 1000000000 ∧ I' (a + 9) r = -1) → Q (.inl none) (I', Z)) → X G dp 0 0 M1_begin 33 [some (rV (some a)), some (rV (some e)), some (iV z), some (iV i)] [] (I, Z) Q := by
  intro t
  induction t with
  | zero =>
    intro i I ht h1 h2 h
    have e3 : i = 3 := by omega
    subst e3
    refine s1_begin_33 (n_p1 := 3) (p2 := 0) (by omega) (am_ow ha.1) ha.2.1.1 (Or.inr rfl) (am_rw ha.2.2.1.1) (fun c1 => absurd (by omega) c1) (fun c1 => h I h1 h2) (fun c1 => absurd (by omega) c1)
  | succ t ih =>
    intro i I ht h1 h2 h
    have hra := ha.2.2.2 i (by omega)
    refine s1_begin_33 (n_p1 := 3) (by omega) (am_ow ha.1) ha.2.1.1 (Or.inr rfl) (am_rw ha.2.2.1.1) (fun _ => hra.1.1) (fun c1 => absurd c1 (by omega)) (fun c1 Q' hK => ct_fillL hra.2.1 (by omega) (hK _ ?_))
    refine s1_begin_50 (n_p1 := 3) (n_p2 := 301) (n_p3 := 3) (am_ow ha.1) ha.2.1.2.1 (Or.inr rfl) (am_rw ha.2.2.1.2.1) hra.1.2 hra.2.2 ha.2.1.2.2.1 ha.2.2.1.2.2.1 ?_
    rw [wrs (by omega)]
    dsimp only
    rw [tnc]
    refine ih (i + 1) _ (by omega) (fun x hx => ?_) (fun r hr => ⟨fun j hj => ?_, ?_, ?_⟩) h
    · rw [u2r (by omega), u2r (by omega), stR_row (by omega)]; exact h1 x hx
    · rw [u2r (by omega), u2r (by omega)]
      by_cases q : r = i
      · subst q; exact stR_at hj
      · rw [stR_row (by omega)]; exact (h2 r (by omega)).1 j hj
    · rw [u2r (by omega)]
      by_cases q : r = i
      · subst q; exact u2_at
      · rw [u2r (by omega), stR_row (by omega)]; exact (h2 r (by omega)).2.1
    · by_cases q : r = i
      · subst q; exact u2_at
      · rw [u2n (by omega), u2r (by omega), stR_row (by omega)]; exact (h2 r (by omega)).2.2
theorem ct_begin {G : am_G} {dp : Nat} {Q : am_Q} {a e : Nat} {R : Nat → Int} {z : Int} {Z : (Nat → Nat → Option Nat) × (Nat → Nat × Nat) × Nat × Bool} {I0 : Nat → Nat → Int} (hd : 2 ≤ dp) (ha : Au (I0, Z) a) (he : El (I0, Z) e) (hv : ElV I0 e R) (hR : RV R) (hs : e + 21 ≤ a ∨ a + 12 ≤ e) (h : ∀ I' : Nat → Nat → Int, (∀ x, x < a ∨ a + 12 ≤ x → I' x = I0 x) → AuV I' a R z 0 → Q (.inl none) (I', Z)) : T G dp 0 0 M1_begin [rV (some a), rV (some e), iV z] (I0, Z) Q := by
  have hc := hR.c
  refine T1_begin (s1_begin_0 (by omega) (am_ow ha.1) ha.2.1.2.2.2.2 fun Q' hK => ct_fillI ha.2.2.1.2.2.2.2 (by omega) (hK _ (s1_begin_8 ha.1 (am_ow he.1) ?_)))
  dsimp only
  generalize hJ : u2 (u2 (u2 (u2 (stR I0 (a + 11) 200 fun _ => 0) a 5 0) a 6 0) a 7 (u2 (u2 (stR I0 (a + 11) 200 fun _ => 0) a 5 0) a 6 0 e 2)) a 8 z = J
  have r1 : ∀ x, x ≠ a → x ≠ a + 11 → J x = I0 x := fun x hx hx2 => by rw [← hJ, u2r hx, u2r hx, u2r hx, u2r hx, stR_row hx2]
  have j5 : J a 5 = 0 := by rw [← hJ, u2n (by omega), u2n (by omega), u2n (by omega)]; exact u2_at
  have j6 : J a 6 = 0 := by rw [← hJ, u2n (by omega), u2n (by omega)]; exact u2_at
  have j7 : J a 7 = rC R := by rw [← hJ, u2n (by omega), u2_at, u2r (by omega), u2r (by omega), stR_row (by omega), hv.1]; exact hc.1
  have j8 : J a 8 = z := by rw [← hJ]; exact u2_at
  have j11 : ∀ b, b < 200 → J (a + 11) b = 0 := fun b hb => by rw [← hJ, u2r (by omega), u2r (by omega), u2r (by omega), u2r (by omega)]; exact stR_at hb
  refine lp_begin (I0 := J) hd ha 3 0 J rfl (fun _ _ => rfl) (fun r hr => absurd hr (by omega)) (fun I' g1 g2 => h I' (fun x hx => ?_) ⟨?_, ?_, ?_, ?_, fun r hr => ⟨fun j hj => ?_, fun j hj => ?_, ?_⟩, fun j hj => absurd hj (by omega), fun b hb => ?_⟩)
  · rw [g1 x (by omega)]; exact r1 x (by omega) (by omega)
  · rw [g1 a (by omega)]; exact j5
  · rw [g1 a (by omega)]; exact j6
  · rw [g1 a (by omega), pnd_0]; exact j7
  · rw [g1 a (by omega)]; exact j8
  · exact (g2 r (by omega)).1 j hj
  · rw [show j = 0 by omega]; exact (g2 r (by omega)).2.1
  · exact (g2 r (by omega)).2.2
  · rw [g1 (a + 11) (by omega)]; exact j11 b hb
