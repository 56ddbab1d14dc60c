/-! THE REFERENCE: a ballot's step -/
section
variable {G : am_G} {dp : Nat} {Q : am_Q} {R : Nat → Int} {Z : (Nat → Nat → Option Nat) × (Nat → Nat × Nat) × Nat × Bool}
theorem LdV.same {I I' : Nat → Nat → Int} (h : LdV I R) (hs : ∀ x, 109 ≤ x → x < 115 → I' x = I x) : LdV I' R := by
  refine ⟨h.1.same (hs 109 (by omega) (by omega)) (hs 110 (by omega) (by omega)), fun r hr => ?_⟩
  have q := h.2 r hr
  unfold Ld1 at q ⊢
  rw [hs 111 (by omega) (by omega), hs 112 (by omega) (by omega), hs 113 (by omega) (by omega), hs 114 (by omega) (by omega)]
  exact q
theorem lp_polls {I0 : Nat → Nat → Int} {r : Nat} {ch : Int} {own : Nat → Int} (hd : 3 ≤ dp) (hM : Md (I0, Z)) (hv : RowV I0 R) (hR : RV R) (hL : LdV I0 R) (hr : r < rC R) (ho : ∀ c, c < 4 → I0 115 (4 * r + c) = own c) (hor : ∀ c, 1 ≤ own c ∧ own c ≤ 10000000000000) (h : ∀ I' : Nat → Nat → Int, (∀ x, x ≠ 115 → I' x = I0 x) → (∀ c, c < 4 → I' 115 (4 * r + c) = stO R r own ch c) → (∀ j, j < 4 * r ∨ 4 * r + 4 ≤ j → I' 115 j = I0 115 j) → Q (.inl none) (I', Z)) : ∀ (t k : Nat) (I : Nat → Nat → Int), rK R r - k = t → k ≤ rK R r → (∀ x, x ≠ 115 → I x = I0 x) → (∀ c, c < 4 → I 115 (4 * r + c) = if c < k then stO R r own ch c else own c) → (∀ j, j < 4 * r ∨ 4 * r + 4 ≤ j → I 115 j = I0 115 j) → X G dp 0 0 M9_polls 2 [some (rV (some 103)), some (iV r), some (iV ch), some (iV k)] [] (I, Z) Q := by
  have hc := hR.c
  have hK4 := hR.k hr
  intro t
  induction t with
  | zero =>
    intro k I ht hk hf h1 h2
    have hvI : RowV I R := fun j hj => by rw [hf 104 (by omega)]; exact hv j hj
    have e : k = rK R r := by omega
    refine s9_polls_2 (by omega) (am_ow hM.1) fun Q' hK => md_candidates (m := (I, Z)) hM hvI (by omega) (hK _ _ ?_)
    refine s9_polls_8 (n_p1 := 3) (n_p2 := 12) (by omega) (am_ow hM.1) hM.winner.1 (am_rw hM.winner.2) hM.risks.1 (am_rw hM.risks.2) (fun _ => h I hf (fun c hc4 => ?_) h2) (fun c1 => absurd (by omega) c1) (fun c1 => absurd (by omega) c1) (h8 := fun c1 => absurd (by omega) c1) (h9 := fun c1 => absurd (by omega) c1)
    rw [h1 c hc4]
    by_cases q : c < k
    · rw [if_pos q]
    · rw [if_neg q]; unfold stO; rw [if_neg (fun z => by omega)]
  | succ t ih =>
    intro k I ht hk hf h1 h2
    have hvI : RowV I R := fun j hj => by rw [hf 104 (by omega)]; exact hv j hj
    have hLI : LdV I R := hL.same fun x a b => hf x (by omega)
    have ew : I 111 r = rW R r := hLI.w hr
    have ek : I 115 (4 * r + k) = own k := by rw [h1 k (by omega), if_neg (by omega)]
    have hok := hor k
    have stp : ∀ (J : Nat → Nat → Int), (∀ x, x ≠ 115 → J x = I x) → J 115 (4 * r + k) = stO R r own ch k → (∀ j, j ≠ 4 * r + k → J 115 j = I 115 j) → X G dp 0 0 M9_polls 2 [some (rV (some 103)), some (iV r), some (iV ch), some (iV ((k + 1 : Nat) : Int))] [] (J, Z) Q := fun J a1 a2 a3 => by
      refine ih (k + 1) J (by omega) (by omega) (fun x hx => by rw [a1 x hx]; exact hf x hx) (fun c hc4 => ?_) (fun j hj => by rw [a3 j (by omega)]; exact h2 j hj)
      by_cases e : c = k
      · subst e; rw [a2, if_pos (by omega)]
      · rw [a3 _ (by omega), h1 c hc4]
        by_cases q : c < k
        · rw [if_pos q, if_pos (by omega)]
        · rw [if_neg q, if_neg (by omega)]
    refine s9_polls_2 (by omega) (am_ow hM.1) fun Q' hK => md_candidates (m := (I, Z)) hM hvI (by omega) (hK _ _ ?_)
    refine s9_polls_8 (n_p1 := 3) (n_p2 := 12) (by omega) (am_ow hM.1) hM.winner.1 (am_rw hM.winner.2) hM.risks.1 (am_rw hM.risks.2) (fun c1 => absurd c1 (by omega)) (fun c1 c2 Q' hK => ?_) (fun c1 c2 => ?_) (h8 := fun _ _ => by rw [ix4 (by omega) (by omega)]; omega) (h9 := fun _ _ => by rw [ix4 (by omega) (by omega)]; omega)
    · dsimp only at c2 hK ⊢
      rw [tnc, ew] at c2
      rw [ix4 (by omega) (by omega)] at hK ⊢
      rw [tnc, ek]
      refine md_polled (I := I) (by omega) hM hR hLI hr (by omega) (by omega) hok.2 (hK _ _ ?_)
      refine s9_polls_50 (n_r92 := 12) hM.risks.2 ?_
      rw [wrs (by omega), tnc]
      have eO : stO R r own ch k = pol (rT R r) (rW R r) k (own k) ch := by unfold stO; rw [if_pos ⟨by omega, by omega⟩]
      rw [← eO]
      exact stp _ (fun x hx => u2r hx) u2_at (fun j hj => u2n hj)
    · dsimp only at c2
      rw [tnc, ew] at c2
      rw [wrs (by omega)]
      exact stp I (fun _ _ => rfl) (by rw [ek]; unfold stO; rw [if_neg (fun z => z.2 (by omega))]) (fun _ _ => rfl)
theorem md_polls {I : Nat → Nat → Int} {r : Nat} {ch : Int} {own : Nat → Int} (hd : 3 ≤ dp) (hM : Md (I, Z)) (hv : RowV I R) (hR : RV R) (hL : LdV I R) (hr : r < rC R) (ho : ∀ c, c < 4 → I 115 (4 * r + c) = own c) (hor : ∀ c, 1 ≤ own c ∧ own c ≤ 10000000000000) (h : ∀ I' : Nat → Nat → Int, (∀ x, x ≠ 115 → I' x = I x) → (∀ c, c < 4 → I' 115 (4 * r + c) = stO R r own ch c) → (∀ j, j < 4 * r ∨ 4 * r + 4 ≤ j → I' 115 j = I 115 j) → Q (.inl none) (I', Z)) : T G dp 0 0 M9_polls [rV (some 103), iV r, iV ch] (I, Z) Q :=
  T9_polls (s9_polls_0 (lp_polls hd hM hv hR hL hr ho hor h (rK R r) 0 I rfl (by omega) (fun _ _ => rfl) (fun c hc => by rw [if_neg (by omega)]; exact ho c hc) (fun _ _ => rfl)))
end
