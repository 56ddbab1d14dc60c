/-! THE REFERENCE: clearing, how many are done -/
section
variable {G : am_G} {dp : Nat} {Q : am_Q} {R : Nat → Int} {Z : (Nat → Nat → Option Nat) × (Nat → Nat × Nat) × Nat × Bool}
theorem lp_clear {I0 : Nat → Nat → Int} {r : Nat} (hM : Md (I0, Z)) (hr : r < 3) (h : ∀ I' : Nat → Nat → Int, (∀ x, x ≠ 115 → x ≠ 116 → I' x = I0 x) → (∀ c, c < 4 → I' 115 (4 * r + c) = 1000000000) → (∀ j, j < 4 * r ∨ 4 * r + 4 ≤ j → I' 115 j = I0 115 j) → I' 116 r = -1 → (∀ j, j ≠ r → I' 116 j = I0 116 j) → Q (.inl none) (I', Z)) : ∀ (t k : Nat) (I : Nat → Nat → Int), k + t = 4 → (∀ x, x ≠ 115 → I x = I0 x) → (∀ c, c < k → I 115 (4 * r + c) = 1000000000) → (∀ j, j < 4 * r ∨ 4 * r + 4 ≤ j → I 115 j = I0 115 j) → X G dp 0 0 M9_clear 2 [some (rV (some 103)), some (iV r), some (iV k)] [] (I, Z) Q := by
  intro t
  induction t with
  | zero =>
    intro k I ht hf h1 h2
    refine s9_clear_2 (n_p1 := 3) (n_p2 := 12) (am_ow hM.1) hM.done.1 hM.done.2 hM.risks.1 hM.risks.2 (fun _ => ?_) (fun c1 => absurd (by omega) c1) (h8 := fun c1 => absurd (by omega) c1) (h9 := fun c1 => absurd (by omega) c1)
    dsimp only
    rw [tnc]
    refine h _ (fun x a b => by rw [u2r b]; exact hf x a) (fun c hc => by rw [u2r (by omega)]; exact h1 c (by omega)) (fun j hj => by rw [u2r (by omega)]; exact h2 j hj) u2_at (fun j hj => by rw [u2n hj, hf 116 (by omega)])
  | succ t ih =>
    intro k I ht hf h1 h2
    refine s9_clear_2 (n_p1 := 3) (n_p2 := 12) (am_ow hM.1) hM.done.1 hM.done.2 hM.risks.1 hM.risks.2 (fun c1 => absurd c1 (by omega)) (fun _ => ?_) (h8 := fun _ => by rw [ix4 (by omega) (by omega)]; omega) (h9 := fun _ => by rw [ix4 (by omega) (by omega)]; omega)
    rw [wrs (by omega), ix4 (by omega) (by omega), tnc]
    refine ih (k + 1) _ (by omega) (fun x a => by dsimp only; rw [u2r a]; exact hf x a) (fun c hc => ?_) (fun j hj => by rw [u2n (by omega)]; exact h2 j hj)
    by_cases e : c = k
    · subst e; exact u2_at
    · rw [u2n (by omega)]; exact h1 c (by omega)
theorem md_clear {I : Nat → Nat → Int} {r : Nat} (hM : Md (I, Z)) (hr : r < 3) (h : ∀ I' : Nat → Nat → Int, (∀ x, x ≠ 115 → x ≠ 116 → I' x = I x) → (∀ c, c < 4 → I' 115 (4 * r + c) = 1000000000) → (∀ j, j < 4 * r ∨ 4 * r + 4 ≤ j → I' 115 j = I 115 j) → I' 116 r = -1 → (∀ j, j ≠ r → I' 116 j = I 116 j) → Q (.inl none) (I', Z)) : T G dp 0 0 M9_clear [rV (some 103), iV r] (I, Z) Q :=
  T9_clear (s9_clear_0 (lp_clear hM hr h 4 0 I rfl (fun _ _ => rfl) (fun c hc => absurd hc (by omega)) (fun _ _ => rfl)))
/-- how many of the first n are done -/
def dnm (f : Nat → Int) : Nat → Nat
  | 0 => 0
  | n + 1 => dnm f n + if f n = -1 then 0 else 1
theorem dnm_le (f : Nat → Int) : ∀ n, dnm f n ≤ n
  | 0 => Nat.le_refl _
  | n + 1 => by
    have := dnm_le f n
    unfold dnm
    split <;> omega
theorem dnm_pnd {R d : Nat → Int} {k : Nat} {f : Nat → Int} : ∀ n, (∀ r, r < n → f r = (rs R d r k).2.2) → dnm f n + pnd R d k n = n
  | 0, _ => rfl
  | n + 1, h => by
    have ih := dnm_pnd (f := f) n (fun r hr => h r (by omega))
    have hn := h n (by omega)
    unfold dnm pnd
    rw [hn]
    split <;> omega
theorem lp_doneMany {I : Nat → Nat → Int} (hd : 1 ≤ dp) (hM : Md (I, Z)) (hv : RowV I R) (hR : RV R) (h : Q (.inl (some (iV (dnm (I 116) (rC R))))) (I, Z)) : ∀ (t k : Nat), rC R - k = t → k ≤ rC R → X G dp 0 0 M9_doneMany 4 [some (rV (some 103)), some (iV (dnm (I 116) k)), some (iV k)] [] (I, Z) Q := by
  have hc := hR.c
  intro t
  induction t with
  | zero =>
    intro k ht hk
    have e : k = rC R := by omega
    rw [← e] at h
    refine s9_doneMany_4 hd (am_ow hM.1) fun Q' hK => md_races (m := (I, Z)) hM hv (hK _ _ ?_)
    exact s9_doneMany_9 (n_p1 := 3) (am_ow hM.1) hM.done.1 (am_rw hM.done.2) (fun _ => h) (fun c1 => absurd (by omega) c1) (fun c1 => absurd (by omega) c1)
  | succ t ih =>
    intro k ht hk
    have ih := ih (k + 1) (by omega) (by omega)
    have hl := dnm_le (I 116) k
    unfold dnm at ih
    refine s9_doneMany_4 hd (am_ow hM.1) fun Q' hK => md_races (m := (I, Z)) hM hv (hK _ _ ?_)
    refine s9_doneMany_9 (n_p1 := 3) (am_ow hM.1) hM.done.1 (am_rw hM.done.2) (fun c1 => absurd c1 (by omega)) (fun c1 c2 => ?_) (fun c1 c2 => ?_)
    · dsimp only at c2
      rw [tnc] at c2
      rw [if_pos c2, Nat.add_zero] at ih
      rw [wrs (by omega)]
      exact ih
    · dsimp only at c2
      rw [tnc] at c2
      rw [if_neg c2] at ih
      rw [wrs (by omega), wrs (by omega)]
      exact ih
theorem md_doneMany {I : Nat → Nat → Int} (hd : 1 ≤ dp) (hM : Md (I, Z)) (hv : RowV I R) (hR : RV R) (h : Q (.inl (some (iV (dnm (I 116) (rC R))))) (I, Z)) : T G dp 0 0 M9_doneMany [rV (some 103)] (I, Z) Q :=
  T9_doneMany (s9_doneMany_0 (lp_doneMany hd hM hv hR h (rC R) 0 rfl (by omega)))
theorem md_isOver {I : Nat → Nat → Int} {d : Nat → Int} {k : Nat} (hd : 2 ≤ dp) (hM : Md (I, Z)) (hv : RowV I R) (hR : RV R) (hk : ∀ r, r < rC R → I 116 r = (rs R d r k).2.2) (h0 : pnd R d k (rC R) = 0 → Q (.inl (some (iV 1))) (I, Z)) (h1 : pnd R d k (rC R) ≠ 0 → Q (.inl (some (iV 0))) (I, Z)) : T G dp 0 0 M9_isOver [rV (some 103)] (I, Z) Q := by
  have hc := hR.c
  have hp := dnm_pnd (f := I 116) (rC R) hk
  refine T9_isOver (s9_isOver_0 (by omega) (am_ow hM.1) fun Q' hK => md_doneMany (by omega) hM hv hR (hK _ _ (s9_isOver_4 (by omega) (am_ow hM.1) fun Q' hK => md_races (m := (I, Z)) hM hv (hK _ _ (s9_isOver_8 (fun c => h1 (by omega)) (fun c => h0 (by omega)))))))
end
