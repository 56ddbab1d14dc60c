/-! THE REFERENCE: its history -/
section
variable {G : am_G} {dp : Nat} {Q : am_Q} {R : Nat → Int} {Z : (Nat → Nat → Option Nat) × (Nat → Nat × Nat) × Nat × Bool}
theorem lp_history {I0 : Nat → Nat → Int} {n : Nat} {S : Nat → (Nat → Int) × Int × Int} (hd : 3 ≤ dp) (hM : Md (I0, Z)) (hv : RowV I0 R) (hR : RV R) (hL : LdV I0 R) (hn : I0 103 16 = n) (hn3 : n ≤ 300) (hs : ∀ r, r < rC R → MrV I0 R r (S r)) (h : ∀ I' : Nat → Nat → Int, (∀ x, x ≠ 117 → I' x = I0 x) → (∀ r, r < rC R → I' 117 (3 * n + r) = (S r).2.1) → (∀ j, j < 3 * n → I' 117 j = I0 117 j) → Q (.inl none) (I', Z)) : ∀ (t k : Nat) (I : Nat → Nat → Int), rC R - k = t → k ≤ rC R → (∀ x, x ≠ 117 → I x = I0 x) → (∀ r, r < k → I 117 (3 * n + r) = (S r).2.1) → (∀ j, j < 3 * n → I 117 j = I0 117 j) → X G dp 0 0 M9_writesHistory 2 [some (rV (some 103)), some (iV k)] [] (I, Z) Q := by
  have hc := hR.c
  intro t
  induction t with
  | zero =>
    intro k I ht hk hf h1 h2
    have hvI : RowV I R := fun j hj => by rw [hf 104 (by omega)]; exact hv j hj
    have e : k = rC R := by omega
    subst e
    refine s9_writesHistory_2 (by omega) (am_ow hM.1) fun Q' hK => md_races (m := (I, Z)) hM hvI (hK _ _ ?_)
    exact s9_writesHistory_7 (by omega) (am_ow hM.1) hM.history.1 (fun _ => h I hf h1 h2) (fun c1 => absurd (by omega) c1)
  | succ t ih =>
    intro k I ht hk hf h1 h2
    have hvI : RowV I R := fun j hj => by rw [hf 104 (by omega)]; exact hv j hj
    have hLI : LdV I R := hL.same fun x a b => hf x (by omega)
    have hsk : MrV I R k (S k) := by
      have q := hs k (by omega)
      unfold MrV at q ⊢
      rw [hf 115 (by omega)]
      exact q
    have hnI : I 103 16 = n := by rw [hf 103 (by omega)]; exact hn
    refine s9_writesHistory_2 (by omega) (am_ow hM.1) fun Q' hK => md_races (m := (I, Z)) hM hvI (hK _ _ ?_)
    refine s9_writesHistory_7 (by omega) (am_ow hM.1) hM.history.1 (fun c1 => absurd c1 (by omega)) (fun c1 Q' hK => md_riskNow (by omega) hM hvI hR hLI (by omega) hsk (hK _ _ ?_))
    have ei : wr (wr (3 * (I 103 16)) + (k : Int)) = ((3 * n + k : Nat) : Int) := by rw [hnI, wr_of (z := 3 * (n : Int)) (by omega) (by omega), wr_of (by omega) (by omega)]; omega
    dsimp only
    rw [ei]
    clear ei
    refine s9_writesHistory_27 (n_r92 := 903) hM.history.2 ?_
    rw [wrs (by omega), tnc]
    refine ih (k + 1) _ (by omega) (by omega) (fun x hx => by dsimp only; rw [u2r hx]; exact hf x hx) (fun r hr => ?_) (fun j hj => by rw [u2n (by omega)]; exact h2 j hj)
    by_cases e : r = k
    · subst e; exact u2_at
    · rw [u2n (by omega)]; exact h1 r (by omega)
theorem md_history {I : Nat → Nat → Int} {n : Nat} {S : Nat → (Nat → Int) × Int × Int} (hd : 3 ≤ dp) (hM : Md (I, Z)) (hv : RowV I R) (hR : RV R) (hL : LdV I R) (hn : I 103 16 = n) (hn3 : n ≤ 300) (hs : ∀ r, r < rC R → MrV I R r (S r)) (h : ∀ I' : Nat → Nat → Int, (∀ x, x ≠ 117 → I' x = I x) → (∀ r, r < rC R → I' 117 (3 * n + r) = (S r).2.1) → (∀ j, j < 3 * n → I' 117 j = I 117 j) → Q (.inl none) (I', Z)) : T G dp 0 0 M9_writesHistory [rV (some 103)] (I, Z) Q :=
  T9_writesHistory (s9_writesHistory_0 (lp_history hd hM hv hR hL hn hn3 hs h (rC R) 0 I rfl (by omega) (fun _ _ => rfl) (fun r hr => absurd hr (by omega)) (fun _ _ => rfl)))
end
