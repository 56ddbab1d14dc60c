/-! THE REFERENCE: the risk of a race as it stands -/
/-- race r stands at st: own risks (by polling), risk -/
def MrV (I : Nat → Nat → Int) (R : Nat → Int) (r : Nat) (st : (Nat → Int) × Int × Int) : Prop := (rY R r = 0 → I 115 (4 * r) = st.2.1) ∧ (rY R r ≠ 0 → (∀ c, c < 4 → I 115 (4 * r + c) = st.1 c) ∧ grt 0 (rW R r) st.1 (rK R r) = st.2.1)
theorem grt_01 {w : Nat} {own : Nat → Int} (h : ∀ j, 1 ≤ own j) : ∀ n : Nat, (∃ j, j < n ∧ j ≠ w) → grt 0 w own n = grt 1 w own n
  | 0, hn => by obtain ⟨j, h1, _⟩ := hn; omega
  | n + 1, hn => by
    unfold grt
    by_cases e : n = w
    · rw [if_pos e, if_pos e]
      obtain ⟨j, h1, h2⟩ := hn
      exact grt_01 h n ⟨j, by omega, h2⟩
    · rw [if_neg e, if_neg e]
      by_cases hx : ∃ j, j < n ∧ j ≠ w
      · rw [grt_01 h n hx]
      · have z : ∀ a k, k ≤ n → grt a w own k = a := fun a k => by
          induction k with
          | zero => intro _; rfl
          | succ k ih =>
            intro hk
            unfold grt
            by_cases e2 : k = w
            · rw [if_pos e2]; exact ih (by omega)
            · exact absurd ⟨k, by omega, e2⟩ hx
        rw [z 0 n (Nat.le_refl _), z 1 n (Nat.le_refl _)]
        have := h n
        omega
section
variable {G : am_G} {dp : Nat} {Q : am_Q} {R : Nat → Int} {Z : (Nat → Nat → Option Nat) × (Nat → Nat × Nat) × Nat × Bool} {I : Nat → Nat → Int}
theorem md_riskNow {r : Nat} {st : (Nat → Int) × Int × Int} (hd : 2 ≤ dp) (hM : Md (I, Z)) (hv : RowV I R) (hR : RV R) (hL : LdV I R) (hr : r < rC R) (hs : MrV I R r st) (h : Q (.inl (some (lV st.2.1))) (I, Z)) : T G dp 0 0 M9_riskNow [rV (some 103), iV r] (I, Z) Q := by
  have hc := hR.c
  have hK4 := hR.k hr
  refine T9_riskNow (s9_riskNow_0 (by omega) (am_ow hM.1) fun Q' hK => md_wayOf (m := (I, Z)) hM hv (by omega) (hK _ _ ?_))
  have e4 : wr (4 * (r : Int)) = ((4 * r : Nat) : Int) := by rw [wr_of (by omega) (by omega)]; omega
  refine s9_riskNow_5 (n_p1 := 12) (by omega) (am_ow hM.1) hM.risks.1 (am_rw hM.risks.2) (fun c1 Q' hK => md_greatestOf (by omega) hM hv hR hL hr (hK _ _ (s9_riskNow_24 ?_))) (fun c1 => s9_riskNow_24 ?_) (h4 := fun _ => by rw [e4]; omega) (h5 := fun _ => by rw [e4]; omega)
  · obtain ⟨h1, h2⟩ := hs.2 c1
    rw [grt_congr (own := fun c => I 115 (4 * r + c)) (own' := st.1) (rK R r) (fun j hj _ => h1 j (by omega)), h2]
    exact h
  · dsimp only
    rw [e4, tnc, hs.1 c1]
    exact h
end
