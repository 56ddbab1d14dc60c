/-! THE REFERENCE: a race with a ballot more -/
section
variable {G : am_G} {dp : Nat} {Q : am_Q} {R : Nat → Int} {Z : (Nat → Nat → Option Nat) × (Nat → Nat × Nat) × Nat × Bool}
theorem md_draws {I : Nat → Nat → Int} {r : Nat} {mi ch f z : Int} {st : (Nat → Int) × Int × Int} (hd : 4 ≤ dp) (hM : Md (I, Z)) (hv : RowV I R) (hR : RV R) (hL : LdV I R) (hr : r < rC R) (hs : MrV I R r st) (hso : ∀ j, 1 ≤ st.1 j ∧ st.1 j ≤ 10000000000000) (hsc : 1 ≤ st.2.1 ∧ st.2.1 ≤ 10000000000000) (hf : 101 ≤ f) (hf2 : f ≤ 300) (hm : -2 ≤ mi) (hm2 : mi ≤ 2) (h : ∀ I' : Nat → Nat → Int, (∀ x, x ≠ 115 → I' x = I x) → (∀ j, j < 4 * r ∨ 4 * r + 4 ≤ j → I' 115 j = I 115 j) → MrV I' R r ((if rY R r = 0 then st.1 else stO R r st.1 ch), stC R r f st.1 st.2.1 mi ch, z) → Q (.inl none) (I', Z)) : T G dp 0 0 M9_draws [rV (some 103), iV r, iV mi, iV ch, iV f] (I, Z) Q := by
  have hc := hR.c
  have hK4 := hR.k hr
  have e4 : wr (4 * (r : Int)) = ((4 * r : Nat) : Int) := by rw [wr_of (by omega) (by omega)]; omega
  refine T9_draws (s9_draws_0 (by omega) (am_ow hM.1) fun Q' hK => md_wayOf (m := (I, Z)) hM hv (by omega) (hK _ _ ?_))
  refine s9_draws_5 (n_p1 := 12) (by omega) (am_ow hM.1) hM.risks.1 (am_rw hM.risks.2) (fun c1 Q' hK => ?_) (fun c1 Q' hK => ?_) (h4 := fun _ => by rw [e4]; omega) (h5 := fun _ => by rw [e4]; omega)
  · obtain ⟨h1, h2⟩ := hs.2 c1
    refine md_polls (own := st.1) (by omega) hM hv hR hL hr h1 hso (fun I' g1 g2 g3 => hK _ (s9_draws_39 (h I' g1 g3 ⟨fun q => absurd q c1, fun _ => ⟨fun c hc4 => ?_, ?_⟩⟩)))
    · dsimp only
      rw [if_neg c1]; exact g2 c hc4
    · dsimp only
      rw [if_neg c1]
      unfold stC
      rw [if_neg c1]
      refine grt_01 (fun j => (stO_rng (hso j).1 (hso j).2).1) _ ?_
      by_cases q : rW R r = 0
      · exact ⟨1, by omega, by omega⟩
      · exact ⟨0, by omega, by omega⟩
  · have e0 := hs.1 c1
    dsimp only at hK ⊢
    rw [e4] at hK ⊢
    rw [tnc, e0]
    refine md_compared (I := I) (by omega) hM hv hR hL hr (by omega) hsc.2 hf hf2 hm hm2 (hK _ _ ?_)
    refine s9_draws_31 (n_r92 := 12) hM.risks.2 (h _ (fun x hx => u2r hx) (fun j hj => ?_) ⟨fun _ => ?_, fun q => absurd c1 q⟩)
    · rw [tnc, u2n (by omega)]
    · rw [tnc, u2_at]
      dsimp only
      unfold stC
      rw [if_pos c1]
end
