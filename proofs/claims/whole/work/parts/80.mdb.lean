/-! THE REFERENCE: small things of the audit -/
section
variable {G : am_G} {dp : Nat} {Q : am_Q} {R : Nat → Int} {Z : (Nat → Nat → Option Nat) × (Nat → Nat × Nat) × Nat × Bool} {I : Nat → Nat → Int}
theorem md_mistakeAt {b r : Nat} (hM : Md (I, Z)) (hR : RV R) (hL : LdV I R) (hr : r < rC R) (hb : b < rN R) (h : Q (.inl (some (iV (rM R r b)))) (I, Z)) : T G dp 0 0 M9_mistakeAt [rV (some 103), iV b, iV r] (I, Z) Q := by
  have hc := hR.c
  have hn := hR.n
  refine T9_mistakeAt (s9_mistakeAt_0 (n_p1 := 600) (am_ow hM.1) hM.mistakes.1 (am_rw hM.mistakes.2) ?_ (h4 := by rw [ix200 (by omega) (by omega)]; omega) (h5 := by rw [ix200 (by omega) (by omega)]; omega))
  rw [ix200 (by omega) (by omega), tnc]
  dsimp only
  rw [(hL.2 r hr).2.2.2 b hb]
  exact h
theorem md_isLittle {v : Int} (hM : Md (I, Z)) (hv : RowV I R) (hR : RV R) (h0 : v ≤ goal R → Q (.inl (some (iV 1))) (I, Z)) (h1 : ¬ v ≤ goal R → Q (.inl (some (iV 0))) (I, Z)) : T G dp 0 0 M9_isLittle [rV (some 103), lV v] (I, Z) Q := by
  have hl := hR.2.2.1
  have e2 : I 104 2 = R 2 := hv 2 (by omega)
  have eg : wrl (R 2 * 1000000) = goal R := wrl_of (by omega) (by omega)
  refine T9_isLittle (s9_isLittle_0 (n_p1 := 1514) (am_ow hM.1) hM.row.1 (am_rw hM.row.2) (fun c => h1 ?_) (fun c => h0 ?_))
  · dsimp only at c
    rw [show (2 : Int).toNat = 2 from rfl, e2, eg] at c
    have := (lc_gt _ _).mp c
    omega
  · dsimp only at c
    rw [show (2 : Int).toNat = 2 from rfl, e2, eg] at c
    exact n_gt c
end
