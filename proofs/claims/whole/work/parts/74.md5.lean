/-! THE REFERENCE: risks -/
section
variable {G : am_G} {dp : Nat} {Q : am_Q} {R : Nat → Int} {Z : (Nat → Nat → Option Nat) × (Nat → Nat × Nat) × Nat × Bool} {I : Nat → Nat → Int}
theorem LdV.t (h : LdV I R) {r c : Nat} (hr : r < rC R) (hc : c < 4) : I 109 (4 * r + c) = rT R r c := (h.1 r hr c hc).1
theorem LdV.w (h : LdV I R) {r : Nat} (hr : r < rC R) : I 111 r = rW R r := (h.2 r hr).1
theorem LdV.o (h : LdV I R) {r : Nat} (hr : r < rC R) : I 112 r = rO R r := (h.2 r hr).2.1
theorem LdV.g (h : LdV I R) {r : Nat} (hr : r < rC R) : I 113 r = rG R r := (h.2 r hr).2.2.1
theorem md_compared {r : Nat} {v f s : Int} (hd : 2 ≤ dp) (hM : Md (I, Z)) (hv : RowV I R) (hR : RV R) (hL : LdV I R) (hr : r < rC R) (h1 : 0 ≤ v) (h2 : v ≤ 10000000000000) (hf : 101 ≤ f) (hf2 : f ≤ 300) (hs : -2 ≤ s) (hs2 : s ≤ 2) (h : Q (.inl (some (lV (sc v (tms R r f) (bys R f s))))) (I, Z)) : T G dp 0 0 M9_compared [rV (some 103), lV v, iV r, iV f, iV s] (I, Z) Q := by
  have hc := hR.c
  have hn := hR.n
  have hg := hR.g hr
  have htm := hR.tm hr hf hf2
  have hby := hR.by_ hf hf2 hs hs2
  have hm := mul_bd (v := f) (t := R 1) (by omega) hf2 (by omega) (show R 1 ≤ 200 by omega)
  refine T9_compared (s9_compared_0 (by omega) (am_ow hM.1) fun Q' hK => md_ballots (m := (I, Z)) hM hv (hK _ _ ?_))
  refine s9_compared_4 (n_p1 := 3) (by omega) (am_ow hM.1) hM.margin.1 (am_rw hM.margin.2) fun Q' hK => ?_
  dsimp only
  rw [tnc, hL.g hr]
  have e1 : wrl (wrl (f * R 1) - wrl (50 * rG R r)) = tms R r f := by
    rw [wrl_of (z := f * R 1) (by omega) (by omega), wrl_of (z := 50 * rG R r) (by omega) (by omega)]
    exact wrl_of (by omega) (by omega)
  have e2 : wrl (R 1 * wrl (f - wrl (50 * s))) = bys R f s := by
    rw [wrl_of (z := 50 * s) (by omega) (by omega), wrl_of (z := f - 50 * s) (by omega) (by omega)]
    unfold bys at hby
    exact wrl_of (by omega) (by omega)
  rw [e1, e2]
  exact ct_times (by omega) h1 h2 htm.1 (by omega) (by omega) (by omega) (hK _ _ (s9_compared_43 h))
theorem md_polled {r c : Nat} {v ch : Int} (hd : 2 ≤ dp) (hM : Md (I, Z)) (hR : RV R) (hL : LdV I R) (hr : r < rC R) (hc : c < rK R r) (h1 : 0 ≤ v) (h2 : v ≤ 10000000000000) (h : Q (.inl (some (lV (pol (rT R r) (rW R r) c v ch)))) (I, Z)) : T G dp 0 0 M9_polled [rV (some 103), lV v, iV r, iV c, iV ch] (I, Z) Q := by
  have hcc := hR.c
  have hK4 := hR.k hr
  have hW := hR.w hr
  have t1 := hR.t r (rW R r)
  have t2 := hR.t r c
  unfold pol at h
  have ew : I 111 r = rW R r := hL.w hr
  refine T9_polled (s9_polled_0 (n_p2 := 3) (n_p1 := 12) (by omega) (am_ow hM.1) hM.votes.1 hM.winner.1 (am_rw hM.winner.2) (am_rw hM.votes.2) (fun c1 c2 => ?_) (fun c1 c2 Q' hK => ?_) (fun c1 Q' hK => ?_) (h8 := by dsimp only; rw [tnc, ew, ix4 (by omega) (by omega)]; omega) (h9 := by dsimp only; rw [tnc, ew, ix4 (by omega) (by omega)]; omega) (h10 := by rw [ix4 (by omega) (by omega)]; omega) (h11 := by rw [ix4 (by omega) (by omega)]; omega))
  all_goals dsimp only at *
  · rw [tnc, ew] at c1
    rw [if_neg (fun q => q.elim c1 c2)] at h
    exact h
  · rw [if_pos (Or.inr c2)] at h
    have e : ch.toNat = c := by omega
    rw [e] at h
    rw [tnc, ew, ix4 (by omega) (by omega), ix4 (by omega) (by omega), tnc, tnc, hL.t hr (by omega), hL.t hr (by omega)] at hK ⊢
    rw [wrl_of (z := rT R r (rW R r) + rT R r c) (by omega) (by omega), wrl_of (z := 2 * rT R r c) (by omega) (by omega)]
    exact ct_times (by omega) h1 h2 (by omega) (by omega) (by omega) (by omega) (hK _ _ (s9_polled_81 h))
  · rw [tnc, ew] at c1
    rw [if_pos (Or.inl c1)] at h
    have e : ch.toNat = rW R r := by omega
    rw [e] at h
    rw [tnc, ew, ix4 (by omega) (by omega), ix4 (by omega) (by omega), tnc, tnc, hL.t hr (by omega), hL.t hr (by omega)] at hK ⊢
    rw [wrl_of (z := rT R r (rW R r) + rT R r c) (by omega) (by omega), wrl_of (z := 2 * rT R r (rW R r)) (by omega) (by omega)]
    exact ct_times (by omega) h1 h2 (by omega) (by omega) (by omega) (by omega) (hK _ _ (s9_polled_58 h))
theorem lp_greatest {r : Nat} (hd : 1 ≤ dp) (hM : Md (I, Z)) (hv : RowV I R) (hR : RV R) (hL : LdV I R) (hr : r < rC R) (h : Q (.inl (some (lV (grt 0 (rW R r) (fun c => I 115 (4 * r + c)) (rK R r))))) (I, Z)) : ∀ (t k : Nat), rK R r - k = t → k ≤ rK R r → X G dp 0 0 M9_greatestOf 5 [some (rV (some 103)), some (iV r), some (lV (grt 0 (rW R r) (fun c => I 115 (4 * r + c)) k)), none, some (iV k)] [] (I, Z) Q := by
  have hc := hR.c
  have hK4 := hR.k hr
  have ew : I 111 r = rW R r := hL.w hr
  intro t
  induction t with
  | zero =>
    intro k ht hk
    have e : k = rK R r := by omega
    rw [← e] at h
    refine s9_greatestOf_5 hd (am_ow hM.1) fun Q' hK => md_candidates (m := (I, Z)) hM hv (by omega) (hK _ _ ?_)
    exact s9_greatestOf_12 (n_p1 := 3) (n_p2 := 12) (am_ow hM.1) hM.winner.1 (am_rw hM.winner.2) hM.risks.1 (am_rw hM.risks.2) (fun _ => h) (fun c1 => absurd (by omega) c1) (fun c1 => absurd (by omega) c1) (h8 := fun c1 => absurd (by omega) c1) (h9 := fun c1 => absurd (by omega) c1)
  | succ t ih =>
    intro k ht hk
    have ih := ih (k + 1) (by omega) (by omega)
    unfold grt at ih
    refine s9_greatestOf_5 hd (am_ow hM.1) fun Q' hK => md_candidates (m := (I, Z)) hM hv (by omega) (hK _ _ ?_)
    refine s9_greatestOf_12 (n_p1 := 3) (n_p2 := 12) (am_ow hM.1) hM.winner.1 (am_rw hM.winner.2) hM.risks.1 (am_rw hM.risks.2) (fun c1 => absurd c1 (by omega)) (fun c1 c2 => ?_) (fun c1 c2 => ?_) (h8 := fun _ _ => by rw [ix4 (by omega) (by omega)]; omega) (h9 := fun _ _ => by rw [ix4 (by omega) (by omega)]; omega)
    · dsimp only at c2 ⊢
      rw [tnc, ew] at c2
      rw [if_neg (by omega)] at ih
      rw [wrs (by omega), ix4 (by omega) (by omega), tnc]
      exact ih
    · dsimp only at c2
      rw [tnc, ew] at c2
      rw [if_pos (by omega)] at ih
      rw [wrs (by omega)]
      exact ih
theorem md_greatestOf {r : Nat} (hd : 1 ≤ dp) (hM : Md (I, Z)) (hv : RowV I R) (hR : RV R) (hL : LdV I R) (hr : r < rC R) (h : Q (.inl (some (lV (grt 0 (rW R r) (fun c => I 115 (4 * r + c)) (rK R r))))) (I, Z)) : T G dp 0 0 M9_greatestOf [rV (some 103), iV r] (I, Z) Q :=
  T9_greatestOf (s9_greatestOf_0 (lp_greatest hd hM hv hR hL hr h (rK R r) 0 rfl (by omega)))
end
