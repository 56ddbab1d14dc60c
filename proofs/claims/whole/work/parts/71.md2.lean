/-! THE REFERENCE: winners, mistakes -/
theorem ix4 {r k : Nat} (h : r < 100) (h2 : k < 100) : wr (wr (4 * (r : Int)) + (k : Int)) = ((4 * r + k : Nat) : Int) := by
  rw [wr_of (z := 4 * (r : Int)) (by omega) (by omega), wr_of (by omega) (by omega)]; omega
section
variable {G : am_G} {dp : Nat} {Q : am_Q} {R : Nat → Int} {m : am_M}
theorem lp_firstBy {r q : Nat} (hd : 1 ≤ dp) (hM : Md m) (hv : RowV m.1 R) (hR : RV R) (hr : r < rC R) (hq : am_ar m q 100 12) : ∀ (t k f : Nat), rK R r - k = t → f < rK R r → k ≤ rK R r → Q (.inl (some (iV (ldgGo (fun c => m.1 q (4 * r + c)) (-1) t k f)))) m → X G dp 0 0 M9_firstBy 5 [some (rV (some 103)), some (iV r), some (rV (some q)), some (iV f), some (iV k)] [] m Q := by
  have hc := hR.c
  have hK := hR.k hr
  intro t
  induction t with
  | zero =>
    intro k f ht hf hk h
    refine s9_firstBy_5 hd (am_ow hM.1) fun Q' hK' => md_candidates hM hv (by omega) (hK' _ _ ?_)
    refine s9_firstBy_12 (n_r2 := 12) hq (fun _ => h) (fun c1 => absurd (by omega) c1) (fun c1 => absurd (by omega) c1) (h2 := fun c1 => absurd (by omega) c1) (h3 := fun c1 => absurd (by omega) c1) (h4 := fun c1 => absurd (by omega) c1) (h5 := fun c1 => absurd (by omega) c1)
  | succ t ih =>
    intro k f ht hf hk h
    unfold ldgGo at h
    refine s9_firstBy_5 hd (am_ow hM.1) fun Q' hK' => md_candidates hM hv (by omega) (hK' _ _ ?_)
    refine s9_firstBy_12 (n_r2 := 12) hq (fun c1 => absurd c1 (by omega)) (fun c1 c2 => ?_) (fun c1 c2 => ?_) (h2 := fun c1 => by rw [ix4 (by omega) (by omega)]; omega) (h3 := fun c1 => by rw [ix4 (by omega) (by omega)]; omega) (h4 := fun c1 => by rw [ix4 (by omega) (by omega)]; omega) (h5 := fun c1 => by rw [ix4 (by omega) (by omega)]; omega)
    · rw [ix4 (by omega) (by omega), ix4 (by omega) (by omega), tnc, tnc] at c2
      rw [if_neg (fun z => by have := z.2; omega)] at h
      rw [wrs (by omega)]
      exact ih (k + 1) f (by omega) hf (by omega) h
    · rw [ix4 (by omega) (by omega), ix4 (by omega) (by omega), tnc, tnc] at c2
      rw [if_pos ⟨by omega, by omega⟩] at h
      rw [wrs (by omega)]
      exact ih (k + 1) k (by omega) (by omega) (by omega) h
theorem md_firstBy {r q : Nat} (hd : 1 ≤ dp) (hM : Md m) (hv : RowV m.1 R) (hR : RV R) (hr : r < rC R) (hq : am_ar m q 100 12) (h : Q (.inl (some (iV (ldg (fun c => m.1 q (4 * r + c)) (-1) (rK R r))))) m) : T G dp 0 0 M9_firstBy [rV (some 103), iV r, rV (some q)] m Q := by
  have hK := hR.k hr
  unfold ldg at h
  rw [if_neg (by omega)] at h
  exact T9_firstBy (s9_firstBy_0 (lp_firstBy hd hM hv hR hr hq (rK R r - 1) 1 0 rfl (by omega) (by omega) h))
theorem lp_second {r w : Nat} (hd : 1 ≤ dp) (hM : Md m) (hv : RowV m.1 R) (hR : RV R) (hr : r < rC R) (hw : m.1 111 r = w) : ∀ (t k f : Nat), rK R r - k = t → f < rK R r → k ≤ rK R r → Q (.inl (some (iV (ldgGo (fun c => m.1 109 (4 * r + c)) w t k f)))) m → X G dp 0 0 M9_second 4 [some (rV (some 103)), some (iV r), some (iV f), some (iV k)] [] m Q := by
  have hc := hR.c
  have hK := hR.k hr
  intro t
  induction t with
  | zero =>
    intro k f ht hf hk h
    refine s9_second_4 hd (am_ow hM.1) fun Q' hK' => md_candidates hM hv (by omega) (hK' _ _ ?_)
    refine s9_second_10 (n_p1 := 3) (n_p2 := 12) (am_ow hM.1) hM.winner.1 (am_rw hM.winner.2) hM.votes.1 (am_rw hM.votes.2) (fun _ => h) (fun c1 => absurd (by omega) c1) (fun c1 => absurd (by omega) c1) (fun c1 => absurd (by omega) c1) (fun c1 => absurd (by omega) c1) (h4 := fun c1 => absurd (by omega) c1) (h5 := fun c1 => absurd (by omega) c1) (h8 := fun c1 => absurd (by omega) c1) (h9 := fun c1 => absurd (by omega) c1) (h10 := fun c1 => absurd (by omega) c1) (h11 := fun c1 => absurd (by omega) c1)
  | succ t ih =>
    intro k f ht hf hk h
    unfold ldgGo at h
    refine s9_second_4 hd (am_ow hM.1) fun Q' hK' => md_candidates hM hv (by omega) (hK' _ _ ?_)
    refine s9_second_10 (n_p1 := 3) (n_p2 := 12) (am_ow hM.1) hM.winner.1 (am_rw hM.winner.2) hM.votes.1 (am_rw hM.votes.2) (fun c1 => absurd c1 (by omega)) (fun c1 c2 c3 => absurd c3 (by omega)) (fun c1 c2 c3 c4 => ?_) (fun c1 c2 c3 c4 => ?_) (fun c1 c2 => ?_) (h8 := fun _ _ _ => by rw [ix4 (by omega) (by omega)]; omega) (h9 := fun _ _ _ => by rw [ix4 (by omega) (by omega)]; omega) (h10 := fun _ _ _ => by rw [ix4 (by omega) (by omega)]; omega) (h11 := fun _ _ _ => by rw [ix4 (by omega) (by omega)]; omega)
    · rw [tnc, hw] at c2
      rw [ix4 (by omega) (by omega), ix4 (by omega) (by omega), tnc, tnc] at c4
      rw [if_neg (fun z => by have := z.2; omega)] at h
      rw [wrs (by omega)]
      exact ih (k + 1) f (by omega) hf (by omega) h
    · rw [tnc, hw] at c2
      rw [ix4 (by omega) (by omega), ix4 (by omega) (by omega), tnc, tnc] at c4
      rw [if_pos ⟨c2, by omega⟩] at h
      rw [wrs (by omega)]
      exact ih (k + 1) k (by omega) (by omega) (by omega) h
    · rw [tnc, hw] at c2
      rw [if_neg (fun z => z.1 c2)] at h
      rw [wrs (by omega)]
      exact ih (k + 1) f (by omega) hf (by omega) h
theorem md_second {r w : Nat} (hd : 1 ≤ dp) (hM : Md m) (hv : RowV m.1 R) (hR : RV R) (hr : r < rC R) (hw : m.1 111 r = w) (h : Q (.inl (some (iV (ldg (fun c => m.1 109 (4 * r + c)) w (rK R r))))) m) : T G dp 0 0 M9_second [rV (some 103), iV r] m Q := by
  have hc := hR.c
  have hK := hR.k hr
  unfold ldg at h
  refine T9_second (s9_second_0 (s9_second_4 hd (am_ow hM.1) fun Q' hK' => md_candidates hM hv (by omega) (hK' _ _ ?_)))
  refine s9_second_10 (n_p1 := 3) (n_p2 := 12) (am_ow hM.1) hM.winner.1 (am_rw hM.winner.2) hM.votes.1 (am_rw hM.votes.2) (fun c1 => absurd c1 (by omega)) (fun c1 c2 c3 => ?_) (fun c1 c2 c3 => absurd rfl c3) (fun c1 c2 c3 => absurd rfl c3) (fun c1 c2 => ?_) (h8 := fun _ _ c => absurd rfl c) (h9 := fun _ _ c => absurd rfl c) (h10 := fun _ _ c => absurd rfl c) (h11 := fun _ _ c => absurd rfl c)
  · rw [tnc, hw] at c2
    rw [if_neg (by omega)] at h
    have e : wr (0 + 1) = ((1 : Nat) : Int) := by decide
    rw [e]
    exact lp_second hd hM hv hR hr hw (rK R r - 1) 1 0 rfl (by omega) (by omega) h
  · rw [tnc, hw] at c2
    have w0 : (w : Int) = 0 := by omega
    rw [if_pos w0] at h
    have e : wr (0 + 1) = ((1 : Nat) : Int) := by decide
    rw [e]
    refine s9_second_4 hd (am_ow hM.1) fun Q' hK' => md_candidates hM hv (by omega) (hK' _ _ ?_)
    refine s9_second_10 (n_p1 := 3) (n_p2 := 12) (am_ow hM.1) hM.winner.1 (am_rw hM.winner.2) hM.votes.1 (am_rw hM.votes.2) (fun c1 => absurd c1 (by omega)) (fun c1 c2 c3 => ?_) (fun c1 c2 c3 => absurd rfl c3) (fun c1 c2 c3 => absurd rfl c3) (fun c1 c2 => absurd c2 (by rw [tnc, hw]; omega)) (h8 := fun _ _ c => absurd rfl c) (h9 := fun _ _ c => absurd rfl c) (h10 := fun _ _ c => absurd rfl c) (h11 := fun _ _ c => absurd rfl c)
    have e2 : wr (((1 : Nat) : Int) + 1) = ((2 : Nat) : Int) := by decide
    rw [e2]
    exact lp_second hd hM hv hR hr hw (rK R r - 2) 2 1 rfl (by omega) (by omega) h
theorem lp_mistakeOf {b r w : Nat} (hd : 2 ≤ dp) (hM : Md m) (hv : RowV m.1 R) (hR : RV R) (hr : r < rC R) (hb : b < 200) (h : Q (.inl (some (iV (slp w (rV_ R r b) (rP_ R r b) (rK R r))))) m) : ∀ (t k : Nat) (o6 o7 : Option am_V), rK R r - k = t → k ≤ rK R r → X G dp 0 0 M9_mistakeOf 7 [some (rV (some 103)), some (iV b), some (iV r), some (iV w), some (iV (slp w (rV_ R r b) (rP_ R r b) k)), some (iV k), o6, o7] [] m Q := by
  have hc := hR.c
  have hK := hR.k hr
  intro t
  induction t with
  | zero =>
    intro k o6 o7 ht hk
    have e : k = rK R r := by omega
    rw [← e] at h
    exact s9_mistakeOf_7 (by omega) (am_ow hM.1) fun Q' hK' => md_candidates hM hv (by omega) (hK' _ _ (s9_mistakeOf_14 (by omega) (am_ow hM.1) (fun _ => h) (fun c1 => absurd (by omega) c1) (fun c1 => absurd (by omega) c1)))
  | succ t ih =>
    intro k o6 o7 ht hk
    have ih := fun o6 o7 => ih (k + 1) o6 o7 (by omega) (by omega)
    unfold slp at ih
    refine s9_mistakeOf_7 (by omega) (am_ow hM.1) fun Q' hK' => md_candidates hM hv (by omega) (hK' _ _ (s9_mistakeOf_14 (by omega) (am_ow hM.1) (fun c1 => absurd c1 (by omega)) (fun c1 c2 Q' hK' => md_recorded (by omega) hM hv hb (by omega) (hK' _ _ ?_)) (fun c1 c2 => ?_)))
    · rw [if_neg c2] at ih
      refine s9_mistakeOf_32 (by omega) fun Q' hK' => md_signOf (hK' _ _ (s9_mistakeOf_38 (by omega) (am_ow hM.1) fun Q' hK' => md_shown (by omega) hM hv hb (by omega) (hK' _ _ (s9_mistakeOf_46 (by omega) fun Q' hK' => md_signOf (hK' _ _ (s9_mistakeOf_52 ?_))))))
      have h1 := sg_rng w (rV_ R r b) k
      have h2 := sg_rng w (rP_ R r b) k
      rw [wrs (by omega), wr_of (by omega) (by omega)]
      exact ih _ _
    · rw [if_pos c2] at ih
      rw [wrs (by omega)]
      exact ih _ _
theorem md_mistakeOf {b r w : Nat} (hd : 2 ≤ dp) (hM : Md m) (hv : RowV m.1 R) (hR : RV R) (hr : r < rC R) (hb : b < 200) (h : Q (.inl (some (iV (slp w (rV_ R r b) (rP_ R r b) (rK R r))))) m) : T G dp 0 0 M9_mistakeOf [rV (some 103), iV b, iV r, iV w] m Q :=
  T9_mistakeOf (s9_mistakeOf_0 (lp_mistakeOf hd hM hv hR hr hb h (rK R r) 0 _ _ rfl (by omega)))
end
