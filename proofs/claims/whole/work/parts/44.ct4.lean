/-! CONTESTS: what is asked of them -/
/-- how many of the first n are above 0 -/
def mky (f : Nat → Int) : Nat → Int
  | 0 => 0
  | n + 1 => mky f n + if 0 < f n then 1 else 0
theorem mky_rng (f : Nat → Int) : ∀ n : Nat, 0 ≤ mky f n ∧ mky f n ≤ n
  | 0 => by unfold mky; omega
  | n + 1 => by
    have h := mky_rng f n
    unfold mky
    split <;> omega
theorem lp_mistaken {G : am_G} {dp : Nat} {m : am_M} {Q : am_Q} {c n : Nat} (hc : Ct m c) (hn : n ≤ 200) (h : Q (.inl (some (iV (mky (m.1 (c + 3)) n)))) m) : ∀ (t k : Nat), n - k = t → k ≤ n → X G dp 0 0 M2_mistaken 4 [some (rV (some c)), some (iV n), some (iV (mky (m.1 (c + 3)) k)), some (iV k)] [] m Q
  | 0, k, ht, hk => by
    have e : k = n := by omega
    subst e
    refine s2_mistaken_4 (n_p1 := 200) (am_ow hc.1) hc.2.1.2.2.1 (am_rw hc.2.2.2.2.1) (fun _ => h) (fun c1 => ?_) (fun c1 => ?_) (fun c1 => ?_) <;> exact absurd (by omega) c1
  | t + 1, k, ht, hk => by
    have ih := lp_mistaken (G := G) (dp := dp) hc hn h t (k + 1) (by omega) (by omega)
    unfold mky at ih
    have hr := mky_rng (m.1 (c + 3)) k
    refine s2_mistaken_4 (n_p1 := 200) (am_ow hc.1) hc.2.1.2.2.1 (am_rw hc.2.2.2.2.1) (fun c1 => ?_) (fun c1 c2 => ?_) (fun c1 c2 c3 => ?_) (fun c1 c2 c3 => ?_)
    · omega
    · omega
    · rw [tnc] at c3
      rw [if_neg (by omega), Int.add_zero] at ih
      rw [wrs (by omega)]
      exact ih
    · rw [tnc] at c3
      rw [if_pos (by omega)] at ih
      rw [wrs (by omega), wr_of (by omega) (by omega)]
      exact ih
theorem ct_mistaken {G : am_G} {dp : Nat} {m : am_M} {Q : am_Q} {c n : Nat} (hc : Ct m c) (hn : n ≤ 200) (h : Q (.inl (some (iV (mky (m.1 (c + 3)) n)))) m) : T G dp 0 0 M2_mistaken [rV (some c), iV n] m Q :=
  T2_mistaken (s2_mistaken_0 (lp_mistaken hc hn h n 0 rfl (by omega)))
/-- how many papers of the right one must change for a candidate -/
def flp (T : Nat → Int) (w k : Nat) : Int := if k < w then (T w - T k + 1) / 2 else (T w - T k) / 2 + 1
theorem ct_flipsFor {G : am_G} {dp : Nat} {m : am_M} {Q : am_Q} {c w k : Nat} (hc : Ct m c) (hw : m.1 c 8 = w) (hw4 : w < 4) (hk : k < 4) (h1 : 0 ≤ m.1 (c + 5) k) (h2 : m.1 (c + 5) k ≤ m.1 (c + 5) w) (h3 : m.1 (c + 5) w ≤ 200) (h : Q (.inl (some (iV (flp (m.1 (c + 5)) w k)))) m) : T G dp 0 0 M2_flipsFor [rV (some c), iV k] m Q := by
  unfold flp at h
  refine T2_flipsFor (s2_flipsFor_0 (n_p1 := 4) (am_ow hc.1) hc.2.1.2.2.2.2 (am_rw hc.2.2.2.2.2.2) (fun c1 => ?_) (fun c1 => ?_))
  · rw [if_neg (by omega)] at h
    rw [hw, tnc, tnc, wr_of (z := m.1 (c + 5) w - m.1 (c + 5) k) (by omega) (by omega), Int.tdiv_eq_ediv_of_nonneg (by omega), wr_of (z := (m.1 (c + 5) w - m.1 (c + 5) k) / 2) (by omega) (by omega), wr_of (by omega) (by omega)]
    exact h
  · rw [if_pos (by omega)] at h
    rw [hw, tnc, tnc, wr_of (z := m.1 (c + 5) w - m.1 (c + 5) k) (by omega) (by omega), wr_of (z := m.1 (c + 5) w - m.1 (c + 5) k + 1) (by omega) (by omega), Int.tdiv_eq_ediv_of_nonneg (by omega), wr_of (by omega) (by omega)]
    exact h
theorem ct_comparedTimes {G : am_G} {dp : Nat} {m : am_M} {Q : am_Q} {c : Nat} {n f : Int} (hc : Ct m c) (h1 : 0 ≤ n) (h2 : n ≤ 200) (h3 : 0 ≤ f) (h4 : f ≤ 300) (h5 : 0 ≤ m.1 c 9) (h6 : m.1 c 9 ≤ 200) (h : Q (.inl (some (lV (f * n - 50 * m.1 c 9)))) m) : T G dp 0 0 M2_comparedTimes [rV (some c), iV n, iV f] m Q := by
  have hm := mul_bd h3 h4 h1 h2
  refine T2_comparedTimes (s2_comparedTimes_0 (am_ow hc.1) ?_)
  rw [wrl_of (z := f * n) (by omega) (by omega), wrl_of (z := 50 * m.1 c 9) (by omega) (by omega), wrl_of (by omega) (by omega)]
  exact h
theorem mul_bd2 {v t A B : Int} (h1 : 0 ≤ v) (h2 : v ≤ A) (h3 : -B ≤ t) (h4 : t ≤ B) : -(A * B) ≤ v * t ∧ v * t ≤ A * B := by
  have e1 : v * t ≤ v * B := Int.mul_le_mul_of_nonneg_left h4 h1
  have e2 : v * B ≤ A * B := Int.mul_le_mul_of_nonneg_right h2 (by omega)
  have e3 : v * (-B) ≤ v * t := Int.mul_le_mul_of_nonneg_left h3 h1
  have e4 : v * (-B) = -(v * B) := Int.mul_neg v B
  omega
theorem ct_comparedBy {G : am_G} {dp : Nat} {m : am_M} {Q : am_Q} {n f s : Int} (h1 : 0 ≤ n) (h2 : n ≤ 200) (h3 : 0 ≤ f) (h4 : f ≤ 300) (h5 : -2 ≤ s) (h6 : s ≤ 2) (h : Q (.inl (some (lV (n * (f - 50 * s))))) m) : T G dp 0 0 M2_comparedBy [iV n, iV f, iV s] m Q := by
  have hm := mul_bd2 (B := 400) h1 h2 (show -400 ≤ f - 50 * s by omega) (by omega)
  refine T2_comparedBy (s2_comparedBy_0 ?_)
  rw [wr_of (z := 50 * s) (by omega) (by omega), wr_of (z := f - 50 * s) (by omega) (by omega), wrl_of (by omega) (by omega)]
  exact h
theorem ct_votesOfBoth {G : am_G} {dp : Nat} {m : am_M} {Q : am_Q} {c w k : Nat} (hc : Ct m c) (hw : m.1 c 7 = w) (hw4 : w < 4) (hk : k < 4) (h1 : ∀ j, j < 4 → 0 ≤ m.1 (c + 4) j ∧ m.1 (c + 4) j ≤ 200) (h : Q (.inl (some (lV (m.1 (c + 4) w + m.1 (c + 4) k)))) m) : T G dp 0 0 M2_votesOfBoth [rV (some c), iV k] m Q := by
  have b1 := h1 w hw4
  have b2 := h1 k hk
  refine T2_votesOfBoth (s2_votesOfBoth_0 (n_p1 := 4) (am_ow hc.1) hc.2.1.2.2.2.1 (am_rw hc.2.2.2.2.2.1) ?_)
  rw [hw, tnc, tnc, wrl_of (by omega) (by omega)]
  exact h
/-- a candidate's own risk by polling behind a ballot -/
def pol (T : Nat → Int) (w k : Nat) (own ch : Int) : Int := if ch = w ∨ ch = k then sc own (T w + T k) (2 * T ch.toNat) else own
theorem ct_polled {G : am_G} {dp : Nat} {m : am_M} {Q : am_Q} {c w k : Nat} {own ch : Int} (hd : 1 ≤ dp) (hc : Ct m c) (hw : m.1 c 7 = w) (hw4 : w < 4) (hk : k < 4) (h1 : ∀ j, j < 4 → 0 ≤ m.1 (c + 4) j ∧ m.1 (c + 4) j ≤ 200) (ho : 0 ≤ own) (ho2 : own ≤ 10000000000000) (h : Q (.inl (some (lV (pol (m.1 (c + 4)) w k own ch)))) m) : T G dp 0 0 M2_polled [rV (some c), lV own, iV k, iV ch] m Q := by
  unfold pol at h
  have b1 := h1 w hw4
  have b2 := h1 k hk
  have step : ∀ j : Nat, j < 4 → ch = j → (ch = w ∨ ch = k) → X G dp 0 0 M2_polled 21 [some (rV (some c)), some (lV own), none, some (iV k), some (iV ch)] [lV (m.1 (c + 4) w + m.1 (c + 4) k), lV own] m Q := fun j hj e he => by
    have b3 := h1 j hj
    rw [if_pos he] at h
    refine s2_polled_21 (n_p1 := 4) hd (am_ow hc.1) hc.2.1.2.2.2.1 (am_rw hc.2.2.2.2.2.1) (fun Q' hK => ?_)
    have ej : ch.toNat = j := by omega
    rw [ej] at h ⊢
    rw [wrl_of (by omega) (by omega)]
    exact ct_scaled ho ho2 (by omega) (by omega) (by omega) (by omega) (hK _ _ (s2_polled_36 h))
  refine T2_polled (s2_polled_0 hd (am_ow hc.1) (fun c1 Q' hK => ?_) (fun c1 c2 => ?_) (fun c1 c2 Q' hK => ?_))
  · rw [hw] at c1
    exact ct_votesOfBoth hc hw hw4 hk h1 (hK _ _ (step w hw4 c1 (Or.inl c1)))
  · rw [hw] at c1
    rw [if_neg (fun q => q.elim c1 c2)] at h
    exact h
  · exact ct_votesOfBoth hc hw hw4 hk h1 (hK _ _ (step k hk c2 (Or.inr c2)))
