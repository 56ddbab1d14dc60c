/-! CONTESTS: reckoning -/
theorem ldgGo_lt {s : Nat → Int} {but : Int} : ∀ (t k f N : Nat), f < N → k + t ≤ N → ldgGo s but t k f < N
  | 0, _, _, _, h, _ => h
  | t + 1, k, f, N, h, h2 => by
    unfold ldgGo
    exact ldgGo_lt t (k + 1) _ N (by split <;> omega) (by omega)
theorem ldg_lt {s : Nat → Int} {but : Int} {n : Nat} (h : 2 ≤ n) : ldg s but n < n := by
  unfold ldg
  split
  · exact ldgGo_lt _ _ _ _ (by omega) (by omega)
  · exact ldgGo_lt _ _ _ _ (by omega) (by omega)
theorem ldgGo_congr {s s' : Nat → Int} {but : Int} (N : Nat) (h : ∀ j, j < N → s j = s' j) : ∀ (t k f : Nat), f < N → k + t ≤ N → ldgGo s but t k f = ldgGo s' but t k f
  | 0, _, _, _, _ => rfl
  | t + 1, k, f, h1, h2 => by
    unfold ldgGo
    rw [h f h1, h k (by omega)]
    exact ldgGo_congr N h t (k + 1) _ (by split <;> omega) (by omega)
theorem ldg_congr {s s' : Nat → Int} {but : Int} {n : Nat} (hn : 2 ≤ n) (h : ∀ j, j < n → s j = s' j) : ldg s but n = ldg s' but n := by
  unfold ldg
  split
  · exact ldgGo_congr n h _ _ _ (by omega) (by omega)
  · exact ldgGo_congr n h _ _ _ (by omega) (by omega)
def tal (f : Nat → Int) (n b : Nat) : Int := cnt f n b
def win (f : Nat → Int) (n K : Nat) : Nat := ldg (tal f n) (-1) K
def sec (f : Nat → Int) (n K : Nat) : Nat := ldg (tal f n) (win f n K) K
def mrg (f : Nat → Int) (n K : Nat) : Int := tal f n (win f n K) - tal f n (sec f n K)
def mst (f g : Nat → Int) (n K b : Nat) : Int := slp (win f n K) (f b) (g b) K
theorem tal_rng {f : Nat → Int} {n b : Nat} : 0 ≤ tal f n b ∧ tal f n b ≤ n := cnt_rng f b n
/-- what follows from the choices, laid in a contest -/
def Rkd (I : Nat → Nat → Int) (c n K : Nat) : Prop := (∀ b, b < 4 → I (c + 4) b = tal (I (c + 1)) n b) ∧ (∀ b, b < 4 → I (c + 5) b = tal (I (c + 2)) n b) ∧ I c 7 = win (I (c + 1)) n K ∧ I c 8 = win (I (c + 2)) n K ∧ I c 9 = mrg (I (c + 1)) n K ∧ ∀ b, b < n → I (c + 3) b = mst (I (c + 1)) (I (c + 2)) n K b
theorem u2r {I : Nat → Nat → Int} {a b x : Nat} {z : Int} (h : x ≠ a) : u2 I a b z x = I x := funext fun _ => if_neg fun q => h q.1
theorem u2n {I : Nat → Nat → Int} {a b y : Nat} {z : Int} (h : y ≠ b) : u2 I a b z a y = I a y := if_neg fun q => h q.2
theorem u2_at {I : Nat → Nat → Int} {a b : Nat} {z : Int} : u2 I a b z a b = z := if_pos ⟨rfl, rfl⟩
theorem lp_reckon {G : am_G} {dp : Nat} {m : am_M} {Q : am_Q} {c n K : Nat} (hd : 2 ≤ dp) (hc : Ct m c) (hK : m.1 c 5 = K) (h4 : K ≤ 4) (hn : n ≤ 200) (h : Q (.inl none) (stR m.1 (c + 3) n (fun b => slp (m.1 c 7) (m.1 (c + 1) b) (m.1 (c + 2) b) K), m.2)) : ∀ (t k : Nat), n - k = t → k ≤ n → X G dp 0 0 M2_reckon 85 [some (rV (some c)), some (iV n), some (iV k)] [] (stR m.1 (c + 3) k (fun b => slp (m.1 c 7) (m.1 (c + 1) b) (m.1 (c + 2) b) K), m.2) Q
  | 0, k, ht, hk => by
    have e : k = n := by omega
    subst e
    refine s2_reckon_85 (n_p2 := 200) (n_p3 := 200) (by omega) (am_ow hc.1) hc.2.1.2.2.1 hc.2.1.1 (am_rw hc.2.2.1) hc.2.1.2.1 (am_rw hc.2.2.2.1) (fun _ => h) (fun c1 => ?_) (fun c1 => ?_) <;> exact absurd (by omega) c1
  | t + 1, k, ht, hk => by
    have ih := lp_reckon (G := G) hd hc hK h4 hn h t (k + 1) (by omega) (by omega)
    refine s2_reckon_85 (n_p2 := 200) (n_p3 := 200) (by omega) (am_ow hc.1) hc.2.1.2.2.1 hc.2.1.1 (am_rw hc.2.2.1) hc.2.1.2.1 (am_rw hc.2.2.2.1) (fun c1 => ?_) (fun c1 c2 => ?_) (fun c1 c2 Q' hK' => ?_)
    · omega
    · omega
    · have e0 : stR m.1 (c + 3) k (fun b => slp (m.1 c 7) (m.1 (c + 1) b) (m.1 (c + 2) b) K) c = m.1 c := stR_row (by omega)
      have e1 : stR m.1 (c + 3) k (fun b => slp (m.1 c 7) (m.1 (c + 1) b) (m.1 (c + 2) b) K) (c + 1) = m.1 (c + 1) := stR_row (by omega)
      have e2 : stR m.1 (c + 3) k (fun b => slp (m.1 c 7) (m.1 (c + 1) b) (m.1 (c + 2) b) K) (c + 2) = m.1 (c + 2) := stR_row (by omega)
      refine ct_slip (n := K) (by omega) hc (by dsimp only; rw [e0]; exact hK) h4 (hK' _ _ ?_)
      refine s2_reckon_118 (n_r92 := 200) hc.2.2.2.2.1 ?_
      rw [wrs (by omega)]
      simp only [e0, e1, e2, tnc]
      rw [show u2 (stR m.1 (c + 3) k fun b => slp (m.1 c 7) (m.1 (c + 1) b) (m.1 (c + 2) b) K) (c + 3) k (slp (m.1 c 7) (m.1 (c + 1) k) (m.1 (c + 2) k) K) = _ from stR_next]
      exact ih
theorem ct_reckon {G : am_G} {dp : Nat} {m : am_M} {Q : am_Q} {c n K : Nat} (hd : 3 ≤ dp) (hc : Ct m c) (hK : m.1 c 5 = K) (h2 : 2 ≤ K) (h4 : K ≤ 4) (hn : n ≤ 200) (h : ∀ I' : Nat → Nat → Int, (∀ a, a ≠ c → a ≠ c + 3 → a ≠ c + 4 → a ≠ c + 5 → I' a = m.1 a) → (∀ b, b ≤ 6 → I' c b = m.1 c b) → Rkd I' c n K → Q (.inl none) (I', m.2)) : T G dp 0 0 M2_reckon [rV (some c), iV n] m Q := by
  obtain ⟨h1, ⟨p0, p1, p2, p3, p4⟩, ⟨q1, q2, q3, q4, q5⟩⟩ := id hc
  refine T2_reckon (s2_reckon_0 (by omega) (am_ow h1) p0 p3 fun Q' hK' => ct_tally (by omega) (am_rw q1) q4 (by omega) hn (hK' _ ?_))
  generalize hI1 : stR m.1 (c + 4) 4 (fun b => cnt (m.1 (c + 1)) n b) = I1
  have r1 : ∀ a, a ≠ c + 4 → I1 a = m.1 a := fun a ha => by rw [← hI1]; exact stR_row ha
  have v1 : ∀ b, b < 4 → I1 (c + 4) b = cnt (m.1 (c + 1)) n b := fun b hb => by rw [← hI1]; exact stR_at hb
  refine s2_reckon_13 (by omega) (am_ow h1) p1 p4 fun Q' hK' => ct_tally (by omega) (am_rw q2) q5 (by omega) hn (hK' _ ?_)
  generalize hI2 : stR I1 (c + 5) 4 (fun b => cnt (I1 (c + 2)) n b) = I2
  have r2 : ∀ a, a ≠ c + 4 → a ≠ c + 5 → I2 a = m.1 a := fun a ha hb => by rw [← hI2, stR_row hb, r1 a ha]
  have v2 : ∀ b, b < 4 → I2 (c + 4) b = cnt (m.1 (c + 1)) n b := fun b hb => by rw [← hI2, stR_row (by omega)]; exact v1 b hb
  have w2 : ∀ b, b < 4 → I2 (c + 5) b = cnt (m.1 (c + 2)) n b := fun b hb => by rw [← hI2, stR_at hb, r1 (c + 2) (by omega)]
  have k2 : I2 c 5 = K := by rw [r2 c (by omega) (by omega)]; exact hK
  refine s2_reckon_26 (by omega) (am_ow h1) p3 fun Q' hK' => ct_leading (n := K) hc (am_rw q4) k2 h4 (hK' _ _ ?_)
  have eW : ldg (I2 (c + 4)) (-1) K = win (m.1 (c + 1)) n K := ldg_congr h2 fun j hj => v2 j (by omega)
  rw [eW]
  have hW : win (m.1 (c + 1)) n K < K := ldg_lt h2
  generalize hI3 : u2 I2 c 7 (win (m.1 (c + 1)) n K) = I3
  have r3 : ∀ a, a ≠ c → I3 a = I2 a := fun a ha => by rw [← hI3]; exact u2r ha
  have f3 : ∀ b, b ≠ 7 → I3 c b = m.1 c b := fun b hb => by rw [← hI3, u2n (by omega), r2 c (by omega) (by omega)]
  have f37 : I3 c 7 = win (m.1 (c + 1)) n K := by rw [← hI3]; exact u2_at
  refine s2_reckon_36 (by omega) h1 (am_ow h1) p4 fun Q' hK' => ?_
  simp only [hI3]
  refine ct_leading (n := K) hc (am_rw q5) (show I3 c 5 = K by rw [f3 5 (by omega)]; exact hK) h4 (hK' _ _ ?_)
  have eR : ldg (I3 (c + 5)) (-1) K = win (m.1 (c + 2)) n K := ldg_congr h2 fun j hj => by rw [r3 _ (by omega)]; exact w2 j (by omega)
  simp only [eR]
  generalize hI4 : u2 I3 c 8 (win (m.1 (c + 2)) n K) = I4
  have r4 : ∀ a, a ≠ c → I4 a = I2 a := fun a ha => by rw [← hI4, u2r ha]; exact r3 a ha
  have f4 : ∀ b, b ≠ 7 → b ≠ 8 → I4 c b = m.1 c b := fun b hb hb2 => by rw [← hI4, u2n (by omega), f3 b hb]
  have f47 : I4 c 7 = win (m.1 (c + 1)) n K := by rw [← hI4, u2n (by omega)]; exact f37
  have f48 : I4 c 8 = win (m.1 (c + 2)) n K := by rw [← hI4]; exact u2_at
  refine s2_reckon_49 (n_p1 := 4) (by omega) h1 (am_ow h1) p3 (am_rw q4) (fun Q' hK' => ?_) (h5 := by simp only [hI4, f47]; omega) (h6 := by simp only [hI4, f47]; omega)
  simp only [hI4, f47] at hK' ⊢
  refine ct_leading (n := K) hc (am_rw q4) (show I4 c 5 = K by rw [f4 5 (by omega) (by omega)]; exact hK) h4 (hK' _ _ ?_)
  have eS : ldg (I4 (c + 4)) (win (m.1 (c + 1)) n K) K = sec (m.1 (c + 1)) n K := ldg_congr h2 fun j hj => by rw [r4 _ (by omega)]; exact v2 j (by omega)
  simp only [eS, tnc]
  have hS : sec (m.1 (c + 1)) n K < K := ldg_lt h2
  refine s2_reckon_78 (n_r91 := 4) (am_rw q4) h1 ?_ (h2 := by omega) (h3 := by omega)
  have b1 := tal_rng (f := m.1 (c + 1)) (n := n) (b := win (m.1 (c + 1)) n K)
  have b2 := tal_rng (f := m.1 (c + 1)) (n := n) (b := sec (m.1 (c + 1)) n K)
  have e1 : I4 (c + 4) (win (m.1 (c + 1)) n K) = tal (m.1 (c + 1)) n (win (m.1 (c + 1)) n K) := by rw [r4 _ (by omega)]; exact v2 _ (by omega)
  have e2 : I4 (c + 4) (sec (m.1 (c + 1)) n K) = tal (m.1 (c + 1)) n (sec (m.1 (c + 1)) n K) := by rw [r4 _ (by omega)]; exact v2 _ (by omega)
  simp only [tnc, e1, e2]
  rw [wr_of (by omega) (by omega)]
  generalize hI5 : u2 I4 c 9 (tal (m.1 (c + 1)) n (win (m.1 (c + 1)) n K) - tal (m.1 (c + 1)) n (sec (m.1 (c + 1)) n K)) = I5
  have r5 : ∀ a, a ≠ c → I5 a = I2 a := fun a ha => by rw [← hI5, u2r ha]; exact r4 a ha
  have f5 : ∀ b, b ≠ 7 → b ≠ 8 → b ≠ 9 → I5 c b = m.1 c b := fun b hb hb2 hb3 => by rw [← hI5, u2n (by omega), f4 b hb hb2]
  have f57 : I5 c 7 = win (m.1 (c + 1)) n K := by rw [← hI5, u2n (by omega)]; exact f47
  have f58 : I5 c 8 = win (m.1 (c + 2)) n K := by rw [← hI5, u2n (by omega)]; exact f48
  have f59 : I5 c 9 = mrg (m.1 (c + 1)) n K := by rw [← hI5]; exact u2_at
  have g1 : I5 (c + 1) = m.1 (c + 1) := by rw [r5 _ (by omega), r2 _ (by omega) (by omega)]
  have g2 : I5 (c + 2) = m.1 (c + 2) := by rw [r5 _ (by omega), r2 _ (by omega) (by omega)]
  have hL := lp_reckon (G := G) (dp := dp) (m := (I5, m.2)) (Q := Q) (c := c) (n := n) (K := K) (by omega) hc (by show I5 c 5 = K; rw [f5 5 (by omega) (by omega) (by omega)]; exact hK) h4 hn ?_ n 0 (by omega) (by omega)
  · rw [stR_0] at hL
    exact hL
  · simp only [f57, g1, g2]
    have o : ∀ a, a ≠ c + 3 → stR I5 (c + 3) n (fun b => slp (win (m.1 (c + 1)) n K) (m.1 (c + 1) b) (m.1 (c + 2) b) K) a = I5 a := fun a ha => stR_row ha
    refine h _ (fun a ha hb hc2 hd2 => ?_) (fun b hb => ?_) ⟨fun b hb => ?_, fun b hb => ?_, ?_, ?_, ?_, fun b hb => ?_⟩
    · rw [o a hb, r5 a ha, r2 a hc2 hd2]
    · rw [o c (by omega), f5 b (by omega) (by omega) (by omega)]
    · rw [o _ (by omega), o _ (by omega), r5 _ (by omega), g1]; exact v2 b hb
    · rw [o _ (by omega), o _ (by omega), r5 _ (by omega), g2]; exact w2 b hb
    · rw [o _ (by omega), o _ (by omega), f57, g1]
    · rw [o _ (by omega), o _ (by omega), f58, g2]
    · rw [o _ (by omega), o _ (by omega), f59, g1]
    · rw [stR_at hb, o (c + 1) (by omega), o (c + 2) (by omega), g1, g2]; rfl
