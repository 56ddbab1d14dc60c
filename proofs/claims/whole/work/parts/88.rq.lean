/-! THE REFERENCE: questions -/
theorem kN_R6 {R : Nat → Int} (hR : RV R) : (kN R : Int) ≤ R 6 := by
  have hm := hR.2.2.2.2.2.2.1
  by_cases h : kN R = 0
  · omega
  · have e : kN R = goes R (dw R (R 5)) (R 6) 300 0 := rfl
    have := (goes_at (R := R) (d := dw R (R 5)) (most := R 6) 300 0 (kN R - 1) (by omega) (by omega)).1
    omega
theorem DR.k {R : Nat → Int} (hD : DR R) (hR : RV R) {j : Nat} (hj : j < kN R) : R (1214 + j) = dw R (R 5) j ∧ 0 ≤ dw R (R 5) j ∧ dw R (R 5) j < R 1 := by
  have h1 := kN_R6 hR
  have h2 := hD.1
  exact ⟨hD.2 j (by omega), dw_rng (by omega)⟩
/-- how many of the first n show up among the first k -/
def ucn (f : Nat → Int) (k : Nat) : Nat → Int
  | 0 => 0
  | n + 1 => ucn f k n + if cnt f k n ≤ 0 then 0 else 1
theorem ucn_rng (f : Nat → Int) (k : Nat) : ∀ n, 0 ≤ ucn f k n ∧ ucn f k n ≤ n
  | 0 => by unfold ucn; omega
  | n + 1 => by
    have := ucn_rng f k n
    unfold ucn
    split <;> omega
theorem ucn_step {f : Nat → Int} {k : Nat} : ∀ n : Nat, 0 ≤ f k → ucn f (k + 1) n = ucn f k n + if f k < n ∧ cnt f k (f k) = 0 then 1 else 0
  | 0, h => by unfold ucn; rw [if_neg (by omega)]; rfl
  | n + 1, h => by
    have ih := ucn_step (f := f) (k := k) n h
    have hc := cnt_rng f (f k) k
    have hn := cnt_rng f n k
    have e1 : ucn f (k + 1) (n + 1) = ucn f (k + 1) n + if cnt f (k + 1) n ≤ 0 then 0 else 1 := rfl
    have e2 : ucn f k (n + 1) = ucn f k n + if cnt f k n ≤ 0 then 0 else 1 := rfl
    rw [e1, e2, ih, cnt_s]
    by_cases q : f k = n
    · rw [if_pos q, if_neg (show ¬ (f k < (n : Int) ∧ cnt f k (f k) = 0) by omega), q]
      by_cases q2 : cnt f k n = 0
      · rw [if_neg (by omega), if_pos (by omega), if_pos ⟨by omega, q2⟩]
      · rw [if_neg (by omega), if_neg (by omega), if_neg (by omega)]; omega
    · rw [if_neg q, Int.add_zero]
      have eP : (if f k < (n : Int) ∧ cnt f k (f k) = 0 then (1 : Int) else 0) = if f k < ((n + 1 : Nat) : Int) ∧ cnt f k (f k) = 0 then 1 else 0 := by
        by_cases q2 : f k < (n : Int) ∧ cnt f k (f k) = 0
        · rw [if_pos q2, if_pos ⟨by omega, q2.2⟩]
        · rw [if_neg q2, if_neg (fun z => q2 ⟨by omega, z.2⟩)]
      rw [eP]
      exact Int.add_right_comm _ _ _
theorem ucn_unl {f : Nat → Int} {n : Nat} : ∀ k : Nat, (∀ j, j < k → 0 ≤ f j ∧ f j < n) → ucn f k n = unl f k
  | 0, _ => by
    have : ∀ n, ucn f 0 n = 0 := fun n => by
      induction n with
      | zero => rfl
      | succ n ih =>
        unfold ucn
        rw [ih, if_pos (by show (0 : Int) ≤ 0; omega)]; rfl
    exact this n
  | k + 1, h => by
    have ih := ucn_unl (f := f) (n := n) k (fun j hj => h j (by omega))
    have hk := h k (by omega)
    rw [ucn_step n hk.1, ih, unl_s]
    by_cases q : cnt f k (f k) = 0
    · rw [if_pos ⟨hk.2, q⟩, if_pos q]
    · rw [if_neg (fun z => q z.2), if_neg q]
section
variable {G : am_G} {dp : Nat} {Q : am_Q} {R : Nat → Int} {Z : (Nat → Nat → Option Nat) × (Nat → Nat × Nat) × Nat × Bool}
theorem md_fail1 {I I' : Nat → Nat → Int} (hM : Md (I, Z)) (hf : MF I I') (h : ∀ I' : Nat → Nat → Int, MF I I' → I' 103 7 = 1 → Q (.inl (some (iV 0))) (I', Z)) : T G dp 0 0 M9_fail [rV (some 103), iV 1] (I', Z) Q :=
  md_fail (m := (I', Z)) hM (h _ (hf.tr MF.code) u2_at)
theorem lp_ltimes {I0 : Nat → Nat → Int} (hM : Md (I0, Z)) (hv : RowV I0 R) (hR : RV R) (hD : DR R) (hk : I0 103 16 = kN R) (h : ∀ I' : Nat → Nat → Int, (∀ x, x ≠ 118 → I' x = I0 x) → (∀ b : Nat, b < 200 → I' 118 b = cnt (dw R (R 5)) (kN R) b) → Q (.inl none) (I', Z)) : ∀ (t k : Nat) (I : Nat → Nat → Int), kN R - k = t → k ≤ kN R → (∀ x, x ≠ 118 → I x = I0 x) → (∀ b : Nat, b < 200 → I 118 b = cnt (dw R (R 5)) k b) → X G dp 0 0 M9_layTimes 24 [some (rV (some 103)), some (iV k)] [] (I, Z) Q := by
  have h3 := kN_le R
  have hn := hR.n
  intro t
  induction t with
  | zero =>
    intro k I ht hk' hf h1
    have e : k = kN R := by omega
    have e16 : I 103 16 = kN R := by rw [hf 103 (by omega)]; exact hk
    have hx : (I, Z).1 103 16 ≤ (k : Int) := by dsimp only; omega
    refine s9_layTimes_24 (n_p1 := 200) (n_p2 := 1514) (am_ow hM.1) hM.often.1 hM.row.1 (am_rw hM.row.2) hM.often.2 (fun _ => h I hf (by rw [← e]; exact h1)) (fun c => absurd hx c) (h5 := fun c => absurd hx c) (h6 := fun c => absurd hx c) (h8 := fun c => absurd hx c) (h9 := fun c => absurd hx c)
  | succ t ih =>
    intro k I ht hk' hf h1
    have e16 : I 103 16 = kN R := by rw [hf 103 (by omega)]; exact hk
    have hx : ¬ (I, Z).1 103 16 ≤ (k : Int) := by dsimp only; omega
    obtain ⟨d1, d2, d3⟩ := hD.k hR (j := k) (by omega)
    obtain ⟨b, eb⟩ : ∃ b : Nat, dw R (R 5) k = b := ⟨(dw R (R 5) k).toNat, by omega⟩
    have hb : b < 200 := by omega
    have er : I 104 (1214 + k) = b := by
      rw [hf 104 (by omega), hv _ (by omega), d1, eb]
    refine s9_layTimes_24 (n_p1 := 200) (n_p2 := 1514) (am_ow hM.1) hM.often.1 hM.row.1 (am_rw hM.row.2) hM.often.2 (fun c => absurd c hx) (fun _ => ?_) (h5 := fun _ => by rw [ix1214 (by omega)]; omega) (h6 := fun _ => by rw [ix1214 (by omega)]; omega) (h8 := fun _ => by dsimp only; rw [ix1214 (by omega), tnc, er]; omega) (h9 := fun _ => by dsimp only; rw [ix1214 (by omega), tnc, er]; omega)
    dsimp only
    rw [ix1214 (by omega), tnc, er, tnc, wrs (by omega)]
    have hcr := cnt_rng (dw R (R 5)) b k
    rw [h1 b hb, wr_of (by omega) (by omega)]
    refine ih (k + 1) _ (by omega) (by omega) (fun x hx => by rw [u2r hx]; exact hf x hx) (fun c hc => ?_)
    rw [cnt_s, eb]
    by_cases e : c = b
    · subst e; rw [u2_at, if_pos rfl]
    · rw [u2n e, if_neg (by omega), Int.add_zero]; exact h1 c hc
theorem lz_times {I0 : Nat → Nat → Int} (hM : Md (I0, Z)) (h : ∀ I' : Nat → Nat → Int, (∀ x, x ≠ 118 → I' x = I0 x) → (∀ b : Nat, b < 200 → I' 118 b = 0) → X G dp 0 0 M9_layTimes 24 [some (rV (some 103)), some (iV 0)] [] (I', Z) Q) : ∀ (t k : Nat) (I : Nat → Nat → Int), k + t = 200 → (∀ x, x ≠ 118 → I x = I0 x) → (∀ b : Nat, b < k → I 118 b = 0) → X G dp 0 0 M9_layTimes 2 [some (rV (some 103)), some (iV k)] [] (I, Z) Q := by
  intro t
  induction t with
  | zero =>
    intro k I ht hf h1
    exact s9_layTimes_2 (n_p1 := 200) (am_ow hM.1) hM.often.1 hM.often.2 (fun _ => h I hf (fun b hb => h1 b (by omega))) (fun c => absurd (by omega) c)
  | succ t ih =>
    intro k I ht hf h1
    refine s9_layTimes_2 (n_p1 := 200) (am_ow hM.1) hM.often.1 hM.often.2 (fun c => absurd c (by omega)) (fun _ => ?_)
    rw [wrs (by omega), tnc]
    refine ih (k + 1) _ (by omega) (fun x hx => by dsimp only; rw [u2r hx]; exact hf x hx) (fun b hb => ?_)
    by_cases e : b = k
    · subst e; exact u2_at
    · rw [u2n e]; exact h1 b (by omega)
theorem md_layTimes {I : Nat → Nat → Int} (hM : Md (I, Z)) (hv : RowV I R) (hR : RV R) (hD : DR R) (hk : I 103 16 = kN R) (h : ∀ I' : Nat → Nat → Int, (∀ x, x ≠ 118 → I' x = I x) → (∀ b : Nat, b < 200 → I' 118 b = cnt (dw R (R 5)) (kN R) b) → Q (.inl none) (I', Z)) : T G dp 0 0 M9_layTimes [rV (some 103)] (I, Z) Q := by
  refine T9_layTimes (s9_layTimes_0 (lz_times hM (fun I1 g1 g2 => ?_) 200 0 I rfl (fun _ _ => rfl) (fun b hb => absurd hb (by omega))))
  refine lp_ltimes (I0 := I1) hM (fun j hj => by rw [g1 104 (by omega)]; exact hv j hj) hR hD (by rw [g1 103 (by omega)]; exact hk) (fun I2 k1 k2 => h I2 (fun x hx => by rw [k1 x hx]; exact g1 x hx) k2) _ 0 I1 rfl (by omega) (fun _ _ => rfl) (fun b hb => ?_)
  rw [g2 b hb]; rfl
theorem lp_unlike {I : Nat → Nat → Int} (hd : 1 ≤ dp) (hM : Md (I, Z)) (hv : RowV I R) (hR : RV R) (ho : ∀ b : Nat, b < 200 → I 118 b = cnt (dw R (R 5)) (kN R) b) (h : Q (.inl (some (iV (ucn (dw R (R 5)) (kN R) (rN R))))) (I, Z)) : ∀ (t k : Nat), rN R - k = t → k ≤ rN R → X G dp 0 0 M9_unlikeDrawn 8 [some (rV (some 103)), some (iV (ucn (dw R (R 5)) (kN R) k)), some (iV k)] [] (I, Z) Q := by
  have hn := hR.n
  intro t
  induction t with
  | zero =>
    intro k ht hk
    have e : k = rN R := by omega
    rw [← e] at h
    refine s9_unlikeDrawn_8 hd (am_ow hM.1) fun Q' hK => md_ballots (m := (I, Z)) hM hv (hK _ _ ?_)
    exact s9_unlikeDrawn_13 (n_p1 := 200) (am_ow hM.1) hM.often.1 (am_rw hM.often.2) (fun _ => h) (fun c => absurd (by omega) c) (fun c => absurd (by omega) c)
  | succ t ih =>
    intro k ht hk
    have ih := ih (k + 1) (by omega) (by omega)
    have hu := ucn_rng (dw R (R 5)) (kN R) k
    unfold ucn at ih
    have eo := ho k (by omega)
    refine s9_unlikeDrawn_8 hd (am_ow hM.1) fun Q' hK => md_ballots (m := (I, Z)) hM hv (hK _ _ ?_)
    refine s9_unlikeDrawn_13 (n_p1 := 200) (am_ow hM.1) hM.often.1 (am_rw hM.often.2) (fun c => absurd c (by omega)) (fun _ c => ?_) (fun _ c => ?_)
    · dsimp only at c
      rw [tnc, eo] at c
      rw [if_pos c, Int.add_zero] at ih
      rw [wrs (by omega)]
      exact ih
    · dsimp only at c
      rw [tnc, eo] at c
      rw [if_neg c] at ih
      rw [wrs (by omega), wr_of (z := ucn (dw R (R 5)) (kN R) k + 1) (by omega) (by omega)]
      exact ih
theorem md_unlike {I : Nat → Nat → Int} (hd : 2 ≤ dp) (hM : Md (I, Z)) (hv : RowV I R) (hR : RV R) (hD : DR R) (hk : I 103 16 = kN R) (h : ∀ I' : Nat → Nat → Int, (∀ x, x ≠ 118 → I' x = I x) → Q (.inl (some (iV (unl (dw R (R 5)) (kN R))))) (I', Z)) : T G dp 0 0 M9_unlikeDrawn [rV (some 103)] (I, Z) Q := by
  refine T9_unlikeDrawn (s9_unlikeDrawn_0 (by omega) (am_ow hM.1) fun Q' hK => md_layTimes hM hv hR hD hk (fun I1 g1 g2 => hK _ (s9_unlikeDrawn_4 ?_)))
  have e : ucn (dw R (R 5)) (kN R) (rN R) = unl (dw R (R 5)) (kN R) := ucn_unl _ (fun j hj => by have := hD.k hR hj; have := hR.n; omega)
  refine lp_unlike (I := I1) (by omega) hM (fun j hj => by rw [g1 104 (by omega)]; exact hv j hj) hR g2 ?_ (rN R) 0 rfl (by omega)
  rw [e]; exact h I1 g1
theorem r_count {I : Nat → Nat → Int} {i : Int} {n : Nat} (hd : 8 ≤ dp) (hM : Md (I, Z)) (hv : RowV I R) (hR : RV R) (hD : DR R) (hn : I 103 6 = n) (h0 : ∀ (v : Int) (I' : Nat → Nat → Int), vCount R n (I 103 24) i = some v → MF I I' → I' 103 7 = 0 → Q (.inl (some (iV v))) (I', Z)) (h1 : vCount R n (I 103 24) i = none → ∀ I' : Nat → Nat → Int, MF I I' → I' 103 7 = 1 → Q (.inl (some (iV 0))) (I', Z)) : T G dp 4 24 M9_count [rV (some 103), iV i] (I, Z) Q := by
  refine T9_count (s9_count_0 (by omega) hM.1 fun Q' hK => md_goes0 (by omega) hM hv hR hD (fun I1 g1 g2 g3 g4 => hK _ ?_))
  have rr : ∀ k : Nat, k < 5 → I1 104 k = R k := fun k hk => g3 k (by omega)
  have n6 : I1 103 6 = n := by rw [g1.2 6 (by omega) (by omega) (by omega)]; exact hn
  have n24 : I1 103 24 = I 103 24 := g1.2 24 (by omega) (by omega) (by omega)
  have n16 : I1 103 16 = kN R := g4.1
  have hp : ∀ r, r < rC R → I1 116 r = (rs R (dw R (R 5)) r (kN R)).2.2 := fun r hr => (g4.2.2.1 r hr).2
  have hc := hR.c
  refine s9_count_9 (n_p1 := 1514) (n_p2 := 1514) (n_p3 := 1514) (n_p4 := 1514) (n_p5 := 1514) (by omega) (am_ow hM.1) hM.row.1 (am_rw hM.row.2) hM.row.1 (am_rw hM.row.2) hM.row.1 (am_rw hM.row.2) hM.row.1 (am_rw hM.row.2) hM.row.1 (am_rw hM.row.2) (fun c => ?_) (fun c => ?_) (fun c => ?_) (fun c => ?_) (fun c => ?_) (fun c => ?_) (fun c Q' hK => ?_) (fun c Q' hK => ?_) (fun c Q' hK => ?_) (fun c Q' hK => ?_) (fun c => ?_) (fun c => ?_) (fun a0 a1 a2 a3 a4 a5 a6 a7 a8 a9 b0 b1 Q' hK => ?_)
  · subst c; dsimp only; rw [show (0 : Int).toNat = 0 from rfl, rr 0 (by omega)]; exact h0 _ I1 rfl g1 g2
  · subst c; dsimp only; rw [show (1 : Int).toNat = 1 from rfl, rr 1 (by omega)]; exact h0 _ I1 rfl g1 g2
  · subst c; dsimp only; rw [show (2 : Int).toNat = 2 from rfl, rr 2 (by omega)]; exact h0 _ I1 rfl g1 g2
  · subst c; dsimp only; rw [show (3 : Int).toNat = 3 from rfl, rr 3 (by omega)]; exact h0 _ I1 rfl g1 g2
  · subst c; dsimp only; rw [show (4 : Int).toNat = 4 from rfl, rr 4 (by omega)]; exact h0 _ I1 rfl g1 g2
  · subst c; dsimp only; rw [n16]; exact h0 _ I1 rfl g1 g2
  · subst c
    refine md_unlike (by omega) hM g3 hR hD n16 (fun I2 k1 => hK _ _ (s9_count_88 ?_))
    exact h0 _ I2 rfl ⟨fun x a b => by rw [k1 x (by omega)]; exact g1.1 x a b, fun j a b c => by rw [k1 103 (by omega)]; exact g1.2 j a b c⟩ (by rw [k1 103 (by omega)]; exact g2)
  · subst c
    have hq := dnm_pnd (f := I1 116) (rC R) hp
    refine md_doneMany (by omega) hM g3 hR (hK _ _ (s9_count_93 ?_))
    refine h0 _ I1 ?_ g1 g2
    show some (R 0 - (pq R : Int)) = _
    have : pq R = pnd R (dw R (R 5)) (kN R) (rC R) := rfl
    rw [this]
    congr 1
    omega
  · subst c
    refine md_isOver (d := dw R (R 5)) (k := kN R) (by omega) hM g3 hR hp (fun z => hK _ _ (s9_count_98 (fun c => absurd c (by decide)) (fun _ => ?_))) (fun z => hK _ _ (s9_count_98 (fun _ => ?_) (fun c => absurd rfl c)))
    · refine h0 _ I1 ?_ g1 g2
      show some (if (pq R : Int) = 0 then (1 : Int) else 0) = _
      have : pq R = 0 := z
      rw [if_pos (by omega)]
    · refine h0 _ I1 ?_ g1 g2
      show some (if (pq R : Int) = 0 then (1 : Int) else 0) = _
      have : pq R ≠ 0 := z
      rw [if_neg (by omega)]
  · subst c
    have hv9 : vCount R n (I 103 24) 9 = some (if bh R then 1 else 0) := rfl
    refine md_isByHand (by omega) hM g3 hR g4 (hK _ _ (s9_count_111 (fun c => ?_) (fun c => ?_)))
    · by_cases q : bh R = true
      · rw [if_pos q] at c; omega
      · rw [if_neg q] at hv9
        exact h0 _ I1 hv9 g1 g2
    · by_cases q : bh R = true
      · rw [if_pos q] at hv9
        exact h0 _ I1 hv9 g1 g2
      · rw [if_neg q] at c; omega
  · subst c; dsimp only; rw [n6]; exact h0 _ I1 rfl g1 g2
  · subst c; dsimp only; rw [n24]; exact h0 _ I1 rfl g1 g2
  · refine md_fail1 hM g1 (fun I2 k1 k2 => hK _ _ (s9_count_135 (h1 ?_ I2 k1 k2)))
    unfold vCount
    rw [if_neg a0, if_neg a1, if_neg a2, if_neg a3, if_neg a4, if_neg a5, if_neg a6, if_neg a7, if_neg a8, if_neg a9, if_neg b0, if_neg b1]
theorem md_wins {I : Nat → Nat → Int} {r : Nat} (hd : 4 ≤ dp) (hM : Md (I, Z)) (hv : RowV I R) (hR : RV R) (hA : MaV I R (dw R (R 5)) (kN R)) (hr : r < rC R) (h : Q (.inl (some (iV (vWins R r)))) (I, Z)) : T G dp 0 0 M9_wins [rV (some 103), iV r] (I, Z) Q := by
  have hc := hR.c
  have e15 : I 116 r = (rq R r).2.2 := (hA.2.2.1 r hr).2
  have ew : I 111 r = rW R r := hA.2.1.w hr
  have eo : I 112 r = rO R r := hA.2.1.o hr
  unfold vWins at h
  refine T9_wins (s9_wins_0 (n_p1 := 3) (n_p2 := 3) (by omega) (am_ow hM.1) hM.done.1 (am_rw hM.done.2) hM.winner.1 (am_rw hM.winner.2) (fun c Q' hK => md_isByHand (by omega) hM hv hR hA (hK _ _ ?_)) (fun c => ?_))
  · dsimp only at c
    rw [tnc, e15] at c
    rw [if_pos c] at h
    refine s9_wins_23 (n_p1 := 3) (am_ow hM.1) hM.right.1 (am_rw hM.right.2) (fun c2 => ?_) (fun c2 => ?_)
    · by_cases q : bh R = true
      · rw [if_pos q] at c2; omega
      · rw [if_neg q] at h; exact h
    · by_cases q : bh R = true
      · rw [if_pos q] at h
        dsimp only; rw [tnc, eo]; exact h
      · rw [if_neg q] at c2; omega
  · dsimp only at c ⊢
    rw [tnc, e15] at c
    rw [if_neg c] at h
    rw [tnc, ew]; exact h
theorem r_race {I : Nat → Nat → Int} {i j : Int} (hd : 8 ≤ dp) (hM : Md (I, Z)) (hv : RowV I R) (hR : RV R) (hD : DR R) (h0 : ∀ (r : Nat) (v : Int) (I' : Nat → Nat → Int), i = r → r < rC R → vRace R r j = some v → MF I I' → I' 103 7 = 0 → Q (.inl (some (iV v))) (I', Z)) (h1 : (¬ isR R i ∨ ∀ r, vRace R r j = none) → ∀ I' : Nat → Nat → Int, MF I I' → I' 103 7 = 1 → Q (.inl (some (iV 0))) (I', Z)) : T G dp 4 24 M9_race [rV (some 103), iV i, iV j] (I, Z) Q := by
  have hv0 : RowV (u2 I 103 7 0) R := MF.code.row hv
  refine T9_race (s9_race_0 (by omega) hM.1 fun Q' hK => md_isRace (m := (u2 I 103 7 0, Z)) (by omega) hM hv0 hR (fun c => hK _ _ ?_) (fun c => hK _ _ ?_))
  · obtain ⟨r, er, hr, hr3⟩ := c.n hR
    subst er
    refine s9_race_10 (by omega) (am_ow hM.1) (fun c => absurd c (by decide)) (fun _ Q' hK => md_isIn (hK _ _ ?_))
    by_cases q : 0 ≤ j ∧ j ≤ 7
    · rw [if_pos q]
      refine s9_race_20 (by omega) (am_ow hM.1) (fun _ Q' hK => md_goes0 (by omega) hM hv hR hD (fun I1 g1 g2 g3 g4 => hK _ ?_)) (fun c => absurd c (by decide))
      have ew : I1 111 r = rW R r := g4.2.1.w hr
      have eo : I1 112 r = rO R r := g4.2.1.o hr
      have eg : I1 113 r = rG R r := g4.2.1.g hr
      have ed : I1 116 r = (rq R r).2.2 := (g4.2.2.1 r hr).2
      have h0 := fun v e => h0 r v I1 rfl hr e g1 g2
      refine s9_race_33 (n_p1 := 3) (n_p2 := 3) (n_p3 := 3) (n_p4 := 3) (n_p5 := 3) (by omega) (am_ow hM.1) hM.winner.1 (am_rw hM.winner.2) hM.right.1 (am_rw hM.right.2) hM.margin.1 (am_rw hM.margin.2) hM.done.1 (am_rw hM.done.2) hM.done.1 (am_rw hM.done.2) (fun c Q' hK => ?_) (fun c Q' hK => ?_) (fun c => ?_) (fun c => ?_) (fun c => ?_) (fun c c2 => ?_) (fun c c2 => ?_) (fun c => ?_) (fun a0 a1 a2 a3 a4 a5 a6 Q' hK => ?_)
      · subst c; exact md_candidates (m := (I1, Z)) hM g3 hr3 (hK _ _ (s9_race_81 (h0 _ rfl)))
      · subst c; exact md_wayOf (m := (I1, Z)) hM g3 hr3 (hK _ _ (s9_race_87 (h0 _ rfl)))
      · subst c; dsimp only; rw [tnc, ew]; exact h0 _ rfl
      · subst c; dsimp only; rw [tnc, eo]; exact h0 _ rfl
      · subst c; dsimp only; rw [tnc, eg]; exact h0 _ rfl
      · subst c
        dsimp only at c2
        rw [tnc, ed] at c2
        refine h0 _ ?_
        show some (if (rq R r).2.2 = -1 then (0 : Int) else 1) = _
        rw [if_neg c2]
      · subst c
        dsimp only at c2
        rw [tnc, ed] at c2
        refine h0 _ ?_
        show some (if (rq R r).2.2 = -1 then (0 : Int) else 1) = _
        rw [if_pos c2]
      · subst c; dsimp only; rw [tnc, ed]; exact h0 _ rfl
      · have e7 : j = 7 := by omega
        subst e7
        exact md_wins (by omega) hM g3 hR g4 hr (hK _ _ (s9_race_137 (h0 _ rfl)))
    · rw [if_neg q]
      refine s9_race_20 (by omega) (am_ow hM.1) (fun c => absurd rfl c) (fun _ Q' hK => md_fail1 hM MF.code (fun I2 k1 k2 => hK _ _ (s9_race_28 (h1 (Or.inr fun r => ?_) I2 k1 k2))))
      unfold vRace
      rw [if_neg (by omega), if_neg (by omega), if_neg (by omega), if_neg (by omega), if_neg (by omega), if_neg (by omega), if_neg (by omega), if_neg (by omega)]
  · exact s9_race_10 (by omega) (am_ow hM.1) (fun _ Q' hK => md_fail1 hM MF.code (fun I2 k1 k2 => hK _ _ (s9_race_28 (h1 (Or.inl c) I2 k1 k2)))) (fun c => absurd rfl c)
theorem r_risk {I : Nat → Nat → Int} {i : Int} (hd : 8 ≤ dp) (hM : Md (I, Z)) (hv : RowV I R) (hR : RV R) (hD : DR R) (h0 : ∀ (r : Nat) (I' : Nat → Nat → Int), i = r → r < rC R → MF I I' → I' 103 7 = 0 → Q (.inl (some (lV (rq R r).2.1))) (I', Z)) (h1 : ¬ isR R i → ∀ I' : Nat → Nat → Int, MF I I' → I' 103 7 = 1 → Q (.inl (some (lV 0))) (I', Z)) : T G dp 4 24 M9_risk [rV (some 103), iV i] (I, Z) Q := by
  have hv0 : RowV (u2 I 103 7 0) R := MF.code.row hv
  refine T9_risk (s9_risk_0 (by omega) hM.1 fun Q' hK => md_isRace (m := (u2 I 103 7 0, Z)) (by omega) hM hv0 hR (fun c => hK _ _ ?_) (fun c => hK _ _ ?_))
  · obtain ⟨r, er, hr, hr3⟩ := c.n hR
    subst er
    refine s9_risk_10 (by omega) (am_ow hM.1) (fun _ Q' hK => md_goes0 (by omega) hM hv hR hD (fun I1 g1 g2 g3 g4 => hK _ ?_)) (fun c => absurd c (by decide))
    exact s9_risk_24 (by omega) (am_ow hM.1) fun Q' hK => md_riskNow (by omega) hM g3 hR g4.2.1 hr (g4.2.2.1 r hr).1 (hK _ _ (s9_risk_29 (h0 r I1 rfl hr g1 g2)))
  · exact s9_risk_10 (by omega) (am_ow hM.1) (fun c => absurd rfl c) (fun _ Q' hK => md_fail1 hM MF.code (fun I2 k1 k2 => hK _ _ (s9_risk_18 (h1 c I2 k1 k2))))
theorem r_riskOf {I : Nat → Nat → Int} {i j : Int} (hd : 8 ≤ dp) (hM : Md (I, Z)) (hv : RowV I R) (hR : RV R) (hD : DR R) (h0 : ∀ (r c : Nat) (I' : Nat → Nat → Int), i = r → r < rC R → j = c → c < rK R r → MF I I' → I' 103 7 = 0 → Q (.inl (some (lV (vRiskOf R r c)))) (I', Z)) (h1 : (¬ isR R i ∨ ∃ r : Nat, i = r ∧ ¬ isC R r j) → ∀ I' : Nat → Nat → Int, MF I I' → I' 103 7 = 1 → Q (.inl (some (lV 0))) (I', Z)) : T G dp 4 24 M9_riskOf [rV (some 103), iV i, iV j] (I, Z) Q := by
  have hv0 : RowV (u2 I 103 7 0) R := MF.code.row hv
  refine T9_riskOf (s9_riskOf_0 (by omega) hM.1 fun Q' hK => md_isRace (m := (u2 I 103 7 0, Z)) (by omega) hM hv0 hR (fun c => hK _ _ ?_) (fun c => hK _ _ ?_))
  · obtain ⟨r, er, hr, hr3⟩ := c.n hR
    subst er
    refine s9_riskOf_10 (by omega) (am_ow hM.1) (fun c => absurd c (by decide)) (fun _ Q' hK => md_isCandidate (m := (u2 I 103 7 0, Z)) (by omega) hM hv0 hR hr (fun cc => hK _ _ ?_) (fun cc => hK _ _ ?_))
    · obtain ⟨c, ec, hc, hc4⟩ := cc.n hR hr
      subst ec
      refine s9_riskOf_19 (by omega) (am_ow hM.1) (fun _ Q' hK => md_goes0 (by omega) hM hv hR hD (fun I1 g1 g2 g3 g4 => hK _ ?_)) (fun c => absurd c (by decide))
      have ew : I1 111 r = rW R r := g4.2.1.w hr
      have h0 := h0 r c I1 rfl hr rfl hc g1 g2
      unfold vRiskOf at h0
      have hm := (g4.2.2.1 r hr).1
      refine s9_riskOf_33 (n_p1 := 3) (by omega) (am_ow hM.1) hM.winner.1 (am_rw hM.winner.2) (fun q Q' hK => md_wayOf (m := (I1, Z)) hM g3 hr3 (hK _ _ ?_)) (fun q => ?_)
      · dsimp only at q
        rw [tnc, ew] at q
        rw [if_neg (by omega)] at h0
        refine s9_riskOf_50 (n_p1 := 12) (by omega) (am_ow hM.1) hM.risks.1 (am_rw hM.risks.2) (fun q2 => ?_) (fun q2 Q' hK => ?_) (h4 := fun _ => by rw [ix4 (by omega) (by omega)]; omega) (h5 := fun _ => by rw [ix4 (by omega) (by omega)]; omega)
        · rw [if_neg q2] at h0
          dsimp only
          rw [ix4 (by omega) (by omega), tnc, (hm.2 q2).1 c hc4]; exact h0
        · rw [if_pos q2] at h0
          exact md_riskNow (by omega) hM g3 hR g4.2.1 hr hm (hK _ _ (s9_riskOf_58 h0))
      · dsimp only at q
        rw [tnc, ew] at q
        rw [if_pos (by omega)] at h0
        exact h0
    · exact s9_riskOf_19 (by omega) (am_ow hM.1) (fun c => absurd rfl c) (fun _ Q' hK => md_fail1 hM MF.code (fun I2 k1 k2 => hK _ _ (s9_riskOf_27 (h1 (Or.inr ⟨r, rfl, cc⟩) I2 k1 k2))))
  · exact s9_riskOf_10 (by omega) (am_ow hM.1) (fun _ Q' hK => md_fail1 hM MF.code (fun I2 k1 k2 => hK _ _ (s9_riskOf_27 (h1 (Or.inl c) I2 k1 k2)))) (fun c => absurd rfl c)
theorem r_riskAt {I : Nat → Nat → Int} {i j : Int} (hd : 8 ≤ dp) (hM : Md (I, Z)) (hv : RowV I R) (hR : RV R) (hD : DR R) (h0 : ∀ (r k : Nat) (I' : Nat → Nat → Int), i = r → r < rC R → j = k → k ≤ kN R → MF I I' → I' 103 7 = 0 → Q (.inl (some (lV (rs R (dw R (R 5)) r k).2.1))) (I', Z)) (h1 : (¬ isR R i ∨ ¬ (0 ≤ j ∧ j ≤ kN R)) → ∀ I' : Nat → Nat → Int, MF I I' → I' 103 7 = 1 → Q (.inl (some (lV 0))) (I', Z)) : T G dp 4 24 M9_riskAt [rV (some 103), iV i, iV j] (I, Z) Q := by
  have hk3 := kN_le R
  refine T9_riskAt (s9_riskAt_0 (by omega) hM.1 fun Q' hK => md_goes0 (by omega) hM hv hR hD (fun I1 g1 g2 g3 g4 => hK _ ?_))
  refine s9_riskAt_9 (by omega) (am_ow hM.1) fun Q' hK => md_isRace (m := (I1, Z)) (by omega) hM g3 hR (fun c => hK _ _ ?_) (fun c => hK _ _ ?_)
  · obtain ⟨r, er, hr, hr3⟩ := c.n hR
    subst er
    refine s9_riskAt_14 (by omega) (am_ow hM.1) (fun c => absurd c (by decide)) (fun _ Q' hK => ?_)
    dsimp only
    rw [g4.1]
    refine md_isIn (hK _ _ ?_)
    by_cases q : 0 ≤ j ∧ j ≤ kN R
    · rw [if_pos q]
      obtain ⟨k, ek⟩ : ∃ k : Nat, j = k := ⟨j.toNat, by omega⟩
      subst ek
      refine s9_riskAt_26 (n_p1 := 903) (by omega) (am_ow hM.1) hM.history.1 (am_rw hM.history.2) (fun _ => ?_) (fun c => absurd c (by decide)) (h4 := fun _ => by rw [ix3 (by omega) (by omega)]; omega) (h5 := fun _ => by rw [ix3 (by omega) (by omega)]; omega)
      dsimp only
      rw [ix3 (by omega) (by omega), tnc, g4.2.2.2 k (by omega) r hr]
      exact h0 r k I1 rfl hr rfl (by omega) g1 g2
    · rw [if_neg q]
      exact s9_riskAt_26 (n_p1 := 903) (by omega) (am_ow hM.1) hM.history.1 (am_rw hM.history.2) (fun c => absurd rfl c) (fun _ Q' hK => md_fail1 hM g1 (fun I2 k1 k2 => hK _ _ (s9_riskAt_34 (h1 (Or.inr q) I2 k1 k2)))) (h4 := fun c => absurd rfl c) (h5 := fun c => absurd rfl c)
  · exact s9_riskAt_14 (by omega) (am_ow hM.1) (fun _ Q' hK => md_fail1 hM g1 (fun I2 k1 k2 => hK _ _ (s9_riskAt_34 (h1 (Or.inl c) I2 k1 k2)))) (fun c => absurd rfl c)
theorem r_drawn {I : Nat → Nat → Int} {i : Int} (hd : 8 ≤ dp) (hM : Md (I, Z)) (hv : RowV I R) (hR : RV R) (hD : DR R) (h0 : ∀ (k : Nat) (I' : Nat → Nat → Int), i = k → k < kN R → MF I I' → I' 103 7 = 0 → Q (.inl (some (iV (dw R (R 5) k)))) (I', Z)) (h1 : ¬ (0 ≤ i ∧ i < kN R) → ∀ I' : Nat → Nat → Int, MF I I' → I' 103 7 = 1 → Q (.inl (some (iV 0))) (I', Z)) : T G dp 4 24 M9_drawn [rV (some 103), iV i] (I, Z) Q := by
  have hk3 := kN_le R
  refine T9_drawn (s9_drawn_0 (by omega) hM.1 fun Q' hK => md_goes0 (by omega) hM hv hR hD (fun I1 g1 g2 g3 g4 => hK _ ?_))
  refine s9_drawn_9 (by omega) (am_ow hM.1) fun Q' hK => ?_
  dsimp only
  rw [g4.1, wr_of (by omega) (by omega)]
  refine md_isIn (hK _ _ ?_)
  by_cases q : 0 ≤ i ∧ i ≤ (kN R : Int) - 1
  · rw [if_pos q]
    obtain ⟨k, ek⟩ : ∃ k : Nat, i = k := ⟨i.toNat, by omega⟩
    subst ek
    obtain ⟨d1, d2, d3⟩ := hD.k hR (j := k) (by omega)
    refine s9_drawn_20 (n_p1 := 1514) (by omega) (am_ow hM.1) hM.row.1 (am_rw hM.row.2) (fun c => absurd c (by decide)) (fun _ => s9_drawn_41 ?_) (h4 := fun _ => by rw [ix1214 (by omega)]; omega) (h5 := fun _ => by rw [ix1214 (by omega)]; omega)
    dsimp only
    rw [ix1214 (by omega), tnc, g3 _ (by omega), d1]
    exact h0 k I1 rfl (by omega) g1 g2
  · rw [if_neg q]
    exact s9_drawn_20 (n_p1 := 1514) (by omega) (am_ow hM.1) hM.row.1 (am_rw hM.row.2) (fun _ Q' hK => md_fail1 hM g1 (fun I2 k1 k2 => hK _ _ (s9_drawn_41 (h1 (fun z => q ⟨z.1, by omega⟩) I2 k1 k2)))) (fun c => absurd rfl c) (h4 := fun c => absurd rfl c) (h5 := fun c => absurd rfl c)
theorem r_times {I : Nat → Nat → Int} {i : Int} (hd : 8 ≤ dp) (hM : Md (I, Z)) (hv : RowV I R) (hR : RV R) (hD : DR R) (h0 : ∀ (b : Nat) (I' : Nat → Nat → Int), i = b → b < rN R → MF I I' → I' 103 7 = 0 → Q (.inl (some (iV (cnt (dw R (R 5)) (kN R) b)))) (I', Z)) (h1 : ¬ isB R i → ∀ I' : Nat → Nat → Int, MF I I' → I' 103 7 = 1 → Q (.inl (some (iV 0))) (I', Z)) : T G dp 4 24 M9_times_ [rV (some 103), iV i] (I, Z) Q := by
  have hv0 : RowV (u2 I 103 7 0) R := MF.code.row hv
  refine T9_times_ (s9_times__0 (by omega) hM.1 fun Q' hK => md_isBallot (m := (u2 I 103 7 0, Z)) (by omega) hM hv0 hR (fun c => hK _ _ ?_) (fun c => hK _ _ ?_))
  · obtain ⟨b, eb, hb, hb2⟩ := c.n hR
    subst eb
    refine s9_times__10 (by omega) (am_ow hM.1) (fun _ Q' hK => md_goes0 (by omega) hM hv hR hD (fun I1 g1 g2 g3 g4 => hK _ ?_)) (fun c => absurd c (by decide))
    refine s9_times__23 (by omega) (am_ow hM.1) fun Q' hK => md_layTimes hM g3 hR hD g4.1 (fun I2 k1 k2 => hK _ ?_)
    refine s9_times__27 (n_p1 := 200) (am_ow hM.1) hM.often.1 (am_rw hM.often.2) ?_
    dsimp only
    rw [tnc, k2 b hb2]
    exact h0 b I2 rfl hb ⟨fun x a b => by rw [k1 x (by omega)]; exact g1.1 x a b, fun j a b c => by rw [k1 103 (by omega)]; exact g1.2 j a b c⟩ (by rw [k1 103 (by omega)]; exact g2)
  · exact s9_times__10 (by omega) (am_ow hM.1) (fun c => absurd rfl c) (fun _ Q' hK => md_fail1 hM MF.code (fun I2 k1 k2 => hK _ _ (s9_times__18 (h1 c I2 k1 k2))))
theorem lp_rmist {I : Nat → Nat → Int} {r : Nat} {z : Int} (hd : 1 ≤ dp) (hM : Md (I, Z)) (hv : RowV I R) (hR : RV R) (hD : DR R) (hA : MaV I R (dw R (R 5)) (kN R)) (hr : r < rC R) (h : Q (.inl (some (iV (mkd R r z)))) (I, Z)) : ∀ (t k : Nat) {a b : Nat}, kN R - k = t → k ≤ kN R → X G dp a b M9_mistakes 38 [some (rV (some 103)), some (iV r), some (iV z), some (iV (cnt (fun k => rM R r (dw R (R 5) k).toNat) k z)), some (iV k)] [] (I, Z) Q := by
  have hk3 := kN_le R
  have hc := hR.c
  have hn := hR.n
  have e16 : (I, Z).1 103 16 = kN R := hA.1
  intro t
  induction t with
  | zero =>
    intro k a b ht hk
    have e : k = kN R := by omega
    have h : Q (.inl (some (iV (cnt (fun k => rM R r (dw R (R 5) k).toNat) (kN R) z)))) (I, Z) := h
    rw [← e] at h
    exact s9_mistakes_38 (n_p1 := 1514) hd (am_ow hM.1) hM.row.1 (am_rw hM.row.2) (fun _ => h) (fun c => absurd (by omega) c) (h4 := fun c => absurd (by omega) c) (h5 := fun c => absurd (by omega) c)
  | succ t ih =>
    intro k a b' ht hk
    have ih := ih (k + 1) (a := a) (b := b') (by omega) (by omega)
    have hcr := cnt_rng (fun k => rM R r (dw R (R 5) k).toNat) z k
    rw [cnt_s] at ih
    obtain ⟨d1, d2, d3⟩ := hD.k hR (j := k) (by omega)
    obtain ⟨b, eb⟩ : ∃ b : Nat, dw R (R 5) k = b := ⟨(dw R (R 5) k).toNat, by omega⟩
    refine s9_mistakes_38 (n_p1 := 1514) hd (am_ow hM.1) hM.row.1 (am_rw hM.row.2) (fun c => absurd c (by omega)) (fun _ Q' hK => ?_) (h4 := fun _ => by rw [ix1214 (by omega)]; omega) (h5 := fun _ => by rw [ix1214 (by omega)]; omega)
    dsimp only
    rw [ix1214 (by omega), tnc, hv _ (by omega), d1, eb]
    refine md_mistakeAt hM hR hA.2.1 hr (by omega) (hK _ _ ?_)
    rw [eb, tnc] at ih
    refine s9_mistakes_63 (fun c => ?_) (fun c => ?_)
    · rw [if_neg c, Int.add_zero] at ih
      rw [wrs (by omega)]
      exact ih
    · rw [if_pos c] at ih
      rw [wrs (by omega), wr_of (z := cnt (fun k => rM R r (dw R (R 5) k).toNat) k z + 1) (by omega) (by omega)]
      exact ih
theorem r_mistakes {I : Nat → Nat → Int} {i z : Int} (hd : 8 ≤ dp) (hM : Md (I, Z)) (hv : RowV I R) (hR : RV R) (hD : DR R) (h0 : ∀ (r : Nat) (I' : Nat → Nat → Int), i = r → r < rC R → -2 ≤ z → z ≤ 2 → MF I I' → I' 103 7 = 0 → Q (.inl (some (iV (mkd R r z)))) (I', Z)) (h1 : (¬ isR R i ∨ ¬ (-2 ≤ z ∧ z ≤ 2)) → ∀ I' : Nat → Nat → Int, MF I I' → I' 103 7 = 1 → Q (.inl (some (iV 0))) (I', Z)) : T G dp 4 24 M9_mistakes [rV (some 103), iV i, iV z] (I, Z) Q := by
  have hv0 : RowV (u2 I 103 7 0) R := MF.code.row hv
  refine T9_mistakes (s9_mistakes_0 (by omega) hM.1 fun Q' hK => md_isRace (m := (u2 I 103 7 0, Z)) (by omega) hM hv0 hR (fun c => hK _ _ ?_) (fun c => hK _ _ ?_))
  · obtain ⟨r, er, hr, hr3⟩ := c.n hR
    subst er
    refine s9_mistakes_10 (by omega) (am_ow hM.1) (fun c => absurd c (by decide)) (fun _ Q' hK => md_isIn (hK _ _ ?_))
    by_cases q : -2 ≤ z ∧ z ≤ 2
    · rw [if_pos q]
      refine s9_mistakes_20 (by omega) (am_ow hM.1) (fun _ Q' hK => md_goes0 (by omega) hM hv hR hD (fun I1 g1 g2 g3 g4 => hK _ (s9_mistakes_33 ?_))) (fun c => absurd c (by decide))
      exact lp_rmist (I := I1) (by omega) hM g3 hR hD g4 hr (h0 r I1 rfl hr q.1 q.2 g1 g2) _ 0 rfl (by omega)
    · rw [if_neg q]
      exact s9_mistakes_20 (by omega) (am_ow hM.1) (fun c => absurd rfl c) (fun _ Q' hK => md_fail1 hM MF.code (fun I2 k1 k2 => hK _ _ (s9_mistakes_28 (h1 (Or.inr q) I2 k1 k2))))
  · exact s9_mistakes_10 (by omega) (am_ow hM.1) (fun _ Q' hK => md_fail1 hM MF.code (fun I2 k1 k2 => hK _ _ (s9_mistakes_28 (h1 (Or.inl c) I2 k1 k2)))) (fun c => absurd rfl c)
end
