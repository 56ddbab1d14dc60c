/-! AUDITS: a draw, draws, beginning -/
theorem cnt_congr {f g : Nat → Int} {c : Int} : ∀ n : Nat, (∀ j, j < n → f j = g j) → cnt f n c = cnt g n c
  | 0, _ => rfl
  | n + 1, h => by
    unfold cnt
    rw [cnt_congr n (fun j hj => h j (by omega)), h n (by omega)]
theorem cnt_s (f : Nat → Int) (n : Nat) (c : Int) : cnt f (n + 1) c = cnt f n c + if f n = c then 1 else 0 := rfl
theorem unl_s (f : Nat → Int) (n : Nat) : unl f (n + 1) = unl f n + if cnt f n (f n) = 0 then 1 else 0 := rfl
theorem unl_rng (f : Nat → Int) : ∀ n : Nat, 0 ≤ unl f n ∧ unl f n ≤ n
  | 0 => by unfold unl; omega
  | n + 1 => by
    have h := unl_rng f n
    rw [unl_s]
    split <;> omega
theorem dr_one {G : am_G} {dp : Nat} {Q : am_Q} {a e k b : Nat} {R : Nat → Int} {z : Int} {Z : (Nat → Nat → Option Nat) × (Nat → Nat × Nat) × Nat × Bool} {I I1 : Nat → Nat → Int} (hd : 4 ≤ dp) (ha : Au (I, Z) a) (he : El (I, Z) e) (hv : ElV I e R) (hR : RV R) (hs : e + 21 ≤ a ∨ a + 12 ≤ e) (hk3 : k + 1 ≤ 300) (hb : dw R z k = b) (hbn : b < rN R) (hA : AuV I a R z k) (g1 : ∀ x, x ≠ a → x ≠ a + 10 → x ≠ a + 11 → I1 x = I x) (g2 : ∀ j, j ≠ 6 → j ≠ 8 → I1 a j = I a j) (g3 : I1 a 8 = lx z (k + 1)) (g4 : I1 a 6 = unl (dw R z) (k + 1)) (g5 : ∀ j, j < k + 1 → I1 (a + 10) j = dw R z j) (g6 : ∀ b : Nat, b < 200 → I1 (a + 11) b = cnt (dw R z) (k + 1) b) (h : ∀ I' : Nat → Nat → Int, (∀ x, x < a ∨ a + 12 ≤ x → I' x = I x) → AuV I' a R z (k + 1) → Q (.inl none) (I', Z)) : X G dp 0 0 M1_drawOne 101 [some (rV (some a)), some (rV (some e)), some (iV b), some (iV 0)] [] (I1, Z) Q := by
  have hc := hR.c
  refine lp_race (k := k) (b := b) (d := dw R z) (I0 := I1) hd ha he (hv.same hR fun x hx1 hx2 => g1 x (by omega) (by omega) (by omega)) hR hs hk3 hb hbn (by rw [g2 5 (by omega) (by omega)]; exact hA.1) (by rw [g2 7 (by omega) (by omega)]; exact hA.2.2.1) (fun I' q1 q2 q3 q4 q5 => h I' (fun x hx => ?_) ⟨q3, ?_, q4, ?_, fun r hr => q5 r hr, fun j hj => ?_, fun b hb => ?_⟩) (rC R) 0 I1 rfl (by omega) (fun _ _ => rfl) (fun r hr => ?_)
  · rw [q1 x (by omega)]; exact g1 x (by omega) (by omega) (by omega)
  · rw [q2 6 (by omega) (by omega)]; exact g4
  · rw [q2 8 (by omega) (by omega)]; exact g3
  · rw [q1 (a + 10) (by omega)]; exact g5 j hj
  · rw [q1 (a + 11) (by omega)]; exact g6 b hb
  · dsimp only
    rw [if_neg (by omega)]
    exact (hA.2.2.2.2.1 r hr).same (g1 _ (by omega) (by omega) (by omega)) (g1 _ (by omega) (by omega) (by omega)) (by rw [g1 (a + 9) (by omega) (by omega) (by omega)])
theorem ct_drawOne {G : am_G} {dp : Nat} {Q : am_Q} {a e k : Nat} {R : Nat → Int} {z : Int} {Z : (Nat → Nat → Option Nat) × (Nat → Nat × Nat) × Nat × Bool} {I : Nat → Nat → Int} (hd : 4 ≤ dp) (ha : Au (I, Z) a) (he : El (I, Z) e) (hv : ElV I e R) (hR : RV R) (hs : e + 21 ≤ a ∨ a + 12 ≤ e) (hk3 : k + 1 ≤ 300) (hn : 0 < R 1) (hA : AuV I a R z k) (h : ∀ I' : Nat → Nat → Int, (∀ x, x < a ∨ a + 12 ≤ x → I' x = I x) → AuV I' a R z (k + 1) → Q (.inl none) (I', Z)) : T G dp 0 0 M1_drawOne [rV (some a), rV (some e)] (I, Z) Q := by
  have hN := hR.n
  have hdw := dw_rng (R := R) (z := z) (k := k) hn
  generalize hb : dw R z k = bz at hdw
  obtain ⟨b, rfl⟩ : ∃ b : Nat, bz = b := ⟨bz.toNat, by omega⟩
  have hbn : b < rN R := by omega
  have e8 : I a 8 = lx z k := hA.2.2.2.1
  have e5 : I a 5 = k := hA.1
  have e3 : I e 3 = R 1 := hv.2.1
  have ex : wr (wr (I a 8 * 1103515245) + 12345) = lx z (k + 1) := by rw [e8]; rfl
  have eof := hA.2.2.2.2.2.2 b (by omega)
  have hcr := cnt_rng (dw R z) b k
  have hun := unl_rng (dw R z) k
  have eb : Int.tmod (ian (iushx (u2 I a 8 (lx z (k + 1)) a 8) 16) 32767) (u2 I a 8 (lx z (k + 1)) e 3) = b := by
    rw [u2_at, u2r (by omega), e3]
    exact hb
  have com : ∀ I1 : Nat → Nat → Int, (∀ x, x ≠ a → I1 x = u2 (u2 (u2 I a 8 (lx z (k + 1))) (a + 11) b (cnt (dw R z) k b + 1)) (a + 10) k b x) → (∀ j, j ≠ 6 → j ≠ 8 → I1 a j = I a j) → I1 a 8 = lx z (k + 1) → I1 a 6 = unl (dw R z) (k + 1) → X G dp 0 0 M1_drawOne 101 [some (rV (some a)), some (rV (some e)), some (iV b), some (iV 0)] [] (I1, Z) Q := fun I1 q1 q2 q3 q4 => by
    refine dr_one hd ha he hv hR hs hk3 hb hbn hA (fun x hx1 hx2 hx3 => ?_) q2 q3 q4 (fun j hj => ?_) (fun c hc => ?_) h
    · rw [q1 x hx1, u2r hx2, u2r hx3, u2r hx1]
    · rw [q1 _ (by omega)]
      by_cases hj2 : j = k
      · rw [hj2, u2_at]; exact hb.symm
      · rw [u2n hj2, u2r (by omega), u2r (by omega)]; exact hA.2.2.2.2.2.1 j (by omega)
    · rw [q1 _ (by omega), u2r (by omega), cnt_s, hb]
      by_cases hc2 : c = b
      · rw [hc2, u2_at, if_pos rfl]
      · rw [u2n hc2, u2r (by omega), if_neg (by omega), Int.add_zero]; exact hA.2.2.2.2.2.2 c hc
  have u5 : ∀ J : Nat → Nat → Int, (∀ j, j ≠ 6 → j ≠ 8 → J a j = I a j) → u2 J (a + 11) b (cnt (dw R z) k b + 1) a 5 = k := fun J hJ => by rw [u2r (by omega), hJ 5 (by omega) (by omega)]; exact e5
  have j8 : ∀ j, j ≠ 6 → j ≠ 8 → u2 I a 8 (lx z (k + 1)) a j = I a j := fun j _ h8 => u2n h8
  have j68 : ∀ v : Int, ∀ j, j ≠ 6 → j ≠ 8 → u2 (u2 I a 8 (lx z (k + 1))) a 6 v a j = I a j := fun v j h6 h8 => by rw [u2n h6, u2n h8]
  have e8o : u2 I a 8 (lx z (k + 1)) (a + 11) b = cnt (dw R z) k b := by rw [u2r (by omega)]; exact eof
  have e68 : u2 I a 8 (lx z (k + 1)) a 6 = unl (dw R z) k := by rw [u2n (by omega)]; exact hA.2.1
  have e68o : ∀ v : Int, u2 (u2 I a 8 (lx z (k + 1))) a 6 v (a + 11) b = cnt (dw R z) k b := fun v => by rw [u2r (by omega)]; exact e8o
  refine T1_drawOne (s1_drawOne_0 (p1 := a + 11) (p2 := a + 10) (p3 := a + 10) (n_p1 := 200) (n_p2 := 300) (n_p3 := 300) (am_ow he.1) ha.1 ha.2.1.2.2.2.2 ha.2.2.1.2.2.2.2 ha.2.1.2.2.2.1 ha.2.2.1.2.2.2.1 ha.2.1.2.2.2.1 ha.2.2.1.2.2.2.1 (fun c1 => ?_) (fun _ c1 => absurd c1 (by show ¬ 200 < I e 3; rw [e3]; omega)) (fun c1 _ c2 c3 => ?_) (fun c1 _ c2 c3 => ?_) (fun c1 _ c2 => ?_) (h4 := fun c1 _ c2 => ?_) (h7 := fun c1 _ c2 => ?_) (h8 := fun c1 _ c2 => ?_) (h12 := fun c1 _ c2 c3 => ?_) (h13 := fun c1 _ c2 c3 => ?_) (h16 := fun c1 _ c2 c3 => ?_) (h17 := fun c1 _ c2 c3 => ?_))
  all_goals dsimp only at *
  · exact absurd c1 (by rw [e3]; omega)
  · simp only [ex, eb, tnc, e8o] at c3 ⊢
    rw [wr_of (z := cnt (dw R z) k b + 1) (by omega) (by omega), u5 _ j8, tnc]
    refine com _ (fun x hx => rfl) (fun j h6 h8 => ?_) ?_ ?_
    · rw [u2r (by omega), u2r (by omega)]; exact j8 j h6 h8
    · rw [u2r (by omega), u2r (by omega)]; exact u2_at
    · rw [u2r (by omega), u2r (by omega), e68, unl_s, hb, if_neg c3, Int.add_zero]
  · simp only [ex, eb, tnc, e8o, e68, e68o] at c3 ⊢
    rw [wr_of (z := cnt (dw R z) k b + 1) (by omega) (by omega), wr_of (z := unl (dw R z) k + 1) (by omega) (by omega), u5 _ (j68 _), tnc]
    refine com _ (fun x hx => ?_) (fun j h6 h8 => ?_) ?_ ?_
    · unfold u2
      funext y
      by_cases q1 : x = a + 10 ∧ y = k
      · rw [if_pos q1, if_pos q1]
      · rw [if_neg q1, if_neg q1]
        by_cases q2 : x = a + 11 ∧ y = b
        · rw [if_pos q2, if_pos q2]
        · rw [if_neg q2, if_neg q2, if_neg (fun q => hx q.1)]
    · rw [u2r (by omega), u2r (by omega)]; exact j68 _ j h6 h8
    · rw [u2r (by omega), u2r (by omega), u2n (by omega)]; exact u2_at
    · rw [u2r (by omega), u2r (by omega), u2_at, unl_s, hb, if_pos c3]
  · exact absurd (show I a 5 < 300 by rw [e5]; omega) c2
  · rw [u2r (by omega), e3]; omega
  · rw [ex, eb]; omega
  · rw [ex, eb]; omega
  · simp only [ex, eb, tnc, e8o]
    rw [wr_of (z := cnt (dw R z) k b + 1) (by omega) (by omega), u5 _ j8]; omega
  · simp only [ex, eb, tnc, e8o]
    rw [wr_of (z := cnt (dw R z) k b + 1) (by omega) (by omega), u5 _ j8]; omega
  · simp only [ex, eb, tnc, e8o, e68, e68o]
    rw [wr_of (z := cnt (dw R z) k b + 1) (by omega) (by omega), u5 _ (j68 _)]; omega
  · simp only [ex, eb, tnc, e8o, e68, e68o]
    rw [wr_of (z := cnt (dw R z) k b + 1) (by omega) (by omega), u5 _ (j68 _)]; omega
