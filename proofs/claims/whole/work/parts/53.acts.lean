/-! ACTS; changes of an election -/
theorem nx_same {m : am_M} (h : m.2.2.2.2 = false) : am_nx m = m := by
  obtain ⟨I, P, S, N, b⟩ := m
  dsimp only at h
  subst h
  rfl
/-- one more among the latest twelve -/
def psh {α : Type} (A : Nat → α) (n : Nat) (e : α) : Nat → α := if n < 12 then (fun j => if j = n then e else A j) else fun j => if j = 11 then e else A (j + 1)
def psn (n : Nat) : Nat := if n < 12 then n + 1 else 12
def Ac (m : am_M) (q : Nat) : Prop := am_obw m q 0 ∧ (m.2.1 q 0 = some (q + 1) ∧ m.2.1 q 1 = some (q + 2) ∧ m.2.1 q 2 = some (q + 3) ∧ m.2.1 q 3 = some (q + 4)) ∧ am_arw m (q + 1) 100 12 ∧ am_arw m (q + 2) 100 12 ∧ am_arw m (q + 3) 100 12 ∧ am_arw m (q + 4) 100 12
def AcV (I : Nat → Nat → Int) (q n : Nat) (A : Nat → Int × Int × Int × Int) : Prop := I q 4 = n ∧ n ≤ 12 ∧ ∀ j, j < n → I (q + 1) j = (A j).1 ∧ I (q + 2) j = (A j).2.1 ∧ I (q + 3) j = (A j).2.2.1 ∧ I (q + 4) j = (A j).2.2.2
theorem AcV.same {I I' : Nat → Nat → Int} {q n : Nat} {A : Nat → Int × Int × Int × Int} (h : AcV I q n A) (hs : ∀ x, q ≤ x → x < q + 5 → I' x = I x) : AcV I' q n A := by
  unfold AcV at h ⊢
  rw [hs q (by omega) (by omega), hs (q + 1) (by omega) (by omega), hs (q + 2) (by omega) (by omega), hs (q + 3) (by omega) (by omega), hs (q + 4) (by omega) (by omega)]
  exact h
theorem ct_drop {G : am_G} {dp : Nat} {m : am_M} {Q : am_Q} {r : Nat} (hz : m.2.2.2.2 = false) (hr : am_arw m r 100 12) (h : Q (.inl none) (cpI m.1 r 1 r 0 11, m.2)) : T G dp 0 0 M0_dropOldest [rV (some r)] m Q := by
  have e : wr ((12 : Nat) - 1) = 11 := by rw [wr_of (by omega) (by omega)]; rfl
  refine T0_dropOldest (s0_dropOldest_0 (n_r0 := 12) hz hr hr.2.2 ?_ (h7 := by rw [e]; omega) (h8 := by rw [e]; omega) (h9 := by rw [e]; omega))
  rw [e]
  exact h
theorem lp_add {G : am_G} {dp : Nat} {Q : am_Q} {q n : Nat} {i1 i2 i3 i4 : Int} {I : Nat → Nat → Int} {Z : (Nat → Nat → Option Nat) × (Nat → Nat × Nat) × Nat × Bool} (ha : Ac (I, Z) q) (h4 : I q 4 = n) (hn : n < 12) (h : Q (.inl none) (u2 (u2 (u2 (u2 (u2 I (q + 1) n i1) (q + 2) n i2) (q + 3) n i3) (q + 4) n i4) q 4 ((n + 1 : Nat) : Int), Z)) : X G dp 0 0 M0_add 43 [some (rV (some q)), some (iV i1), some (iV i2), some (iV i3), some (iV i4)] [] (I, Z) Q := by
  have a1 : u2 I (q + 1) n i1 q 4 = n := by rw [u2r (by omega)]; exact h4
  have a2 : u2 (u2 I (q + 1) n i1) (q + 2) n i2 q 4 = n := by rw [u2r (by omega)]; exact a1
  have a3 : u2 (u2 (u2 I (q + 1) n i1) (q + 2) n i2) (q + 3) n i3 q 4 = n := by rw [u2r (by omega)]; exact a2
  have a4 : u2 (u2 (u2 (u2 I (q + 1) n i1) (q + 2) n i2) (q + 3) n i3) (q + 4) n i4 q 4 = n := by rw [u2r (by omega)]; exact a3
  obtain ⟨b1, ⟨p1, p2, p3, p4⟩, b2, b3, b4, b5⟩ := ha
  refine s0_add_43 (n_p1 := 12) (n_p2 := 12) (n_p3 := 12) (n_p4 := 12) p1 b2 p2 b3 p3 b4 p4 b5 b1 ?_ (h4 := ?_) (h5 := ?_) (h8 := ?_) (h9 := ?_) (h12 := ?_) (h13 := ?_) (h16 := ?_) (h17 := ?_)
  · dsimp only
    simp only [h4, tnc, a1, a2, a3, a4]
    rw [wrs (by omega)]
    exact h
  all_goals (dsimp only; simp only [h4, tnc, a1, a2, a3]; omega)
theorem ct_add {G : am_G} {dp : Nat} {Q : am_Q} {q n : Nat} {A : Nat → Int × Int × Int × Int} {i1 i2 i3 i4 : Int} {I : Nat → Nat → Int} {Z : (Nat → Nat → Option Nat) × (Nat → Nat × Nat) × Nat × Bool} (hd : 1 ≤ dp) (hz : Z.2.2.2 = false) (ha : Ac (I, Z) q) (hv : AcV I q n A) (h : ∀ I' : Nat → Nat → Int, (∀ x, x < q ∨ q + 5 ≤ x → I' x = I x) → AcV I' q (psn n) (psh A n (i1, i2, i3, i4)) → Q (.inl none) (I', Z)) : T G dp 0 0 M0_add [rV (some q), iV i1, iV i2, iV i3, iV i4] (I, Z) Q := by
  obtain ⟨b1, ⟨p1, p2, p3, p4⟩, b2, b3, b4, b5⟩ := id ha
  obtain ⟨v4, vn, vA⟩ := hv
  refine T0_add (s0_add_0 hd (am_ow b1) p1 (fun c1 => ?_) (fun c1 Q' hK => ct_drop hz b2 (hK _ (s0_add_16 hd (am_ow b1) p2 fun Q' hK => ct_drop hz b3 (hK _ (s0_add_23 hd (am_ow b1) p3 fun Q' hK => ct_drop hz b4 (hK _ (s0_add_30 hd (am_ow b1) p4 fun Q' hK => ct_drop hz b5 (hK _ (s0_add_37 b1 ?_))))))))))
  · dsimp only at c1
    have hn : n < 12 := by omega
    refine lp_add ha v4 hn (h _ (fun x hx => ?_) ?_)
    · rw [u2r (by omega), u2r (by omega), u2r (by omega), u2r (by omega), u2r (by omega)]
    · unfold psn psh
      rw [if_pos hn, if_pos hn]
      refine ⟨u2_at, by omega, fun j hj => ?_⟩
      rw [u2r (by omega), u2r (by omega), u2r (by omega), u2r (by omega), u2r (x := q + 2) (by omega), u2r (x := q + 2) (by omega), u2r (x := q + 2) (by omega), u2r (x := q + 3) (by omega), u2r (x := q + 3) (by omega), u2r (x := q + 4) (by omega)]
      by_cases hj2 : j = n
      · rw [hj2, u2_at, u2_at, u2_at, u2_at]
        simp
      · have v := vA j (by omega)
        dsimp only
        rw [if_neg hj2]
        exact ⟨by rw [u2n hj2]; exact v.1, by rw [u2n hj2, u2r (by omega)]; exact v.2.1, by rw [u2n hj2, u2r (by omega), u2r (by omega)]; exact v.2.2.1, by rw [u2n hj2, u2r (by omega), u2r (by omega), u2r (by omega)]; exact v.2.2.2⟩
  · dsimp only at c1 ⊢
    have hn : n = 12 := by omega
    subst hn
    generalize hJ : u2 (cpI (cpI (cpI (cpI I (q + 1) 1 (q + 1) 0 11) (q + 2) 1 (q + 2) 0 11) (q + 3) 1 (q + 3) 0 11) (q + 4) 1 (q + 4) 0 11) q 4 11 = J
    have fr : ∀ x, x < q ∨ q + 5 ≤ x → J x = I x := fun x hx => by rw [← hJ, u2r (by omega), cpI_row (by omega), cpI_row (by omega), cpI_row (by omega), cpI_row (by omega)]
    have sh : ∀ (K : Nat → Nat → Int) (x j : Nat), j < 11 → cpI K x 1 x 0 11 x j = K x (j + 1) := fun K x j hj => by
      unfold cpI
      rw [if_pos ⟨rfl, by omega, by omega⟩, Nat.sub_zero, Nat.add_comm]
    have j1 : ∀ j, j < 11 → J (q + 1) j = I (q + 1) (j + 1) := fun j hj => by rw [← hJ, u2r (by omega), cpI_row (by omega), cpI_row (by omega), cpI_row (by omega)]; exact sh _ _ j hj
    have j2 : ∀ j, j < 11 → J (q + 2) j = I (q + 2) (j + 1) := fun j hj => by rw [← hJ, u2r (by omega), cpI_row (by omega), cpI_row (by omega), sh _ _ j hj, cpI_row (by omega)]
    have j3 : ∀ j, j < 11 → J (q + 3) j = I (q + 3) (j + 1) := fun j hj => by rw [← hJ, u2r (by omega), cpI_row (by omega), sh _ _ j hj, cpI_row (by omega), cpI_row (by omega)]
    have j4 : ∀ j, j < 11 → J (q + 4) j = I (q + 4) (j + 1) := fun j hj => by rw [← hJ, u2r (by omega), sh _ _ j hj, cpI_row (by omega), cpI_row (by omega), cpI_row (by omega)]
    have e4 : J q 4 = (11 : Nat) := by rw [← hJ]; exact u2_at
    refine lp_add ha e4 (by omega) (h _ (fun x hx => ?_) ?_)
    · rw [u2r (by omega), u2r (by omega), u2r (by omega), u2r (by omega), u2r (by omega)]; exact fr x hx
    · unfold psn psh
      rw [if_neg (by omega), if_neg (by omega)]
      refine ⟨u2_at, by omega, fun j hj => ?_⟩
      rw [u2r (by omega), u2r (by omega), u2r (by omega), u2r (by omega), u2r (x := q + 2) (by omega), u2r (x := q + 2) (by omega), u2r (x := q + 2) (by omega), u2r (x := q + 3) (by omega), u2r (x := q + 3) (by omega), u2r (x := q + 4) (by omega)]
      by_cases hj2 : j = 11
      · rw [hj2, u2_at, u2_at, u2_at, u2_at]
        simp
      · have v := vA (j + 1) (by omega)
        dsimp only
        rw [if_neg hj2]
        exact ⟨by rw [u2n hj2, j1 j (by omega)]; exact v.1, by rw [u2n hj2, u2r (by omega), j2 j (by omega)]; exact v.2.1, by rw [u2n hj2, u2r (by omega), u2r (by omega), j3 j (by omega)]; exact v.2.2.1, by rw [u2n hj2, u2r (by omega), u2r (by omega), u2r (by omega), j4 j (by omega)]; exact v.2.2.2⟩
theorem ct_forget {G : am_G} {dp : Nat} {Q : am_Q} {q : Nat} {A : Nat → Int × Int × Int × Int} {I : Nat → Nat → Int} {Z : (Nat → Nat → Option Nat) × (Nat → Nat × Nat) × Nat × Bool} (ha : Ac (I, Z) q) (h : ∀ I' : Nat → Nat → Int, (∀ x, x < q ∨ q + 5 ≤ x → I' x = I x) → AcV I' q 0 A → Q (.inl none) (I', Z)) : T G dp 0 0 M0_forget [rV (some q)] (I, Z) Q :=
  T0_forget (s0_forget_0 ha.1 (h _ (fun x hx => u2r (by omega)) ⟨u2_at, by omega, fun j hj => absurd hj (by omega)⟩))
theorem ct_takeLatest {G : am_G} {dp : Nat} {Q : am_Q} {q n : Nat} {A : Nat → Int × Int × Int × Int} {I : Nat → Nat → Int} {Z : (Nat → Nat → Option Nat) × (Nat → Nat × Nat) × Nat × Bool} (ha : Ac (I, Z) q) (hv : AcV I q n A) (h0 : n = 0 → Q (.inl (some (iV 0))) (I, Z)) (h : ∀ k, n = k + 1 → ∀ I' : Nat → Nat → Int, (∀ x, x < q ∨ q + 5 ≤ x → I' x = I x) → AcV I' q k A → I' q 5 = (A k).1 → I' q 6 = (A k).2.1 → I' q 7 = (A k).2.2.1 → I' q 8 = (A k).2.2.2 → Q (.inl (some (iV 1))) (I', Z)) : T G dp 0 0 M0_takeLatest [rV (some q)] (I, Z) Q := by
  obtain ⟨b1, ⟨p1, p2, p3, p4⟩, b2, b3, b4, b5⟩ := id ha
  obtain ⟨v4, vn, vA⟩ := hv
  have c1 : ∀ v, u2 I q 4 v q 4 = v := fun v => u2_at
  have e : ∀ k, n = k + 1 → wr (I q 4 - 1) = k := fun k hk => by rw [v4, hk, wr_of (by omega) (by omega)]; omega
  refine T0_takeLatest (s0_takeLatest_0 (n_p1 := 12) (n_p2 := 12) (n_p3 := 12) (n_p4 := 12) b1 p1 (am_rw b2) p2 (am_rw b3) p3 (am_rw b4) p4 (am_rw b5) (fun q1 => ?_) (fun q1 => ?_) (h5 := fun q1 => ?_) (h6 := fun q1 => ?_) (h9 := fun q1 => ?_) (h10 := fun q1 => ?_) (h13 := fun q1 => ?_) (h14 := fun q1 => ?_) (h17 := fun q1 => ?_) (h18 := fun q1 => ?_))
  all_goals dsimp only at q1 ⊢
  · obtain ⟨k, hk⟩ : ∃ k, n = k + 1 := ⟨n - 1, by omega⟩
    have v := vA k (by omega)
    simp only [e k hk, u2_at, tnc, u2n (show (4 : Nat) ≠ 5 by omega), u2n (show (4 : Nat) ≠ 6 by omega), u2n (show (4 : Nat) ≠ 7 by omega), u2r (show q + 1 ≠ q by omega), u2r (show q + 2 ≠ q by omega), u2r (show q + 3 ≠ q by omega), u2r (show q + 4 ≠ q by omega)]
    refine h k hk _ (fun x hx => ?_) ⟨?_, by omega, fun j hj => ?_⟩ ?_ ?_ ?_ ?_
    · rw [u2r (by omega), u2r (by omega), u2r (by omega), u2r (by omega), u2r (by omega)]
    · rw [u2n (by omega), u2n (by omega), u2n (by omega), u2n (by omega), u2_at]
    · simp only [u2r (show q + 1 ≠ q by omega), u2r (show q + 2 ≠ q by omega), u2r (show q + 3 ≠ q by omega), u2r (show q + 4 ≠ q by omega)]
      exact vA j (by omega)
    · rw [u2n (by omega), u2n (by omega), u2n (by omega), u2_at]; exact v.1
    · rw [u2n (by omega), u2n (by omega), u2_at]; exact v.2.1
    · rw [u2n (by omega), u2_at]; exact v.2.2.1
    · rw [u2_at]; exact v.2.2.2
  · exact h0 (by omega)
  all_goals (obtain ⟨k, hk⟩ : ∃ k, n = k + 1 := ⟨n - 1, by omega⟩
             simp only [e k hk, u2_at, tnc, u2n (show (4 : Nat) ≠ 5 by omega), u2n (show (4 : Nat) ≠ 6 by omega), u2n (show (4 : Nat) ≠ 7 by omega)]
             omega)
