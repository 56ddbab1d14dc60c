/-! THE REFERENCE: laying the races -/
theorem ix200 {r k : Nat} (h : r < 3) (h2 : k < 200) : wr (wr (200 * (r : Int)) + (k : Int)) = ((200 * r + k : Nat) : Int) := by
  rw [wr_of (z := 200 * (r : Int)) (by omega) (by omega), wr_of (by omega) (by omega)]; omega
def VtV (I : Nat → Nat → Int) (R : Nat → Int) : Prop := ∀ r, r < rC R → ∀ c, c < 4 → I 109 (4 * r + c) = rT R r c ∧ I 110 (4 * r + c) = rH R r c
def Ld1 (I : Nat → Nat → Int) (R : Nat → Int) (r n : Nat) : Prop := I 111 r = rW R r ∧ I 112 r = rO R r ∧ I 113 r = rG R r ∧ ∀ b, b < n → I 114 (200 * r + b) = rM R r b
def LdV (I : Nat → Nat → Int) (R : Nat → Int) : Prop := VtV I R ∧ ∀ r, r < rC R → Ld1 I R r (rN R)
theorem VtV.same {I I' : Nat → Nat → Int} {R : Nat → Int} (h : VtV I R) (h1 : I' 109 = I 109) (h2 : I' 110 = I 110) : VtV I' R := fun r hr c hc => by rw [h1, h2]; exact h r hr c hc
section
variable {G : am_G} {dp : Nat} {Q : am_Q} {R : Nat → Int} {Z : (Nat → Nat → Option Nat) × (Nat → Nat × Nat) × Nat × Bool}
theorem lr_ballots {I0 : Nat → Nat → Int} {i : Nat} (hd : 3 ≤ dp) (hM : Md (I0, Z)) (hv : RowV I0 R) (hR : RV R) (hi : i < rC R) (hw : I0 111 i = rW R i) (h : ∀ I' : Nat → Nat → Int, (∀ x, x ≠ 114 → I' x = I0 x) → (∀ j, j < 200 * i → I' 114 j = I0 114 j) → (∀ b, b < rN R → I' 114 (200 * i + b) = rM R i b) → ∀ z, X G dp 0 0 M9_layRaces 6 [some (rV (some 103)), some (iV ((i + 1 : Nat) : Int)), z] [] (I', Z) Q) : ∀ (t b : Nat) (I : Nat → Nat → Int), rN R - b = t → b ≤ rN R → (∀ x, x ≠ 114 → I x = I0 x) → (∀ j, j < 200 * i → I 114 j = I0 114 j) → (∀ c, c < b → I 114 (200 * i + c) = rM R i c) → X G dp 0 0 M9_layRaces 82 [some (rV (some 103)), some (iV i), some (iV b)] [] (I, Z) Q := by
  have hc := hR.c
  have hn := hR.n
  intro t
  induction t with
  | zero =>
    intro b I ht hb hf h1 h2
    have hvI : RowV I R := fun j hj => by rw [hf 104 (by omega)]; exact hv j hj
    have e : b = rN R := by omega
    subst e
    refine s9_layRaces_82 (by omega) (am_ow hM.1) fun Q' hK => md_ballots (m := (I, Z)) hM hvI (hK _ _ ?_)
    refine s9_layRaces_87 (n_p2 := 3) (by omega) (am_ow hM.1) hM.mistakes.1 hM.winner.1 (am_rw hM.winner.2) (fun _ => ?_) (fun c1 => absurd (by omega) c1)
    rw [wrs (by omega)]
    exact h I hf h1 h2 _
  | succ t ih =>
    intro b I ht hb hf h1 h2
    have hvI : RowV I R := fun j hj => by rw [hf 104 (by omega)]; exact hv j hj
    have hwI : I 111 i = rW R i := by rw [hf 111 (by omega)]; exact hw
    refine s9_layRaces_82 (by omega) (am_ow hM.1) fun Q' hK => md_ballots (m := (I, Z)) hM hvI (hK _ _ ?_)
    refine s9_layRaces_87 (n_p2 := 3) (by omega) (am_ow hM.1) hM.mistakes.1 hM.winner.1 (am_rw hM.winner.2) (fun c1 => absurd c1 (by omega)) (fun c1 Q' hK => ?_)
    dsimp only
    rw [tnc, hwI]
    refine md_mistakeOf (m := (I, Z)) (by omega) hM hvI hR hi (by omega) (hK _ _ ?_)
    refine s9_layRaces_113 (n_r92 := 600) hM.mistakes.2 ?_ (h2 := by rw [ix200 (by omega) (by omega)]; omega) (h3 := by rw [ix200 (by omega) (by omega)]; omega)
    rw [ix200 (by omega) (by omega), tnc, wrs (by omega)]
    refine ih (b + 1) _ (by omega) (by omega) (fun x hx => by rw [u2r hx]; exact hf x hx) (fun j hj => by rw [u2n (by omega)]; exact h1 j hj) (fun c hcb => ?_)
    by_cases ec : c = b
    · subst ec; rw [u2_at]; rfl
    · rw [u2n (by omega)]; exact h2 c (by omega)
theorem lr_races {I0 : Nat → Nat → Int} (hd : 3 ≤ dp) (hM : Md (I0, Z)) (hv : RowV I0 R) (hR : RV R) (h : ∀ I' : Nat → Nat → Int, (∀ x, x < 111 ∨ 115 ≤ x → I' x = I0 x) → LdV I' R → Q (.inl none) (I', Z)) : ∀ (t i : Nat) (I : Nat → Nat → Int) (z : Option am_V), rC R - i = t → i ≤ rC R → (∀ x, x < 111 ∨ 115 ≤ x → I x = I0 x) → VtV I R → (∀ r, r < i → Ld1 I R r (rN R)) → X G dp 0 0 M9_layRaces 6 [some (rV (some 103)), some (iV i), z] [] (I, Z) Q := by
  have hc := hR.c
  have hn := hR.n
  intro t
  induction t with
  | zero =>
    intro i I z ht hi hf h1 h2
    have hvI : RowV I R := fun j hj => by rw [hf 104 (by omega)]; exact hv j hj
    have e : i = rC R := by omega
    subst e
    refine s9_layRaces_6 (by omega) (am_ow hM.1) fun Q' hK => md_races (m := (I, Z)) hM hvI (hK _ _ ?_)
    exact s9_layRaces_11 (by omega) (am_ow hM.1) hM.winner.1 hM.votes.1 (fun _ => h I hf ⟨h1, h2⟩) (fun c1 => absurd (by omega) c1)
  | succ t ih =>
    intro i I z ht hi hf h1 h2
    have hir : i < rC R := by omega
    have hvI : RowV I R := fun j hj => by rw [hf 104 (by omega)]; exact hv j hj
    have hK4 := hR.k hir
    have hW := hR.w hir
    have hS := hR.s hir
    have eW : ldg (fun c => I 109 (4 * i + c)) (-1) (rK R i) = rW R i := ldg_congr hK4.2.1 fun j hj => (h1 i hir j (by omega)).1
    refine s9_layRaces_6 (by omega) (am_ow hM.1) fun Q' hK => md_races (m := (I, Z)) hM hvI (hK _ _ ?_)
    refine s9_layRaces_11 (by omega) (am_ow hM.1) hM.winner.1 hM.votes.1 (fun c1 => absurd c1 (by omega)) (fun c1 Q' hK => md_firstBy (m := (I, Z)) (by omega) hM hvI hR hir (am_rw hM.votes.2) (hK _ _ ?_))
    dsimp only
    rw [eW]
    refine s9_layRaces_28 (n_r92 := 3) (by omega) hM.winner.2 (am_ow hM.1) hM.right.1 hM.hands.1 fun Q' hK => ?_
    dsimp only
    rw [tnc]
    generalize hI1 : u2 I 111 i (rW R i) = I1
    have f1 : ∀ x, x ≠ 111 → I1 x = I x := fun x hx => by rw [← hI1]; exact u2r hx
    have w1 : I1 111 i = rW R i := by rw [← hI1]; exact u2_at
    have n1 : ∀ j, j ≠ i → I1 111 j = I 111 j := fun j hj => by rw [← hI1]; exact u2n hj
    have hv1 : RowV I1 R := fun j hj => by rw [f1 104 (by omega)]; exact hvI j hj
    have eO : ldg (fun c => I1 110 (4 * i + c)) (-1) (rK R i) = rO R i := ldg_congr hK4.2.1 fun j hj => by rw [f1 110 (by omega)]; exact (h1 i hir j (by omega)).2
    refine md_firstBy (m := (I1, Z)) (by omega) hM hv1 hR hir (am_rw hM.hands.2) (hK _ _ ?_)
    dsimp only
    rw [eO]
    have ew : ∀ J : Nat → Nat → Int, J 111 i = rW R i → wr (wr (4 * (i : Int)) + J 111 i) = ((4 * i + rW R i : Nat) : Int) := fun J hJ => by rw [hJ]; exact ix4 (by omega) (by omega)
    have w2 : u2 I1 112 i (rO R i) 111 i = rW R i := by rw [u2r (by omega)]; exact w1
    refine s9_layRaces_43 (n_r92 := 3) (n_p3 := 3) (n_p2 := 12) (by omega) hM.right.2 (am_ow hM.1) hM.margin.1 hM.votes.1 hM.winner.1 (am_rw hM.winner.2) (am_rw hM.votes.2) (fun Q' hK => ?_) (h12 := by dsimp only; rw [tnc, ew _ w2]; omega) (h13 := by dsimp only; rw [tnc, ew _ w2]; omega)
    dsimp only at hK ⊢
    rw [tnc] at hK ⊢
    generalize hI2 : u2 I1 112 i (rO R i) = I2 at hK w2 ⊢
    have f2 : ∀ x, x ≠ 111 → x ≠ 112 → I2 x = I x := fun x hx hx2 => by rw [← hI2, u2r hx2]; exact f1 x hx
    have o2 : I2 112 i = rO R i := by rw [← hI2]; exact u2_at
    have n2 : ∀ j, j ≠ i → I2 111 j = I 111 j ∧ I2 112 j = I 112 j := fun j hj => ⟨by rw [← hI2, u2r (by omega)]; exact n1 j hj, by rw [← hI2, u2n hj, f1 112 (by omega)]⟩
    have hv2 : RowV I2 R := fun j hj => by rw [f2 104 (by omega) (by omega)]; exact hvI j hj
    have v2 : ∀ c, c < 4 → I2 109 (4 * i + c) = rT R i c := fun c hc => by rw [f2 109 (by omega) (by omega)]; exact (h1 i hir c hc).1
    rw [w2, ix4 (by omega) (by omega), tnc, v2 _ (by omega)] at hK
    have eS : ldg (fun c => I2 109 (4 * i + c)) (rW R i) (rK R i) = rS R i := ldg_congr hK4.2.1 fun j hj => v2 j (by omega)
    refine md_second (m := (I2, Z)) (by omega) hM hv2 hR hir w2 (hK _ _ ?_)
    dsimp only
    rw [eS]
    refine s9_layRaces_76 (n_r92 := 12) (n_r95 := 3) (am_rw hM.votes.2) hM.margin.2 ?_ (h2 := by rw [ix4 (by omega) (by omega)]; omega) (h3 := by rw [ix4 (by omega) (by omega)]; omega)
    dsimp only
    have t1 := hR.t i (rW R i)
    have t2 := hR.t i (rS R i)
    rw [tnc, ix4 (by omega) (by omega), tnc, v2 _ (by omega), wr_of (by omega) (by omega)]
    generalize hI3 : u2 I2 113 i (rT R i (rW R i) - rT R i (rS R i)) = I3
    have f3 : ∀ x, x ≠ 111 → x ≠ 112 → x ≠ 113 → I3 x = I x := fun x a b c => by rw [← hI3, u2r c]; exact f2 x a b
    have g3 : I3 113 i = rG R i := by rw [← hI3, u2_at]; rfl
    have n3 : ∀ j, j ≠ i → I3 111 j = I 111 j ∧ I3 112 j = I 112 j ∧ I3 113 j = I 113 j := fun j hj => ⟨by rw [← hI3, u2r (by omega)]; exact (n2 j hj).1, by rw [← hI3, u2r (by omega)]; exact (n2 j hj).2, by rw [← hI3, u2n hj, f2 113 (by omega) (by omega)]⟩
    have w3 : I3 111 i = rW R i := by rw [← hI3, u2r (by omega)]; exact w2
    have o3 : I3 112 i = rO R i := by rw [← hI3, u2r (by omega)]; exact o2
    refine lr_ballots (I0 := I3) hd hM (fun j hj => by rw [f3 104 (by omega) (by omega) (by omega)]; exact hvI j hj) hR hir w3 (fun I' a1 a2 a3 z => ih (i + 1) I' z (by omega) (by omega) (fun x hx => ?_) (h1.same ?_ ?_) (fun r hr => ?_)) (rN R) 0 I3 rfl (by omega) (fun _ _ => rfl) (fun _ _ => rfl) (fun c hc => absurd hc (by omega))
    · rw [a1 x (by omega), f3 x (by omega) (by omega) (by omega)]; exact hf x hx
    · rw [a1 109 (by omega), f3 109 (by omega) (by omega) (by omega)]
    · rw [a1 110 (by omega), f3 110 (by omega) (by omega) (by omega)]
    · by_cases e : r = i
      · subst e
        exact ⟨by rw [a1 111 (by omega)]; exact w3, by rw [a1 112 (by omega)]; exact o3, by rw [a1 113 (by omega)]; exact g3, a3⟩
      · have q := h2 r (by omega)
        have n := n3 r e
        exact ⟨by rw [a1 111 (by omega), n.1]; exact q.1, by rw [a1 112 (by omega), n.2.1]; exact q.2.1, by rw [a1 113 (by omega), n.2.2]; exact q.2.2.1, fun b hb => by rw [a2 _ (by omega), f3 114 (by omega) (by omega) (by omega)]; exact q.2.2.2 b hb⟩
theorem md_layRaces {I : Nat → Nat → Int} (hd : 4 ≤ dp) (hM : Md (I, Z)) (hv : RowV I R) (hR : RV R) (h : ∀ I' : Nat → Nat → Int, (∀ x, x < 109 ∨ 115 ≤ x → I' x = I x) → LdV I' R → Q (.inl none) (I', Z)) : T G dp 0 0 M9_layRaces [rV (some 103)] (I, Z) Q := by
  refine T9_layRaces (s9_layRaces_0 (by omega) (am_ow hM.1) fun Q' hK => md_layVotes (by omega) hM hv hR (fun I1 g1 g2 => hK _ (s9_layRaces_4 ?_)))
  exact lr_races (I0 := I1) (by omega) hM (fun j hj => by rw [g1 104 (by omega) (by omega)]; exact hv j hj) hR (fun I2 k1 k2 => h I2 (fun x hx => by rw [k1 x (by omega)]; exact g1 x (by omega) (by omega)) k2) _ 0 I1 _ rfl (by omega) (fun _ _ => rfl) g2 (fun r hr => absurd hr (by omega))
end
