/-! THE REFERENCE: drawing -/
/-- the row with k draws of its seed -/
def Rd (R : Nat → Int) (k : Nat) : Nat → Int := fun j => if j = 6 then (k : Int) else if 1214 ≤ j ∧ j < 1214 + k then dw R (R 5) (j - 1214) else R j
theorem Rd_6 {R : Nat → Int} {k : Nat} : Rd R k 6 = k := if_pos rfl
theorem Rd_lo {R : Nat → Int} {k j : Nat} (h : j ≠ 6) (h2 : j < 1214 ∨ 1214 + k ≤ j) : Rd R k j = R j := by
  unfold Rd
  rw [if_neg h, if_neg (by omega)]
theorem Rd_d {R : Nat → Int} {k j : Nat} (h : j < k) : Rd R k (1214 + j) = dw R (R 5) j := by
  unfold Rd
  rw [if_neg (by omega), if_pos (by omega), show 1214 + j - 1214 = j by omega]
theorem Rd_s6 {R : Nat → Int} {k : Nat} : Rs6 R (Rd R k) := fun j hj h => Rd_lo h (Or.inl hj)
theorem Rd_sm {R : Nat → Int} {k : Nat} : Rsm (rs1 R 6 k) (Rd R k) := fun j hj => by
  by_cases e : j = 6
  · subst e; rw [Rd_6, rs1_at]
  · rw [Rd_lo e (Or.inl hj), rs1_ne e]
theorem Rd_RV {R : Nat → Int} {k : Nat} (h : RV R) (hk : k ≤ 300) : RV (Rd R k) :=
  (h.head (k := 6) (v := k) (by omega) (by omega) (fun q => by omega) (fun q => by omega) (fun q => by omega) (by omega) (fun _ => by omega) (fun r q => by omega) (fun r q => by omega)).sm Rd_sm
theorem Rd_DR {R : Nat → Int} {k : Nat} (h : k = 0 ∨ 0 < R 1) : DR (Rd R k) := by
  unfold DR
  rw [Rd_6, Rd_lo (by omega) (Or.inl (by omega)), Rd_lo (show 5 ≠ 6 by omega) (Or.inl (by omega)), Rd_s6.dw_]
  exact ⟨by omega, fun j hj => Rd_d (by omega)⟩
theorem Rd_0 {R : Nat → Int} {k : Nat} (hD : DR R) (h6 : R 6 = k) : Rd R k = R := by
  funext j
  by_cases e : j = 6
  · subst e; rw [Rd_6, h6]
  · by_cases q : 1214 ≤ j ∧ j < 1214 + k
    · have := hD.2 (j - 1214) (by omega)
      rw [show 1214 + (j - 1214) = j by omega] at this
      unfold Rd
      rw [if_neg e, if_pos q, this]
    · exact Rd_lo e (by omega)
theorem goes_end {R : Nat → Int} {d : Nat → Int} {most : Int} : ∀ t k : Nat, goes R d most t k < k + t → ¬ (((goes R d most t k : Nat) : Int) < most ∧ pnd R d (goes R d most t k) (rC R) ≠ 0 ∧ 0 < R 1)
  | 0, k, h => by unfold goes at h; omega
  | t + 1, k, h => by
    unfold goes at h ⊢
    by_cases q : (k : Int) < most ∧ pnd R d k (rC R) ≠ 0 ∧ 0 < R 1
    · rw [if_pos q] at h ⊢
      exact goes_end t (k + 1) (by omega)
    · rw [if_neg q]
      exact q
theorem kN_eq {R : Nat → Int} (hR : RV R) (h1 : pq R ≠ 0) (h2 : 0 < R 1) (h3 : kN R < 300) : R 6 = kN R := by
  have a := kN_R6 hR
  have b := goes_end (R := R) (d := dw R (R 5)) (most := R 6) 300 0 (by have : kN R = goes R (dw R (R 5)) (R 6) 300 0 := rfl; omega)
  have e : goes R (dw R (R 5)) (R 6) 300 0 = kN R := rfl
  rw [e] at b
  have h1 : pnd R (dw R (R 5)) (kN R) (rC R) ≠ 0 := h1
  by_cases q : (kN R : Int) < R 6
  · exact absurd ⟨q, h1, h2⟩ b
  · omega
section
variable {G : am_G} {dp : Nat} {Q : am_Q} {R : Nat → Int} {P : Nat → Nat → Int} {n : Nat} {Z : (Nat → Nat → Option Nat) × (Nat → Nat × Nat) × Nat × Bool}
def DF (I I' : Nat → Nat → Int) : Prop := (∀ x, x ≠ 103 → x ≠ 104 → x < 115 ∨ 118 ≤ x → I' x = I x) ∧ ∀ j, j ≠ 16 → j ≠ 18 → I' 103 j = I 103 j
theorem DF.rf {I : Nat → Nat → Int} : DF I I := ⟨fun _ _ _ _ => rfl, fun _ _ _ => rfl⟩
theorem DF.tr {I I1 I2 : Nat → Nat → Int} (h : DF I I1) (h2 : DF I1 I2) : DF I I2 := ⟨fun x a b c => by rw [h2.1 x a b c]; exact h.1 x a b c, fun j a b => by rw [h2.2 j a b]; exact h.2 j a b⟩
theorem md_drawsOne {I : Nat → Nat → Int} {k : Nat} (hd : 7 ≤ dp) (hM : Md (I, Z)) (hv : RowV I (Rd R k)) (hR : RV R) (hA : MaV I R (dw R (R 5)) k) (hx : I 103 18 = lx (R 5) k) (hk : k + 1 ≤ 300) (hn : 0 < R 1) (h : ∀ I' : Nat → Nat → Int, DF I I' → RowV I' (Rd R (k + 1)) → MaV I' R (dw R (R 5)) (k + 1) → I' 103 18 = lx (R 5) (k + 1) → Q (.inl none) (I', Z)) : T G dp 0 0 M9_drawsOne [rV (some 103)] (I, Z) Q := by
  have hdw : ∀ j, 0 ≤ dw R (R 5) j ∧ dw R (R 5) j < R 1 := fun j => dw_rng hn
  have hN := hR.n
  have hk1 := hdw k
  obtain ⟨b, eb⟩ : ∃ b : Nat, dw R (R 5) k = b := ⟨(dw R (R 5) k).toNat, by omega⟩
  have e1 : Rd R k 1 = R 1 := Rd_lo (by omega) (Or.inl (by omega))
  have hn' : 0 < Rd R k 1 := by rw [e1]; exact hn
  refine T9_drawsOne (s9_drawsOne_0 (by omega) (am_ow hM.1) fun Q' hK => md_drawnBy (R := Rd R k) (z := R 5) (k := k) (by omega) hM hv hn' hx (hK _ _ ?_))
  rw [Rd_s6.dw_, eb]
  have r0 : ∀ x, x ≠ 103 → u2 I 103 18 (lx (R 5) (k + 1)) x = I x := fun x hx => u2r hx
  have e6 : (u2 I 103 18 (lx (R 5) (k + 1)), Z).1 104 ((6 : Int)).toNat = k := by
    dsimp only
    rw [r0 104 (by omega), show (6 : Int).toNat = 6 from rfl, hv 6 (by omega), Rd_6]
  refine s9_drawsOne_4 (n_p1 := 1514) (by omega) (am_ow hM.1) hM.row.1 hM.row.2 (fun Q' hK => ?_) (h6 := by rw [e6, ix1214 (by omega)]; omega) (h7 := by rw [e6, ix1214 (by omega)]; omega)
  rw [e6, ix1214 (by omega), tnc, show (6 : Int).toNat = 6 from rfl]
  dsimp only
  rw [u2n (show (6 : Nat) ≠ 1214 + k by omega), r0 104 (by omega), hv 6 (by omega), Rd_6, wrs (by omega)]
  generalize hI1 : u2 (u2 (u2 I 103 18 (lx (R 5) (k + 1))) 104 (1214 + k) (b : Int)) 104 6 ((k + 1 : Nat) : Int) = I1
  have f1 : ∀ x, x ≠ 103 → x ≠ 104 → I1 x = I x := fun x p q => by rw [← hI1, u2r q, u2r q, u2r p]
  have f103 : ∀ j, j ≠ 18 → I1 103 j = I 103 j := fun j hj => by rw [← hI1, u2r (by omega), u2r (by omega), u2n hj]
  have x1 : I1 103 18 = lx (R 5) (k + 1) := by rw [← hI1, u2r (by omega), u2r (by omega)]; exact u2_at
  have hv1 : RowV I1 (Rd R (k + 1)) := fun j hj => by
    rw [← hI1]
    by_cases e : j = 6
    · subst e; rw [u2_at, Rd_6]
    · rw [u2n e]
      by_cases q : j = 1214 + k
      · subst q; rw [u2_at, Rd_d (by omega), eb]
      · rw [u2n q, u2r (by omega), hv j hj]
        by_cases q2 : j < 1214 + k
        · by_cases q3 : j < 1214
          · rw [Rd_lo e (Or.inl q3), Rd_lo e (Or.inl q3)]
          · have a := Rd_d (R := R) (k := k) (j := j - 1214) (by omega)
            have b := Rd_d (R := R) (k := k + 1) (j := j - 1214) (by omega)
            rw [show 1214 + (j - 1214) = j by omega] at a b
            rw [a, b]
        · rw [Rd_lo e (Or.inr (by omega)), Rd_lo e (Or.inr (by omega))]
  have hA1 : MaV I1 (Rd R (k + 1)) (dw R (R 5)) k := (hA.same hR (f103 16 (by omega)) (fun x p q => f1 x (by omega) (by omega))).s6 Rd_s6 hR (fun j _ => hdw j)
  have hR1 : RV (Rd R (k + 1)) := Rd_RV hR hk
  have hN1 : rN (Rd R (k + 1)) = rN R := Rs6.nn Rd_s6
  refine md_drawsBallot (R := Rd R (k + 1)) (d := dw R (R 5)) (k := k) (by omega) hM hv1 hR1 hA1 hk eb (by omega) (fun I2 g1 g2 g3 => hK _ (s9_drawsOne_38 ?_))
  have hs : Rs6 (Rd R (k + 1)) R := fun j p q => (Rd_s6 j p q).symm
  have e11 : Rd R (k + 1) 1 = R 1 := Rd_lo (by omega) (Or.inl (by omega))
  refine h I2 ⟨fun x p q r => by rw [g1 x p (by omega)]; exact f1 x p q, fun j p q => by rw [g2 j p]; exact f103 j q⟩ (fun j hj => by rw [g1 104 (by omega) (by omega)]; exact hv1 j hj) (g3.s6 hs hR1 (fun j _ => by rw [e11]; exact hdw j)) (by rw [g2 18 (by omega)]; exact x1)
theorem lp_rdraw {I0 : Nat → Nat → Int} {i : Int} {a b : Nat} (hd : 8 ≤ dp) (hM : Md (I0, Z)) (hR : RV R) (hn : 0 < R 1) (hi : 1 ≤ i) (hi2 : i ≤ 300) (h : ∀ I' : Nat → Nat → Int, DF I0 I' → RowV I' (Rd R (kD R i)) → Q (.inl (some (iV ((kD R i : Int) - kN R)))) (I', Z)) : ∀ (t k : Nat) (I : Nat → Nat → Int), k + t = 300 → kN R ≤ k → DF I0 I → RowV I (Rd R k) → MaV I R (dw R (R 5)) k → I 103 18 = lx (R 5) k → goes R (dw R (R 5)) (min (kN R + i) (R 4)) t k = kD R i → X G dp a b M9_draw 68 [some (rV (some 103)), some (iV i), some (iV (kN R))] [] (I, Z) Q := by
  have hk3 := kN_le R
  have hm := hR.2.2.2.2.1
  intro t
  induction t with
  | zero =>
    intro k I ht hk hf hv hA hx hg
    have e16 : (I, Z).1 103 16 = k := hA.1
    have e4 : I 104 4 = R 4 := by rw [hv 4 (by omega), Rd_lo (by omega) (Or.inl (by omega))]
    have e : k = kD R i := hg
    have hans : Q (.inl (some (iV (wr ((I, Z).1 103 16 - kN R))))) (I, Z) := by
      rw [e16, wr_of (by omega) (by omega), e]
      exact h I hf (by rw [← e]; exact hv)
    have hvk : RowV I (Rd R k) := hv
    have hAk : MaV I (Rd R k) (dw R (R 5)) k := hA.s6 Rd_s6 hR (fun j _ => dw_rng hn)
    refine s9_draw_68 (by omega) (am_ow hM.1) (fun _ => hans) (fun c Q' hK => md_isOver (R := Rd R k) (d := dw R (R 5)) (k := k) (by omega) hM hvk (Rd_RV hR (by omega)) (fun r hr => (hAk.2.2.1 r hr).2) (fun z => hK _ _ ?_) (fun z => hK _ _ ?_))
    · exact s9_draw_82 (n_p1 := 1514) (by omega) (am_ow hM.1) hM.row.1 (am_rw hM.row.2) (fun _ => hans) (fun _ _ => hans) (fun c => absurd c (by decide))
    · refine s9_draw_82 (n_p1 := 1514) (by omega) (am_ow hM.1) hM.row.1 (am_rw hM.row.2) (fun c => absurd rfl c) (fun _ _ => hans) (fun _ c => absurd ?_ c)
      rw [e16]
      dsimp only
      rw [show (4 : Int).toNat = 4 from rfl, e4]
      omega
  | succ t ih =>
    intro k I ht hk hf hv hA hx hg
    have e16 : (I, Z).1 103 16 = k := hA.1
    have e4 : I 104 4 = R 4 := by rw [hv 4 (by omega), Rd_lo (by omega) (Or.inl (by omega))]
    have hAk : MaV I (Rd R k) (dw R (R 5)) k := hA.s6 Rd_s6 hR (fun j _ => dw_rng hn)
    have ep : pnd (Rd R k) (dw R (R 5)) k (rC (Rd R k)) = pnd R (dw R (R 5)) k (rC R) := by
      rw [Rs6.cc Rd_s6]
      exact Rs6.pnd_ Rd_s6 hR (fun j _ => dw_rng hn) _ (Nat.le_refl _)
    unfold goes at hg
    have hans : ∀ (_ : ¬ ((k : Int) < min (kN R + i) (R 4) ∧ pnd R (dw R (R 5)) k (rC R) ≠ 0 ∧ 0 < R 1)), Q (.inl (some (iV (wr ((I, Z).1 103 16 - kN R))))) (I, Z) := fun q => by
      rw [if_neg q] at hg
      rw [e16, wr_of (by omega) (by omega), hg]
      exact h I hf (by rw [← hg]; exact hv)
    refine s9_draw_68 (by omega) (am_ow hM.1) (fun c => hans (fun q => ?_)) (fun c Q' hK => md_isOver (R := Rd R k) (d := dw R (R 5)) (k := k) (by omega) hM hv (Rd_RV hR (by omega)) (fun r hr => (hAk.2.2.1 r hr).2) (fun z => hK _ _ ?_) (fun z => hK _ _ ?_))
    · rw [e16, wr_of (by omega) (by omega)] at c
      omega
    · rw [ep] at z
      exact s9_draw_82 (n_p1 := 1514) (by omega) (am_ow hM.1) hM.row.1 (am_rw hM.row.2) (fun _ => hans (fun q => q.2.1 z)) (fun c => absurd c (by decide)) (fun c => absurd c (by decide))
    · rw [ep] at z
      rw [e16, wr_of (by omega) (by omega)] at c
      refine s9_draw_82 (n_p1 := 1514) (by omega) (am_ow hM.1) hM.row.1 (am_rw hM.row.2) (fun c => absurd rfl c) (fun _ c2 => hans (fun q => ?_)) (fun _ c2 Q' hK => ?_)
      · rw [e16] at c2
        dsimp only at c2
        rw [show (4 : Int).toNat = 4 from rfl, e4] at c2
        omega
      · rw [e16] at c2
        dsimp only at c2
        rw [show (4 : Int).toNat = 4 from rfl, e4] at c2
        rw [if_pos ⟨by omega, z, hn⟩] at hg
        exact md_drawsOne (by omega) hM hv hR hA hx (by omega) hn (fun I1 g1 g2 g3 g4 => hK _ (s9_draw_102 (ih (k + 1) I1 (by omega) (by omega) (hf.tr g1) g2 g3 g4 hg)))
theorem r_draw {I : Nat → Nat → Int} {i : Int} (hd : 9 ≤ dp) (hM : Md (I, Z)) (hv : RowV I R) (hR : RV R) (hD : DR R) (hp : PaV I n P) (h1 : ¬ (1 ≤ i ∧ i ≤ 300) → ∀ I' : Nat → Nat → Int, MF I I' → I' 103 7 = 1 → Q (.inl (some (iV 0))) (I', Z)) (h0 : 1 ≤ i → i ≤ 300 → ∀ I' : Nat → Nat → Int, I' 103 7 = 0 → (kD R i = kN R → MF I I' → Q (.inl (some (iV (-1)))) (I', Z)) ∧ (kD R i ≠ kN R → MU I I' → RowV I' (Rd R (kD R i)) → DR (Rd R (kD R i)) → PaV I' (psn n) (psh P n R) → Q (.inl (some (iV ((kD R i : Int) - kN R)))) (I', Z))) : T G dp 4 24 M9_draw [rV (some 103), iV i] (I, Z) Q := by
  have hk3 := kN_le R
  have hkd := kD_at (R := R) (i := i)
  have hm := hR.2.2.2.2.1
  have hN := hR.2.1
  refine T9_draw (s9_draw_0 (by omega) hM.1 fun Q' hK => md_isIn (hK _ _ ?_))
  by_cases q : 1 ≤ i ∧ i ≤ 300
  · rw [if_pos q]
    refine s9_draw_13 (by omega) (am_ow hM.1) (fun _ Q' hK => md_goes0 (by omega) hM hv hR hD (fun I1 g1 g2 g3 g4 => hK _ ?_)) (fun c => absurd c (by decide))
    have e4 : I1 104 4 = R 4 := g3 4 (by omega)
    have e16 : (I1, Z).1 103 16 = kN R := g4.1
    have eD : kD R i = goes R (dw R (R 5)) (min (kN R + i) (R 4)) (300 - kN R) (kN R) := rfl
    have same : ¬ ((kN R : Int) < R 4 ∧ pq R ≠ 0 ∧ 0 < R 1) → kD R i = kN R := fun z => by
      rw [eD]
      cases h9 : 300 - kN R with
      | zero => rfl
      | succ t =>
        unfold goes
        rw [if_neg]
        intro y
        have y2 : pq R ≠ 0 := y.2.1
        exact z ⟨by omega, y2, y.2.2⟩
    have no : ¬ ((kN R : Int) < R 4 ∧ pq R ≠ 0 ∧ 0 < R 1) → Q (.inl (some (iV (-1)))) (I1, Z) := fun z => (h0 q.1 q.2 I1 g2).1 (same z) g1
    refine s9_draw_26 (by omega) (am_ow hM.1) fun Q' hK => md_isOver (d := dw R (R 5)) (k := kN R) (by omega) hM g3 hR (fun r hr => (g4.2.2.1 r hr).2) (fun z => hK _ _ ?_) (fun z => hK _ _ ?_)
    · exact s9_draw_30 (n_p1 := 1514) (by omega) (am_ow hM.1) hM.row.1 (am_rw hM.row.2) (fun _ => no (fun y => y.2.1 z)) (fun c => absurd c (by decide)) (fun c => absurd c (by decide))
    · have z2 : pq R ≠ 0 := z
      refine s9_draw_30 (n_p1 := 1514) (by omega) (am_ow hM.1) hM.row.1 (am_rw hM.row.2) (fun c => absurd rfl c) (fun _ c => no (fun y => ?_)) (fun _ c Q' hK => md_ballots (m := (I1, Z)) hM g3 (hK _ _ ?_))
      · rw [e16] at c
        dsimp only at c
        rw [show (4 : Int).toNat = 4 from rfl, e4] at c
        omega
      · rw [e16] at c
        dsimp only at c
        rw [show (4 : Int).toNat = 4 from rfl, e4] at c
        refine s9_draw_50 (by omega) (am_ow hM.1) (fun c2 Q' hK => ?_) (fun c2 => no (fun y => by omega))
        have hn : 0 < R 1 := by omega
        have e6 := kN_eq hR z2 hn (by omega)
        have hp1 : PaV I1 n P := g1.pa hp
        refine md_keep hM g3 hp1 (fun I2 k1 k2 k3 => hK _ (s9_draw_59 (by omega) (am_ow hM.1) fun Q' hK => ?_))
        have hv2 : RowV I2 R := fun j hj => by rw [k1 104 (by omega) (by omega)]; exact g3 j hj
        refine md_seeds (by omega) hM hv2 hR hn (hK _ (s9_draw_63 (am_ow hM.1) ?_))
        rw [e6, tnc]
        dsimp only
        have e16b : u2 I2 103 18 (lx (R 5) (kN R)) 103 16 = kN R := by rw [u2n (by omega), k2 16 (by omega)]; exact g4.1
        rw [e16b]
        have hne : kD R i ≠ kN R := fun y => by
          have := goes_le (R := R) (d := dw R (R 5)) (most := min (kN R + i) (R 4)) (300 - kN R - 1) (kN R + 1)
          rw [eD, show 300 - kN R = (300 - kN R - 1) + 1 by omega] at y
          unfold goes at y
          rw [if_pos ⟨by omega, z, hn⟩] at y
          omega
        have eRd : Rd R (kN R) = R := Rd_0 hD e6
        refine lp_rdraw (I0 := u2 I2 103 18 (lx (R 5) (kN R))) (by omega) hM hR hn q.1 q.2 (fun I3 m1 m2 => (h0 q.1 q.2 I3 ?_).2 hne ?_ m2 (Rd_DR (Or.inr hn)) ?_) (300 - kN R) (kN R) _ (by omega) (Nat.le_refl _) DF.rf ?_ ?_ u2_at rfl
        · rw [m1.2 7 (by omega) (by omega), u2n (by omega), k2 7 (by omega)]; exact g2
        · refine g1.mu.tr ⟨fun x hx => ?_, fun j hj => ?_⟩
          · rw [m1.1 x (by omega) (by omega) (by omega), u2r (by omega), k1 x (by omega) (by omega)]
          · rw [m1.2 j (by omega) (by omega), u2n (by omega), k2 j (by omega)]
        · refine ⟨by rw [m1.2 6 (by omega) (by omega), u2n (by omega)]; exact k3.1, k3.2.1, fun j hj i' hi' => ?_⟩
          rw [m1.1 108 (by omega) (by omega) (by omega), u2r (by omega)]
          exact k3.2.2 j hj i' hi'
        · rw [eRd]
          intro j hj
          rw [u2r (by omega)]; exact hv2 j hj
        · exact g4.same hR (by rw [u2n (by omega), k2 16 (by omega)]) (fun x p q => by rw [u2r (by omega)]; exact k1 x (by omega) (by omega))
  · rw [if_neg q]
    exact s9_draw_13 (by omega) (am_ow hM.1) (fun c => absurd rfl c) (fun _ Q' hK => md_fail1 hM MF.code (fun I2 k1 k2 => hK _ _ (s9_draw_21 (h1 q I2 k1 k2))))
end
