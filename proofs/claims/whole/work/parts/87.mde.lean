/-! THE REFERENCE: going through the draws -/
def GF (I I' : Nat → Nat → Int) : Prop := (∀ x, x ≠ 103 → x < 109 ∨ 118 ≤ x → I' x = I x) ∧ ∀ j, j ≠ 16 → I' 103 j = I 103 j
/-- what a question may change -/
def MF (I I' : Nat → Nat → Int) : Prop := (∀ x, x ≠ 103 → x < 109 ∨ 120 ≤ x → I' x = I x) ∧ ∀ j, j ≠ 7 → j ≠ 16 → j ≠ 18 → I' 103 j = I 103 j
theorem GF.mf {I I' : Nat → Nat → Int} (h : GF I I') : MF I I' := ⟨fun x a b => h.1 x a (by omega), fun j _ b _ => h.2 j b⟩
theorem GF.rf {I : Nat → Nat → Int} : GF I I := ⟨fun _ _ _ => rfl, fun _ _ => rfl⟩
theorem MF.rf {I : Nat → Nat → Int} : MF I I := ⟨fun _ _ _ => rfl, fun _ _ _ _ => rfl⟩
theorem MF.tr {I I1 I2 : Nat → Nat → Int} (h : MF I I1) (h2 : MF I1 I2) : MF I I2 := ⟨fun x a b => by rw [h2.1 x a b]; exact h.1 x a b, fun j a b c => by rw [h2.2 j a b c]; exact h.2 j a b c⟩
theorem MF.code {I : Nat → Nat → Int} {k : Int} : MF I (u2 I 103 7 k) := ⟨fun x a _ => u2r a, fun j a _ _ => u2n a⟩
theorem MF.row {I I' : Nat → Nat → Int} {R : Nat → Int} (h : MF I I') (hv : RowV I R) : RowV I' R := fun j hj => by rw [h.1 104 (by omega) (by omega)]; exact hv j hj
/-- the draws that were kept are those of the seed -/
def DR (R : Nat → Int) : Prop := (R 6 = 0 ∨ 0 < R 1) ∧ ∀ j : Nat, (j : Int) < R 6 → R (1214 + j) = dw R (R 5) j
theorem ix1214 {k : Nat} (h : k < 1000) : wr (1214 + (k : Int)) = ((1214 + k : Nat) : Int) := by
  rw [wr_of (by omega) (by omega)]; omega
theorem ix3 {k r : Nat} (h : k < 1000) (h2 : r < 1000) : wr (wr (3 * (k : Int)) + (r : Int)) = ((3 * k + r : Nat) : Int) := by
  rw [wr_of (z := 3 * (k : Int)) (by omega) (by omega), wr_of (by omega) (by omega)]; omega
section
variable {G : am_G} {dp : Nat} {Q : am_Q} {R : Nat → Int} {Z : (Nat → Nat → Option Nat) × (Nat → Nat × Nat) × Nat × Bool}
theorem md_begins {I : Nat → Nat → Int} (d : Nat → Int) (hd : 5 ≤ dp) (hM : Md (I, Z)) (hv : RowV I R) (hR : RV R) (h : ∀ I' : Nat → Nat → Int, GF I I' → MaV I' R d 0 → Q (.inl none) (I', Z)) : T G dp 0 0 M9_begins [rV (some 103)] (I, Z) Q := by
  refine T9_begins (s9_begins_0 (by omega) (am_ow hM.1) fun Q' hK => md_layRaces (by omega) hM hv hR (fun I1 g1 g2 => hK _ (s9_begins_4 hM.1 ?_)))
  dsimp only
  have r0 : ∀ x, x ≠ 103 → u2 I1 103 16 0 x = I1 x := fun x hx => u2r hx
  refine lp_begins (I0 := u2 I1 103 16 0) (by omega) hM (fun j hj => by rw [r0 104 (by omega), g1 104 (by omega)]; exact hv j hj) hR (g2.same fun x a b => r0 x (by omega)) u2_at d (fun I2 k1 k2 => h I2 ⟨fun x a b => ?_, fun j hj => ?_⟩ k2) (rC R) 0 _ rfl (by omega) (fun _ _ _ => rfl) (fun r hr => absurd hr (by omega))
  · rw [k1 x (by omega), r0 x a]; exact g1 x (by omega)
  · rw [k1 103 (by omega), u2n hj, g1 103 (by omega)]
theorem lp_goes {I0 : Nat → Nat → Int} (hd : 7 ≤ dp) (hM : Md (I0, Z)) (hv : RowV I0 R) (hR : RV R) (hD : DR R) (h : ∀ I' : Nat → Nat → Int, GF I0 I' → MaV I' R (dw R (R 5)) (kN R) → Q (.inl none) (I', Z)) : ∀ (t k : Nat) (I : Nat → Nat → Int), k + t = 300 → GF I0 I → MaV I R (dw R (R 5)) k → goes R (dw R (R 5)) (R 6) t k = kN R → X G dp 0 0 M9_goes 6 [some (rV (some 103)), some (iV k)] [] (I, Z) Q := by
  have hm := hR.2.2.2.2.2.2.1
  intro t
  induction t with
  | zero =>
    intro k I ht hf hA hg
    have hvI := hf.mf.row hv
    have e : k = kN R := hg
    have e6 : I 104 6 = R 6 := hvI 6 (by omega)
    exact s9_goes_6 (n_p1 := 1514) (by omega) (am_ow hM.1) hM.row.1 (am_rw hM.row.2) (fun _ => h I hf (by rw [← e]; exact hA)) (fun c => absurd (by dsimp only; rw [show (6 : Int).toNat = 6 from rfl, e6]; omega) c)
  | succ t ih =>
    intro k I ht hf hA hg
    have hvI := hf.mf.row hv
    have e6 : I 104 6 = R 6 := hvI 6 (by omega)
    unfold goes at hg
    refine s9_goes_6 (n_p1 := 1514) (by omega) (am_ow hM.1) hM.row.1 (am_rw hM.row.2) (fun c => ?_) (fun c Q' hK => ?_)
    · dsimp only at c
      rw [show (6 : Int).toNat = 6 from rfl, e6] at c
      rw [if_neg (fun z => by omega)] at hg
      exact h I hf (by rw [← hg]; exact hA)
    · dsimp only at c
      rw [show (6 : Int).toNat = 6 from rfl, e6] at c
      refine md_isOver (d := dw R (R 5)) (k := k) (by omega) hM hvI hR (fun r hr => (hA.2.2.1 r hr).2) (fun z => hK _ _ ?_) (fun z => hK _ _ ?_)
      · rw [if_neg (fun q => q.2.1 z)] at hg
        exact s9_goes_21 (n_p1 := 1514) (by omega) (am_ow hM.1) hM.row.1 (am_rw hM.row.2) (fun _ => h I hf (by rw [← hg]; exact hA)) (fun c => absurd c (by decide)) (h4 := fun c => absurd c (by decide)) (h5 := fun c => absurd c (by decide))
      · have hn : 0 < R 1 := by have := hD.1; omega
        rw [if_pos ⟨by omega, z, hn⟩] at hg
        have hdr := hD.2 k (by omega)
        have hdw := dw_rng (z := R 5) (k := k) hn
        obtain ⟨b, eb⟩ : ∃ b : Nat, dw R (R 5) k = b := ⟨(dw R (R 5) k).toNat, by omega⟩
        have hbn : b < rN R := by have := hR.n; omega
        refine s9_goes_21 (n_p1 := 1514) (by omega) (am_ow hM.1) hM.row.1 (am_rw hM.row.2) (fun c => absurd rfl c) (fun _ Q' hK => ?_) (h4 := fun _ => by rw [ix1214 (by omega)]; omega) (h5 := fun _ => by rw [ix1214 (by omega)]; omega)
        dsimp only
        rw [ix1214 (by omega), tnc, hvI (1214 + k) (by omega), hdr, eb]
        refine md_drawsBallot (d := dw R (R 5)) (k := k) (by omega) hM hvI hR hA (by omega) eb hbn (fun I1 g1 g2 g3 => hK _ (s9_goes_38 ?_))
        rw [wrs (by omega)]
        exact ih (k + 1) I1 (by omega) ⟨fun x a b => by rw [g1 x a (by omega)]; exact hf.1 x a b, fun j hj => by rw [g2 j hj]; exact hf.2 j hj⟩ g3 hg
theorem md_goes {I : Nat → Nat → Int} (hd : 7 ≤ dp) (hM : Md (I, Z)) (hv : RowV I R) (hR : RV R) (hD : DR R) (h : ∀ I' : Nat → Nat → Int, GF I I' → MaV I' R (dw R (R 5)) (kN R) → Q (.inl none) (I', Z)) : T G dp 0 0 M9_goes [rV (some 103)] (I, Z) Q := by
  refine T9_goes (s9_goes_0 (by omega) (am_ow hM.1) fun Q' hK => md_begins (dw R (R 5)) (by omega) hM hv hR (fun I1 g1 g2 => hK _ (s9_goes_4 ?_)))
  exact lp_goes hd hM hv hR hD h 300 0 I1 rfl g1 g2 rfl
/-- the same at a cleared code -/
theorem md_goes0 {I : Nat → Nat → Int} (hd : 7 ≤ dp) (hM : Md (I, Z)) (hv : RowV I R) (hR : RV R) (hD : DR R) (h : ∀ I' : Nat → Nat → Int, MF I I' → I' 103 7 = 0 → RowV I' R → MaV I' R (dw R (R 5)) (kN R) → Q (.inl none) (I', Z)) : T G dp 0 0 M9_goes [rV (some 103)] (u2 I 103 7 0, Z) Q := by
  refine md_goes hd hM (MF.code.row hv) hR hD (fun I' g1 g2 => ?_)
  have hf : MF I I' := MF.code.tr g1.mf
  exact h I' hf (by rw [g1.2 7 (by omega)]; exact u2_at) (hf.row hv) g2
theorem md_isByHand {I : Nat → Nat → Int} (hd : 3 ≤ dp) (hM : Md (I, Z)) (hv : RowV I R) (hR : RV R) (hA : MaV I R (dw R (R 5)) (kN R)) (h : Q (.inl (some (iV (if bh R then 1 else 0)))) (I, Z)) : T G dp 0 0 M9_isByHand [rV (some 103)] (I, Z) Q := by
  have e4 : I 104 4 = R 4 := hv 4 (by omega)
  have e16 := hA.1
  refine T9_isByHand (s9_isByHand_0 (by omega) (am_ow hM.1) fun Q' hK => md_isOver (d := dw R (R 5)) (k := kN R) (by omega) hM hv hR (fun r hr => (hA.2.2.1 r hr).2) (fun z => hK _ _ ?_) (fun z => hK _ _ ?_))
  · have q : pq R = 0 := z
    rw [show bh R = false by unfold bh; rw [q]; rfl] at h
    exact s9_isByHand_4 (n_p1 := 1514) (am_ow hM.1) hM.row.1 (am_rw hM.row.2) (fun _ => h) (fun c => absurd c (by decide)) (fun c => absurd c (by decide))
  · have q : pq R ≠ 0 := z
    refine s9_isByHand_4 (n_p1 := 1514) (am_ow hM.1) hM.row.1 (am_rw hM.row.2) (fun c => absurd rfl c) (fun _ c => ?_) (fun _ c => ?_)
    · dsimp only at c
      rw [show (4 : Int).toNat = 4 from rfl, e4, e16] at c
      rw [show bh R = false by unfold bh; rw [show decide (R 4 ≤ kN R) = false from decide_eq_false (by omega), Bool.and_false]] at h
      exact h
    · dsimp only at c
      rw [show (4 : Int).toNat = 4 from rfl, e4, e16] at c
      rw [show bh R = true by unfold bh; rw [show decide (R 4 ≤ kN R) = true from decide_eq_true (by omega), show decide (pq R ≠ 0) = true from decide_eq_true q]; rfl] at h
      exact h
theorem shx_16 (x : Int) : ian (ishx x 16) 32767 = ian (iushx x 16) 32767 := by
  have h : ∀ y : Int32, ((y >>> (Int32.ofInt 16 &&& 31)) &&& Int32.ofInt 32767) = ((y.toUInt32 >>> ((Int32.ofInt 16).toUInt32 &&& Int32.toUInt32 31)).toInt32 &&& Int32.ofInt 32767) := fun y => by
    have e1 : Int32.ofInt 16 &&& 31 = 16 := by decide
    have e2 : (Int32.ofInt 16).toUInt32 &&& Int32.toUInt32 31 = 16 := by decide
    rw [e1, e2]
    apply Int32.toBitVec_inj.mp
    have a1 : ((y >>> (16 : Int32)) &&& Int32.ofInt 32767).toBitVec = y.toBitVec.sshiftRight 16 &&& 32767#32 := rfl
    have a2 : ((y.toUInt32 >>> (16 : UInt32)).toInt32 &&& Int32.ofInt 32767).toBitVec = y.toBitVec >>> 16 &&& 32767#32 := rfl
    rw [a1, a2]
    apply BitVec.eq_of_getLsbD_eq
    intro i hi
    rw [BitVec.getLsbD_and, BitVec.getLsbD_and]
    by_cases h15 : i < 15
    · rw [BitVec.getLsbD_sshiftRight, BitVec.getLsbD_ushiftRight]
      rw [if_pos (by omega)]
      simp only [show ¬ 32 ≤ i by omega, decide_false, Bool.not_false, Bool.true_and]
    · have e : (32767#32).getLsbD i = false := by
        rw [BitVec.getLsbD_ofNat, show (32767 : Nat) = 2 ^ 15 - 1 by decide, Nat.testBit_two_pow_sub_one]
        rw [show decide (i < 15) = false from decide_eq_false h15, Bool.and_false]
      rw [e, Bool.and_false, Bool.and_false]
  have o : ∀ y : Int32, Int32.ofInt y.toInt = y := fun y => Int32.ofInt_toInt y
  unfold ian ishx iushx
  rw [o, o, h]
theorem md_drawnBy {I : Nat → Nat → Int} {z : Int} {k : Nat} (hd : 1 ≤ dp) (hM : Md (I, Z)) (hv : RowV I R) (hn : 0 < R 1) (hx : I 103 18 = lx z k) (h : Q (.inl (some (iV (dw R z k)))) (u2 I 103 18 (lx z (k + 1)), Z)) : T G dp 0 0 M9_drawnBy [rV (some 103)] (I, Z) Q := by
  refine T9_drawnBy (s9_drawnBy_0 hd hM.1 fun Q' hK => ?_)
  dsimp only at hK ⊢
  rw [hx] at hK ⊢
  have el : wr (wr (lx z k * 1103515245) + 12345) = lx z (k + 1) := rfl
  rw [el] at hK ⊢
  rw [u2_at, shx_16] at hK
  refine md_ballots (m := (u2 I 103 18 (lx z (k + 1)), Z)) hM (fun j hj => ?_) (hK _ _ (s9_drawnBy_30 h))
  dsimp only
  rw [u2r (by omega)]; exact hv j hj
theorem lp_seeds {I0 : Nat → Nat → Int} (hd : 2 ≤ dp) (hM : Md (I0, Z)) (hv : RowV I0 R) (hR : RV R) (hn : 0 < R 1) (h : Q (.inl none) (u2 I0 103 18 (lx (R 5) (R 6).toNat), Z)) : ∀ (t k : Nat) (I : Nat → Nat → Int) (o2 : Option am_V), (R 6).toNat - k = t → k ≤ (R 6).toNat → I = u2 I0 103 18 (lx (R 5) k) → X G dp 0 0 M9_seeds 12 [some (rV (some 103)), some (iV k), o2] [] (I, Z) Q := by
  have hm := hR.2.2.2.2.2.2.1
  intro t
  induction t with
  | zero =>
    intro k I o2 ht hk eI
    have hvI : RowV I R := fun j hj => by rw [eI, u2r (by omega)]; exact hv j hj
    have e6 : I 104 6 = R 6 := hvI 6 (by omega)
    have e : k = (R 6).toNat := by omega
    rw [← e, ← eI] at h
    exact s9_seeds_12 (n_p1 := 1514) (by omega) (am_ow hM.1) hM.row.1 (am_rw hM.row.2) (fun _ => h) (fun c => absurd (by dsimp only; rw [show (6 : Int).toNat = 6 from rfl, e6]; omega) c)
  | succ t ih =>
    intro k I o2 ht hk eI
    have hvI : RowV I R := fun j hj => by rw [eI, u2r (by omega)]; exact hv j hj
    have e6 : I 104 6 = R 6 := hvI 6 (by omega)
    refine s9_seeds_12 (n_p1 := 1514) (by omega) (am_ow hM.1) hM.row.1 (am_rw hM.row.2) (fun c => absurd c (by dsimp only; rw [show (6 : Int).toNat = 6 from rfl, e6]; omega)) (fun _ Q' hK => ?_)
    refine md_drawnBy (z := R 5) (k := k) (by omega) hM hvI hn (by rw [eI]; exact u2_at) (hK _ _ (s9_seeds_27 ?_))
    rw [wrs (by omega)]
    refine ih (k + 1) _ _ (by omega) (by omega) ?_
    rw [eI]
    funext a b
    unfold u2
    split <;> rfl
theorem md_seeds {I : Nat → Nat → Int} (hd : 2 ≤ dp) (hM : Md (I, Z)) (hv : RowV I R) (hR : RV R) (hn : 0 < R 1) (h : Q (.inl none) (u2 I 103 18 (lx (R 5) (R 6).toNat), Z)) : T G dp 0 0 M9_seeds [rV (some 103)] (I, Z) Q := by
  have e5 : I 104 5 = R 5 := hv 5 (by omega)
  refine T9_seeds (s9_seeds_0 (n_p1 := 1514) hM.row.1 (am_rw hM.row.2) hM.1 ?_)
  dsimp only
  rw [show (5 : Int).toNat = 5 from rfl, e5]
  exact lp_seeds hd hM hv hR hn h (R 6).toNat 0 _ _ rfl (by omega) rfl
end
