/-! CHANGES of an election -/
def rs1 (R : Nat → Int) (k : Nat) (v : Int) : Nat → Int := fun j => if j = k then v else R j
theorem rs1_at {R : Nat → Int} {k : Nat} {v : Int} : rs1 R k v k = v := if_pos rfl
theorem rs1_ne {R : Nat → Int} {k j : Nat} {v : Int} (h : j ≠ k) : rs1 R k v j = R j := if_neg h
/-- rows that tell of the same election -/
def Rsm (R R' : Nat → Int) : Prop := ∀ j, j < 1214 → R' j = R j
/-- what a contest tells depends on little -/
theorem CtV.congr {I : Nat → Nat → Int} {c : Nat} {R R' : Nat → Int} {r : Nat} (h1 : R' 1 = R 1) (h2 : R' (8 + 2 * r) = R (8 + 2 * r)) (h3 : R' (8 + 2 * r + 1) = R (8 + 2 * r + 1)) (h4 : ∀ b, b < rN R → R' (14 + 3 * b + r) = R (14 + 3 * b + r)) (h5 : ∀ b, b < rN R → R' (614 + 3 * b + r) = R (614 + 3 * b + r)) (hR : RV R) (hr : r < rC R) (h : CtV I c R r) : CtV I c R' r := by
  have eN : rN R' = rN R := by unfold rN; rw [h1]
  have eK : rK R' r = rK R r := by unfold rK; rw [h2]
  have eY : rY R' r = rY R r := h3
  have hK := (hR.k hr).2.1
  have eV : ∀ b, b < rN R → rV_ R' r b = rV_ R r b := fun b hb => h4 b hb
  have eP : ∀ b, b < rN R → rP_ R' r b = rP_ R r b := fun b hb => h5 b hb
  obtain ⟨k1, k2, k3, k4, k5, k6, k7⟩ := h
  refine ⟨by rw [h2]; exact k1, by rw [eY]; exact k2, ?_, ?_, ?_, fun j hj => ⟨?_, ?_⟩, fun b hb => ?_⟩
  · unfold rW; rw [eN, eK, win_congr hK eV]; exact k3
  · unfold rO; rw [eN, eK, win_congr hK eP]; exact k4
  · unfold rG; rw [eN, eK, mrg_congr hK eV]; exact k5
  · unfold rT; rw [eN, tal_congr eV]; exact (k6 j hj).1
  · unfold rH; rw [eN, tal_congr eP]; exact (k6 j hj).2
  · rw [eN] at hb
    rw [eV b hb, eP b hb]
    have k := k7 b hb
    refine ⟨k.1, k.2.1, k.2.2.trans ?_⟩
    unfold rM mst
    rw [eN, eK, win_congr hK eV, eV b hb, eP b hb]
theorem rC_of {R R' : Nat → Int} (h : R' 0 = R 0) : rC R' = rC R := by unfold rC; rw [h]
theorem rN_of {R R' : Nat → Int} (h : R' 1 = R 1) : rN R' = rN R := by unfold rN; rw [h]
theorem RV.sm {R R' : Nat → Int} (h : RV R) (k : Rsm R R') : RV R' := by
  have h0 := k 0 (by omega)
  have h1 := k 1 (by omega)
  obtain ⟨a0, a1, a2, a3, a4, a5, a6, a7⟩ := h
  refine ⟨by rw [h0]; exact a0, by rw [h1]; exact a1, by rw [k 2 (by omega)]; exact a2, by rw [k 3 (by omega)]; exact a3, by rw [k 4 (by omega)]; exact a4, by rw [k 5 (by omega)]; exact a5, by rw [k 6 (by omega)]; exact a6, fun r hr => ?_⟩
  rw [rC_of h0] at hr
  have hr3 : r < 3 := by unfold rC at hr; omega
  have g := a7 r hr
  unfold rY rV_ rP_ at g ⊢
  rw [k (8 + 2 * r) (by omega), k (8 + 2 * r + 1) (by omega)]
  refine ⟨g.1, g.2.1, fun b hb => ?_⟩
  rw [rN_of h1] at hb
  have hb2 : b < 200 := by unfold rN at hb; omega
  rw [k (14 + 3 * b + r) (by omega), k (614 + 3 * b + r) (by omega)]
  exact g.2.2 b hb
theorem ElV.sm {I : Nat → Nat → Int} {e : Nat} {R R' : Nat → Int} (h : ElV I e R) (hR : RV R) (k : Rsm R R') : ElV I e R' := by
  have hc := hR.c
  have hn := hR.n
  obtain ⟨a0, a1, a2, a3, a4, a5⟩ := h
  refine ⟨by rw [k 0 (by omega)]; exact a0, by rw [k 1 (by omega)]; exact a1, by rw [k 5 (by omega)]; exact a2, by rw [k 6 (by omega)]; exact a3, by rw [k 2 (by omega), k 3 (by omega), k 4 (by omega)]; exact a4, fun r hr => ?_⟩
  rw [rC_of (k 0 (by omega))] at hr
  exact (a5 r hr).congr (k 1 (by omega)) (k _ (by omega)) (k _ (by omega)) (fun b hb => k _ (by omega)) (fun b hb => k _ (by omega)) hR hr
/-- another paper -/
theorem RV.paper {R : Nat → Int} (h : RV R) {r b : Nat} {v : Int} (hr : r < rC R) (hb : b < rN R) (hv : -2 ≤ v ∧ v < R (8 + 2 * r)) : RV (rs1 R (614 + 3 * b + r) v) := by
  have hc := h.c
  have n : ∀ j, j < 614 → rs1 R (614 + 3 * b + r) v j = R j := fun j hj => rs1_ne (by omega)
  obtain ⟨a0, a1, a2, a3, a4, a5, a6, a7⟩ := h
  refine ⟨by rw [n 0 (by omega)]; exact a0, by rw [n 1 (by omega)]; exact a1, by rw [n 2 (by omega)]; exact a2, by rw [n 3 (by omega)]; exact a3, by rw [n 4 (by omega)]; exact a4, by rw [n 5 (by omega)]; exact a5, by rw [n 6 (by omega)]; exact a6, fun q hq => ?_⟩
  rw [rC_of (n 0 (by omega))] at hq
  have g := a7 q hq
  unfold rY rV_ rP_ at g ⊢
  rw [n (8 + 2 * q) (by omega), n (8 + 2 * q + 1) (by omega)]
  refine ⟨g.1, g.2.1, fun b' hb' => ?_⟩
  rw [rN_of (n 1 (by omega))] at hb'
  have hb2 : b' < 200 := by unfold rN at hb'; omega
  rw [n (14 + 3 * b' + q) (by omega)]
  refine ⟨(g.2.2 b' hb').1, ?_⟩
  by_cases e : 614 + 3 * b' + q = 614 + 3 * b + r
  · have eq : q = r := by omega
    rw [e, rs1_at, eq]
    exact hv
  · rw [rs1_ne e]; exact (g.2.2 b' hb').2
/-- one of the numbers 2..13 changed -/
theorem RV.head {R : Nat → Int} (h : RV R) {k : Nat} {v : Int} (hk : k < 14) (hk0 : 2 ≤ k) (h2 : k = 2 → 1 ≤ v ∧ v ≤ 500) (h3 : k = 3 → 101 ≤ v ∧ v ≤ 300) (h4 : k = 4 → 1 ≤ v ∧ v ≤ 300) (h5 : k ≠ 5) (h6 : k = 6 → 0 ≤ v ∧ v ≤ 300) (h8 : ∀ r, k ≠ 8 + 2 * r) (h9 : ∀ r, k = 8 + 2 * r + 1 → v = 0 ∨ v = 1) : RV (rs1 R k v) := by
  have n : ∀ j, j ≠ k → rs1 R k v j = R j := fun j hj => rs1_ne hj
  have f : ∀ (j : Nat) (P : Int → Prop), (k = j → P v) → P (R j) → P (rs1 R k v j) := fun j P q1 q2 => by
    by_cases e : j = k
    · subst e; rw [rs1_at]; exact q1 rfl
    · rw [n j e]; exact q2
  obtain ⟨a0, a1, a2, a3, a4, a5, a6, a7⟩ := h
  refine ⟨by rw [n 0 (by omega)]; exact a0, by rw [n 1 (by omega)]; exact a1, f 2 (fun z => 1 ≤ z ∧ z ≤ 500) h2 a2, f 3 (fun z => 101 ≤ z ∧ z ≤ 300) h3 a3, f 4 (fun z => 1 ≤ z ∧ z ≤ 300) h4 a4, by rw [n 5 (by omega)]; exact a5, f 6 (fun z => 0 ≤ z ∧ z ≤ 300) h6 a6, fun r hr => ?_⟩
  rw [rC_of (n 0 (by omega))] at hr
  have g := a7 r hr
  unfold rY rV_ rP_ at g ⊢
  rw [n (8 + 2 * r) (fun q => h8 r q.symm)]
  refine ⟨g.1, f (8 + 2 * r + 1) (fun z => z = 0 ∨ z = 1) (fun q => h9 r q) g.2.1, fun b hb => ?_⟩
  rw [rN_of (n 1 (by omega))] at hb
  rw [n (14 + 3 * b + r) (by omega), n (614 + 3 * b + r) (by omega)]
  exact g.2.2 b hb
theorem ct_show {G : am_G} {dp : Nat} {Q : am_Q} {e r b : Nat} {v : Int} {R : Nat → Int} {Z : (Nat → Nat → Option Nat) × (Nat → Nat × Nat) × Nat × Bool} {I : Nat → Nat → Int} (hd : 4 ≤ dp) (he : El (I, Z) e) (hR : RV R) (hv : ElV I e R) (hr : r < rC R) (hb : b < rN R) (hch : -2 ≤ v ∧ v < R (8 + 2 * r)) (h : ∀ I' : Nat → Nat → Int, (∀ x, x < e ∨ e + 21 ≤ x → I' x = I x) → ElV I' e (rs1 R (614 + 3 * b + r) v) → Q (.inl none) (I', Z)) : T G dp 0 0 M3_show [rV (some e), iV r, iV b, iV v] (I, Z) Q := by
  have hc := hR.c
  have hN := hR.n
  have hK := hR.k hr
  have her := he.2.2.2 r (by omega)
  have hcv := hv.2.2.2.2.2 r hr
  have hR' := hR.paper hr hb hch
  have n : ∀ j, j < 614 → rs1 R (614 + 3 * b + r) v j = R j := fun j hj => rs1_ne (by omega)
  have eC : rC (rs1 R (614 + 3 * b + r) v) = rC R := rC_of (n 0 (by omega))
  have eN : rN (rs1 R (614 + 3 * b + r) v) = rN R := rN_of (n 1 (by omega))
  have eK : rK (rs1 R (614 + 3 * b + r) v) r = rK R r := by unfold rK; rw [n _ (by omega)]
  refine T3_show (s3_show_0 (n_p1 := 3) (n_p3 := 200) (by omega) (am_ow he.1) he.2.1.1 (Or.inl rfl) (am_rw he.2.2.1.1) (fun _ _ _ _ => her.1) (fun _ _ _ _ => am_ow her.2.1) (fun _ _ _ _ => her.2.2.1.2.1) (fun _ _ _ _ => her.2.2.2.2.1) (fun c1 => absurd c1 (by omega)) (fun c1 c2 => absurd c2 (by dsimp only; rw [hv.1]; omega)) (fun c1 c2 c3 => absurd c3 (by omega)) (fun c1 c2 c3 c4 => absurd c4 (by dsimp only; rw [hv.2.1]; omega)) (fun c1 c2 c3 c4 Q' hK' => ?_))
  dsimp only
  rw [tnc, u2r (show e ≠ ec e r + 2 by unfold ec; omega), hv.2.1, hN.1]
  refine ct_reckon (K := rK R r) (by omega) her.2 (by dsimp only; rw [u2r (by omega), hcv.1]; exact hK.1) hK.2.1 hK.2.2 hN.2 (fun I' g1 g2 g3 => hK' _ (s3_show_49 (h I' (fun x hx => ?_) ?_)))
  · rw [g1 x (by unfold ec; omega) (by unfold ec; omega) (by unfold ec; omega) (by unfold ec; omega)]; exact u2r (by unfold ec; omega)
  · dsimp only at g1 g2
    have fr : ∀ x, x < ec e r ∨ ec e r + 6 ≤ x → I' x = I x := fun x hx => by rw [g1 x (by omega) (by omega) (by omega) (by omega)]; exact u2r (by omega)
    have hH : ElH I' e (rs1 R (614 + 3 * b + r) v) := by
      have q := (ElH.of hv).same (fr e (by unfold ec; omega)) (fr (e + 2) (by unfold ec; omega))
      unfold ElH at q ⊢
      rw [n 0 (by omega), n 1 (by omega), n 2 (by omega), n 3 (by omega), n 4 (by omega), n 5 (by omega), n 6 (by omega)]
      exact q
    refine hH.to fun q hq => ?_
    rw [eC] at hq
    by_cases eq : q = r
    · subst eq
      have f1 : I' (ec e q + 1) = I (ec e q + 1) := by rw [g1 _ (by omega) (by omega) (by omega) (by omega)]; exact u2r (by omega)
      have f2 : I' (ec e q + 2) = u2 I (ec e q + 2) b v (ec e q + 2) := g1 _ (by omega) (by omega) (by omega) (by omega)
      refine CtV.of hR' (by rw [eC]; exact hq) ?_ ?_ (fun c hcn => ⟨?_, ?_⟩) (by rw [eN, eK]; exact g3)
      · rw [g2 5 (by omega), u2r (by omega), n _ (by omega)]; exact hcv.1
      · rw [g2 6 (by omega), u2r (by omega), hcv.2.1]; unfold rY; rw [n _ (by omega)]
      · rw [eN] at hcn
        rw [f1, (hcv.2.2.2.2.2.2 c hcn).1]; unfold rV_; rw [n _ (by omega)]
      · rw [eN] at hcn
        rw [f2]
        unfold rP_
        by_cases ecb : c = b
        · subst ecb; rw [u2_at, rs1_at]
        · rw [u2n ecb, rs1_ne (by omega)]; exact (hcv.2.2.2.2.2.2 c hcn).2.1
    · refine ((hv.2.2.2.2.2 q hq).same (I' := I') (fun x hx1 hx2 => fr x (by unfold ec at *; omega))).congr (n 1 (by omega)) (n _ (by omega)) (n _ (by omega)) (fun c _ => n _ (by omega)) (fun c _ => rs1_ne (by omega)) hR hq
