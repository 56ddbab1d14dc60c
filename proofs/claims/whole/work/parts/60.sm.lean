/-! ROWS that tell of the same election: one audit -/
def Rs6 (R R' : Nat → Int) : Prop := ∀ j, j < 1214 → j ≠ 6 → R' j = R j
theorem Rsm.s6 {R R' : Nat → Int} (h : Rsm R R') : Rs6 R R' := fun j hj _ => h j hj
theorem Rsm.symm {R R' : Nat → Int} (h : Rsm R R') : Rsm R' R := fun j hj => (h j hj).symm
theorem Rsm.trans {R R' R'' : Nat → Int} (h : Rsm R R') (k : Rsm R' R'') : Rsm R R'' := fun j hj => (k j hj).trans (h j hj)
theorem Rs6.rs1 {R : Nat → Int} {v : Int} : Rs6 R (rs1 R 6 v) := fun _ _ h => rs1_ne h
theorem Rs6.cc {R R' : Nat → Int} (h : Rs6 R R') : rC R' = rC R := rC_of (h 0 (by omega) (by omega))
theorem Rs6.nn {R R' : Nat → Int} (h : Rs6 R R') : rN R' = rN R := rN_of (h 1 (by omega) (by omega))
theorem Rs6.kk {R R' : Nat → Int} (h : Rs6 R R') {r : Nat} (hr : r < 3) : rK R' r = rK R r := by unfold rK; rw [h _ (by omega) (by omega)]
theorem Rs6.yy {R R' : Nat → Int} (h : Rs6 R R') {r : Nat} (hr : r < 3) : rY R' r = rY R r := h _ (by omega) (by omega)
theorem Rs6.vv {R R' : Nat → Int} (h : Rs6 R R') {r b : Nat} (hr : r < 3) (hb : b < 200) : rV_ R' r b = rV_ R r b := h _ (by omega) (by omega)
theorem Rs6.pp {R R' : Nat → Int} (h : Rs6 R R') {r b : Nat} (hr : r < 3) (hb : b < 200) : rP_ R' r b = rP_ R r b := h _ (by omega) (by omega)
theorem Rs6.all {R R' : Nat → Int} (h : Rs6 R R') (hR : RV R) {r : Nat} (hr : r < rC R) : (∀ j, rT R' r j = rT R r j) ∧ (∀ j, rH R' r j = rH R r j) ∧ rW R' r = rW R r ∧ rO R' r = rO R r ∧ rG R' r = rG R r ∧ ∀ b, b < rN R → rM R' r b = rM R r b := by
  have hc := hR.c
  have hn := hR.n
  have hK := (hR.k hr).2.1
  have eN := h.nn
  have eK := h.kk (r := r) (by omega)
  have eV : ∀ b, b < rN R → rV_ R' r b = rV_ R r b := fun b hb => h.vv (by omega) (by omega)
  have eP : ∀ b, b < rN R → rP_ R' r b = rP_ R r b := fun b hb => h.pp (by omega) (by omega)
  refine ⟨fun j => ?_, fun j => ?_, ?_, ?_, ?_, fun b hb => ?_⟩
  · unfold rT; rw [eN, tal_congr eV]
  · unfold rH; rw [eN, tal_congr eP]
  · unfold rW; rw [eN, eK, win_congr hK eV]
  · unfold rO; rw [eN, eK, win_congr hK eP]
  · unfold rG; rw [eN, eK, mrg_congr hK eV]
  · unfold rM mst; rw [eN, eK, win_congr hK eV, eV b hb, eP b hb]
theorem Rs6.dw_ {R R' : Nat → Int} (h : Rs6 R R') (z : Int) : dw R' z = dw R z := by
  funext k
  unfold dw
  rw [h 1 (by omega) (by omega)]
theorem Rs6.stO_ {R R' : Nat → Int} (h : Rs6 R R') (hR : RV R) {r : Nat} (hr : r < rC R) : stO R' r = stO R r := by
  have ha := h.all hR hr
  have eT : rT R' r = rT R r := funext ha.1
  funext own ch k
  unfold stO
  rw [eT, ha.2.2.1, h.kk (by have := hR.c; omega)]
theorem Rs6.stC_ {R R' : Nat → Int} (h : Rs6 R R') (hR : RV R) {r : Nat} (hr : r < rC R) (f : Int) : stC R' r f = stC R r f := by
  have ha := h.all hR hr
  have hc := hR.c
  funext own cur mi ch
  unfold stC tms bys
  rw [h.stO_ hR hr, ha.2.2.1, h.kk (by omega), h.yy (by omega), ha.2.2.2.2.1, h 1 (by omega) (by omega)]
theorem Rs6.rs_ {R R' : Nat → Int} (h : Rs6 R R') (hR : RV R) {r : Nat} (hr : r < rC R) {d : Nat → Int} : ∀ k, (∀ j, j < k → 0 ≤ d j ∧ d j < R 1) → rs R' d r k = rs R d r k
  | 0, _ => rfl
  | k + 1, hd => by
    have ih := Rs6.rs_ h hR hr k (fun j hj => hd j (by omega))
    have hk := hd k (by omega)
    have hn := hR.n
    have hc := hR.c
    have ha := h.all hR hr
    have eP : rP_ R' r (d k).toNat = rP_ R r (d k).toNat := h.pp (by omega) (by omega)
    have eM : rM R' r (d k).toNat = rM R r (d k).toNat := ha.2.2.2.2.2 _ (by omega)
    have eG : goal R' = goal R := by unfold goal; rw [h 2 (by omega) (by omega)]
    show (if (rs R' d r k).2.2 ≠ -1 then _ else _) = (if (rs R d r k).2.2 ≠ -1 then _ else _)
    rw [ih, h.stO_ hR hr, h.stC_ hR hr, h 3 (by omega) (by omega), eP, eM, eG, h.yy (by omega)]
theorem Rs6.pnd_ {R R' : Nat → Int} (h : Rs6 R R') (hR : RV R) {d : Nat → Int} {k : Nat} (hd : ∀ j, j < k → 0 ≤ d j ∧ d j < R 1) : ∀ n, n ≤ rC R → pnd R' d k n = pnd R d k n
  | 0, _ => rfl
  | n + 1, hn => by
    unfold pnd
    rw [Rs6.pnd_ h hR hd n (by omega), h.rs_ hR (by omega) k hd]
theorem Rs6.goes_ {R R' : Nat → Int} (h : Rs6 R R') (hR : RV R) {d : Nat → Int} (hd : ∀ j, 0 < R 1 → 0 ≤ d j ∧ d j < R 1) {most : Int} : ∀ t k, (k = 0 ∨ 0 < R 1) → goes R' d most t k = goes R d most t k
  | 0, _, _ => rfl
  | t + 1, k, hk => by
    have e1 : pnd R' d k (rC R') = pnd R d k (rC R) := by
      rw [h.cc]
      exact h.pnd_ hR (fun j hj => hd j (by omega)) _ (Nat.le_refl _)
    unfold goes
    rw [e1, h 1 (by omega) (by omega)]
    by_cases q : (k : Int) < most ∧ pnd R d k (rC R) ≠ 0 ∧ 0 < R 1
    · rw [if_pos q, if_pos q]; exact Rs6.goes_ h hR hd t (k + 1) (Or.inr q.2.2)
    · rw [if_neg q, if_neg q]
theorem Rsm.kN_ {R R' : Nat → Int} (h : Rsm R R') (hR : RV R) : kN R' = kN R := by
  unfold kN
  rw [h 5 (by omega), h 6 (by omega), h.s6.dw_]
  exact h.s6.goes_ hR (fun j hj => dw_rng hj) _ _ (Or.inl rfl)
/-- what was gone through before is gone through again -/
theorem goes_to {R : Nat → Int} {d : Nat → Int} {k' : Nat} (h : ∀ j, j < k' → pnd R d j (rC R) ≠ 0 ∧ 0 < R 1) : ∀ t k, k ≤ k' → k + t = 300 → k' ≤ 300 → goes R d k' t k = k'
  | 0, k, h1, h2, h3 => by unfold goes; omega
  | t + 1, k, h1, h2, h3 => by
    unfold goes
    by_cases e : k < k'
    · have := h k e
      rw [if_pos ⟨by omega, this.1, this.2⟩]
      exact goes_to h t (k + 1) (by omega) (by omega) h3
    · rw [if_neg (fun q => by omega)]; omega
theorem AuV.s6 {I : Nat → Nat → Int} {a k : Nat} {z : Int} {R R' : Nat → Int} (h : AuV I a R z k) (hs : Rs6 R R') (hR : RV R) (hk : k = 0 ∨ 0 < R 1) : AuV I a R' z k := by
  have hd : ∀ j, j < k → 0 ≤ dw R z j ∧ dw R z j < R 1 := fun j hj => dw_rng (by omega)
  obtain ⟨h1, h2, h3, h4, h5, h6, h7⟩ := h
  unfold AuV
  rw [hs.dw_, hs.cc]
  refine ⟨h1, h2, by rw [hs.pnd_ hR hd _ (Nat.le_refl _)]; exact h3, h4, fun r hr => ?_, h6, h7⟩
  obtain ⟨b1, b2, b3⟩ := h5 r hr
  exact ⟨fun j hj => by rw [hs.rs_ hR hr k hd]; exact b1 j hj, fun j hj => by rw [hs.rs_ hR hr j (fun i hi => hd i (by omega))]; exact b2 j hj, by rw [hs.rs_ hR hr k hd]; exact b3⟩
theorem kN_pos (R : Nat → Int) : kN R = 0 ∨ 0 < R 1 := by
  by_cases h : kN R = 0
  · exact Or.inl h
  · exact Or.inr (goes_at (R := R) 300 0 0 (Nat.le_refl _) (show 0 < goes R (dw R (R 5)) (R 6) 300 0 by have : kN R = goes R (dw R (R 5)) (R 6) 300 0 := rfl; omega)).2.2
theorem CI.sm {I : Nat → Nat → Int} {w : Nat} {R R' : Nat → Int} (h : CI I w R) (hs : Rsm R R') : CI I w R' := by
  refine ⟨h.1.sm hs, h.2.1.sm h.1 hs, ?_⟩
  rw [hs.kN_ h.1, hs 5 (by omega)]
  exact h.2.2.s6 hs.s6 h.1 (kN_pos R)
theorem kN_back {R : Nat → Int} {v : Nat} (hR : RV R) (hv : v ≤ 300) (h : ∀ j, j < v → pnd R (dw R (R 5)) j (rC R) ≠ 0 ∧ 0 < R 1) : kN (rs1 R 6 v) = v := by
  have hs : Rs6 R (rs1 R 6 v) := Rs6.rs1
  unfold kN
  rw [rs1_at, rs1_ne (show 5 ≠ 6 by omega), hs.dw_, hs.goes_ hR (fun j hj => dw_rng hj) _ _ (Or.inl rfl)]
  exact goes_to h 300 0 (by omega) (by omega) hv
