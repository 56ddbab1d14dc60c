/-! THE CLASS: questions about a race -/
def CI (I : Nat → Nat → Int) (w : Nat) (R : Nat → Int) : Prop := RV R ∧ ElV I w R ∧ AuV I 47 R (R 5) (kN R)
def rq (R : Nat → Int) (r : Nat) : (Nat → Int) × Int × Int := rs R (dw R (R 5)) r (kN R)
def pq (R : Nat → Int) : Nat := pnd R (dw R (R 5)) (kN R) (rC R)
/-- AUDITS: which race, which ballot, which candidate -/
def isR (R : Nat → Int) (i : Int) : Prop := 0 ≤ i ∧ i < R 0
def isB (R : Nat → Int) (i : Int) : Prop := 0 ≤ i ∧ i < R 1
def isC (R : Nat → Int) (r : Nat) (i : Int) : Prop := 0 ≤ i ∧ i < R (8 + 2 * r)
theorem isR.n {R : Nat → Int} {i : Int} (h : isR R i) (hR : RV R) : ∃ r : Nat, i = r ∧ r < rC R ∧ r < 3 := ⟨i.toNat, by have := h.1; omega, by have := hR.c; have := h.1; have := h.2; omega, by have := hR.c; have := h.1; have := h.2; omega⟩
theorem isB.n {R : Nat → Int} {i : Int} (h : isB R i) (hR : RV R) : ∃ r : Nat, i = r ∧ r < rN R ∧ r < 200 := ⟨i.toNat, by have := h.1; omega, by have := hR.n; have := h.1; have := h.2; omega, by have := hR.n; have := h.1; have := h.2; omega⟩
theorem isC.n {R : Nat → Int} {q : Nat} {i : Int} (h : isC R q i) (hR : RV R) (hq : q < rC R) : ∃ r : Nat, i = r ∧ r < rK R q ∧ r < 4 := ⟨i.toNat, by have := h.1; omega, by have := hR.k hq; have := h.1; have := h.2; omega, by have := hR.k hq; have := h.1; have := h.2; omega⟩
theorem ct_isOverV {G : am_G} {dp : Nat} {m : am_M} {Q : am_Q} {a : Nat} {v : Int} (ha : Au m a) (hv : m.1 a 7 = v) (h : Q (.inl (some (iV (if v = 0 then 1 else 0)))) m) : T G dp 0 0 M1_isOver [rV (some a)] m Q := by
  subst hv; exact ct_isOver ha h
theorem ct_isDoneV {G : am_G} {dp : Nat} {m : am_M} {Q : am_Q} {a r : Nat} {v : Int} (ha : Au m a) (hr : r < 3) (hv : m.1 (a + 9) r = v) (h : Q (.inl (some (iV (if v = -1 then 0 else 1)))) m) : T G dp 0 0 M1_isDone [rV (some a), iV r] m Q := by
  subst hv; exact ct_isDone ha hr h
section
variable {G : am_G} {dp : Nat} {Q : am_Q} {w s : Nat} {R : Nat → Int} {Z : (Nat → Nat → Option Nat) × (Nat → Nat × Nat) × Nat × Bool} {I : Nat → Nat → Int}
theorem Cl.nx {m : am_M} (h : Cl m w s) (k : Q (.inr 1) m) : Q (.inr 1) (am_nx m) := by rw [nx_same h.z]; exact k
theorem Cl.nx0 {m : am_M} (h : Cl m w s) (k : Q (.inr 0) m) : Q (.inr 0) (am_nx m) := by rw [nx_same h.z]; exact k
theorem ct_contestOf {i : Int} (hC : Cl (I, Z) w s) (hI : CI I w R) (h0 : ∀ r : Nat, i = r → r < rC R → r < 3 → Q (.inl (some (rV (some (ec w r))))) (I, Z)) (h1 : ¬ isR R i → Q (.inr 1) (I, Z)) : T G dp 1 6 M8_contestOf [rV (some 1), iV i] (I, Z) Q := by
  have hc := hI.1.c
  have e0 : I w 2 = R 0 := hI.2.1.1
  refine T8_contestOf (s8_contestOf_0 (p3 := ec w i.toNat) (n_p2 := 3) (by omega) (by omega) (am_ow hC.o) hC.p4 (am_ow hC.now.1) hC.now.2.1.1 (Or.inl rfl) (am_rw hC.now.2.2.1.1) (fun c1 c2 c3 => (hC.now.2.2.2 i.toNat (by omega)).1) (fun c1 => hC.nx (h1 (fun q => by have := q.1; omega))) (fun c1 c2 => hC.nx (h1 (fun q => by have := q.2; dsimp only at c2; omega))) (fun c1 c2 c3 => ?_) (fun c1 c2 c3 => hC.nx (h1 (fun q => by have := q.2; omega))))
  dsimp only at c2
  exact h0 i.toNat (by omega) (by omega) (by omega)
theorem ct_seekCandidate {i : Int} {r : Nat} (hC : Cl (I, Z) w s) (hI : CI I w R) (hr : r < rC R) (h0 : ∀ c : Nat, i = c → c < rK R r → c < 4 → Q (.inl none) (I, Z)) (h1 : ¬ isC R r i → Q (.inr 1) (I, Z)) : T G dp 1 6 M8_seekCandidate [rV (some 1), rV (some (ec w r)), iV i] (I, Z) Q := by
  have hc := hI.1.c
  have hk := hI.1.k hr
  have e0 : I (ec w r) 5 = R (8 + 2 * r) := (hI.2.1.2.2.2.2.2 r hr).1
  refine T8_seekCandidate (s8_seekCandidate_0 (by omega) (by omega) (am_ow (hC.now.2.2.2 r (by omega)).2.1) (fun c1 => hC.nx (h1 (fun q => by have := q.1; omega))) (fun c1 c2 => hC.nx (h1 (fun q => by have := q.2; dsimp only at c2; omega))) (fun c1 c2 c3 => ?_) (fun c1 c2 c3 => hC.nx (h1 (fun q => by have := q.2; dsimp only at c2; omega))))
  dsimp only at c2
  exact h0 i.toNat (by omega) (by omega) (by omega)
theorem ct_seekBallot {i : Int} (hC : Cl (I, Z) w s) (hI : CI I w R) (h0 : ∀ b : Nat, i = b → b < rN R → b < 200 → Q (.inl none) (I, Z)) (h1 : ¬ isB R i → Q (.inr 1) (I, Z)) : T G dp 1 6 M8_seekBallot [rV (some 1), iV i] (I, Z) Q := by
  have hn := hI.1.n
  have e0 : I w 3 = R 1 := hI.2.1.2.1
  refine T8_seekBallot (s8_seekBallot_0 (by omega) (by omega) (am_ow hC.o) hC.p4 (am_ow hC.now.1) (fun c1 => hC.nx (h1 (fun q => by have := q.1; omega))) (fun c1 c2 => hC.nx (h1 (fun q => by have := q.2; dsimp only at c2; omega))) (fun c1 c2 c3 => ?_) (fun c1 c2 c3 => hC.nx (h1 (fun q => by have := q.2; dsimp only at c2; omega))))
  dsimp only at c2
  exact h0 i.toNat (by omega) (by omega) (by omega)
/-- by hand: not over, as many drawn as may be -/
def bh (R : Nat → Int) : Bool := decide (pq R ≠ 0) && decide (R 4 ≤ kN R)
theorem ct_isByHand (hd : 1 ≤ dp) (hC : Cl (I, Z) w s) (hI : CI I w R) (h : Q (.inl (some (iV (if bh R then 1 else 0)))) (I, Z)) : T G dp 0 0 M1_isByHand [rV (some 47), rV (some w)] (I, Z) Q := by
  have e7 : I 47 7 = pq R := hI.2.2.2.2.1
  have e5 : I 47 5 = kN R := hI.2.2.1
  have e4 : I (w + 2) 2 = R 4 := hI.2.1.2.2.2.2.1.2.2
  refine T1_isByHand (s1_isByHand_0 hd (am_ow hC.audit.1) fun Q' hK => ct_isOverV hC.audit e7 (hK _ _ ?_))
  refine s1_isByHand_4 (n_p1 := 3) (am_ow hC.audit.1) (am_ow hC.now.1) hC.now.2.1.2 (am_rw hC.now.2.2.1.2) (fun c1 => ?_) (fun c1 c2 => ?_) (fun c1 c2 => ?_)
  · have q : pq R = 0 := by
      by_cases q : (pq R : Int) = 0
      · omega
      · rw [if_neg q] at c1; omega
    rw [show bh R = false by unfold bh; rw [q]; rfl] at h
    exact h
  · dsimp only at c2
    rw [e5, show (2 : Int).toNat = 2 from rfl, e4] at c2
    rw [show bh R = false by unfold bh; rw [show decide (R 4 ≤ kN R) = false from decide_eq_false (by omega), Bool.and_false]] at h
    exact h
  · dsimp only at c1 c2
    rw [e5, show (2 : Int).toNat = 2 from rfl, e4] at c2
    have q : pq R ≠ 0 := fun q => by rw [if_pos (by omega)] at c1; omega
    rw [show bh R = true by unfold bh; rw [show decide (R 4 ≤ kN R) = true from decide_eq_true (by omega), show decide (pq R ≠ 0) = true from decide_eq_true q]; rfl] at h
    exact h
theorem CI.dn (hI : CI I w R) {r : Nat} (hr : r < rC R) : I 56 r = (rq R r).2.2 := (hI.2.2.2.2.2.2.1 r hr).2.2
theorem CI.cu (hI : CI I w R) {r : Nat} (hr : r < rC R) : I (53 + r) (kN R) = (rq R r).2.1 := (hI.2.2.2.2.2.2.1 r hr).2.1 _ (Nat.le_refl _)
theorem CI.ow (hI : CI I w R) {r j : Nat} (hr : r < rC R) (hj : j < 4) : I (49 + r) j = (rq R r).1 j := (hI.2.2.2.2.2.2.1 r hr).1 j hj
theorem CI.k5 (hI : CI I w R) : I 47 5 = kN R := hI.2.2.1
/-- whose the race is -/
def vWins (R : Nat → Int) (r : Nat) : Int := if (rq R r).2.2 = -1 then (if bh R then rO R r else -1) else rW R r
theorem ct_wins {r : Nat} (hd : 2 ≤ dp) (hC : Cl (I, Z) w s) (hI : CI I w R) (hr : r < rC R) (h : Q (.inl (some (iV (vWins R r)))) (I, Z)) : T G dp 0 0 M8_wins [rV (some 1), iV r, rV (some (ec w r))] (I, Z) Q := by
  have hc := hI.1.c
  have hcv := hI.2.1.2.2.2.2.2 r hr
  have hct := hC.now.2.2.2 r (by omega)
  have ed := hI.dn hr
  unfold vWins at h
  refine T8_wins (s8_wins_0 (by omega) (am_ow hC.o) hC.p6 (am_ow hC.audit.1) fun Q' hK => ct_isDoneV hC.audit (by omega) ed (hK _ _ ?_))
  refine s8_wins_8 (by omega) (am_ow hC.o) hC.p6 hC.p4 (am_ow hC.audit.1) (am_ow hct.2.1) (fun c1 Q' hK => ct_isByHand (by omega) hC hI (hK _ _ ?_)) (fun c1 => ?_)
  · have q : (rq R r).2.2 = -1 := by by_cases q : (rq R r).2.2 = -1; exact q; rw [if_neg q] at c1; omega
    rw [if_pos q] at h
    refine s8_wins_27 (am_ow hct.2.1) (fun c2 => ?_) (fun c2 => ?_)
    · have q2 : ¬ bh R = true := fun q2 => by rw [if_pos q2] at c2; omega
      rw [if_neg q2] at h; exact h
    · have q2 : bh R = true := by by_cases q2 : bh R = true; exact q2; rw [if_neg q2] at c2; omega
      rw [if_pos q2] at h
      dsimp only
      rw [hcv.2.2.2.1]; exact h
  · have q : ¬ (rq R r).2.2 = -1 := fun q => c1 (by rw [if_pos q])
    rw [if_neg q] at h
    dsimp only
    rw [hcv.2.2.1]; exact h
end
