/-! THE CLASS: simple questions -/
section
variable {G : am_G} {dp : Nat} {Q : am_Q} {w s : Nat} {R : Nat → Int} {Z : (Nat → Nat → Option Nat) × (Nat → Nat × Nat) × Nat × Bool} {I : Nat → Nat → Int}
/-- what count() tells; none: no such count -/
def vCount (R : Nat → Int) (n : Nat) (tp : Int) (i : Int) : Option Int := if i = 0 then some (R 0) else if i = 1 then some (R 1) else if i = 2 then some (R 2) else if i = 3 then some (R 3) else if i = 4 then some (R 4) else if i = 5 then some (kN R) else if i = 6 then some (unl (dw R (R 5)) (kN R)) else if i = 7 then some (R 0 - pq R) else if i = 8 then some (if (pq R : Int) = 0 then 1 else 0) else if i = 9 then some (if bh R then 1 else 0) else if i = 10 then some n else if i = 11 then some tp else none
theorem pnd_le (R d : Nat → Int) (kk : Nat) : ∀ n : Nat, pnd R d kk n ≤ n
  | 0 => Nat.le_refl _
  | n + 1 => by
    have := pnd_le R d kk n
    unfold pnd
    split <;> omega
theorem q_count {i : Int} {n : Nat} {A : Nat → Int × Int × Int × Int} (hd : 3 ≤ dp) (hC : Cl (I, Z) w s) (hI : CI I w R) (hA : AcV I 71 n A) (h0 : ∀ v, vCount R n (I 1 1) i = some v → Q (.inl (some (iV v))) (I, Z)) (h1 : vCount R n (I 1 1) i = none → Q (.inr 1) (I, Z)) : T G dp 4 24 M8_count [rV (some 1), iV i] (I, Z) Q := by
  have hc := hI.1.c
  have hv := hI.2.1
  have e7 : I 47 7 = pq R := hI.2.2.2.2.1
  have hpq := pnd_le R (dw R (R 5)) (kN R) (rC R)
  have epq : pq R = pnd R (dw R (R 5)) (kN R) (rC R) := rfl
  have z01 : ∀ (z : Int) (pc : Nat) (c : Prop) [Decidable c], z = (if c then 1 else 0) → ((z = 0 → Q (.inl (some (iV 0))) (I, Z)) → (¬ z = 0 → Q (.inl (some (iV 1))) (I, Z)) → X G dp 4 24 M8_count pc [some (rV (some 1)), some (iV i)] [iV z] (I, Z) Q) → Q (.inl (some (iV (if c then 1 else 0)))) (I, Z) → X G dp 4 24 M8_count pc [some (rV (some 1)), some (iV i)] [iV z] (I, Z) Q := fun z pc c _ hz hX hQ => hX (fun q => by
      rw [← hz, q] at hQ; exact hQ) (fun q => by
      have : z = 1 := by by_cases hcc : c; rw [if_pos hcc] at hz; exact hz; rw [if_neg hcc] at hz; omega
      rw [← hz, this] at hQ; exact hQ)
  unfold vCount at h0 h1
  refine T8_count (s8_count_0 (n_p4 := 3) (n_p6 := 3) (n_p8 := 3) (by omega) (by omega) (by omega) (am_ow hC.o) hC.p4 (am_ow hC.now.1) hC.p4 (am_ow hC.now.1) hC.p4 (am_ow hC.now.1) hC.now.2.1.2 (am_rw hC.now.2.2.1.2) hC.p4 (am_ow hC.now.1) hC.now.2.1.2 (am_rw hC.now.2.2.1.2) hC.p4 (am_ow hC.now.1) hC.now.2.1.2 (am_rw hC.now.2.2.1.2) hC.p6 (am_ow hC.audit.1) hC.p6 (am_ow hC.audit.1) hC.p4 (am_ow hC.now.1) hC.p6 (am_ow hC.audit.1) hC.p6 (am_ow hC.audit.1) hC.p6 hC.p4 (am_ow hC.audit.1) hC.p8 (am_ow hC.acts.1) (fun c => ?_) (fun c => ?_) (fun c => ?_) (fun c => ?_) (fun c => ?_) (fun c => ?_) (fun c => ?_) (fun c => ?_) (fun c Q' hK => ct_isOverV hC.audit e7 (hK _ _ (z01 _ 149 _ rfl s8_count_149 (h0 _ ?_)))) (fun c Q' hK => ct_isByHand (by omega) hC hI (hK _ _ (z01 _ 169 _ rfl s8_count_169 (h0 _ ?_)))) (fun c => ?_) (fun c => ?_) (fun c0 c1 c2 c3 c4 c5 c6 c7 c8 c9 c10 c11 => ?_))
  all_goals try subst c
  · dsimp only; rw [hv.1]; exact h0 _ rfl
  · dsimp only; rw [hv.2.1]; exact h0 _ rfl
  · dsimp only; rw [show (0 : Int).toNat = 0 from rfl, hv.2.2.2.2.1.1]; exact h0 _ rfl
  · dsimp only; rw [show (1 : Int).toNat = 1 from rfl, hv.2.2.2.2.1.2.1]; exact h0 _ rfl
  · dsimp only; rw [show (2 : Int).toNat = 2 from rfl, hv.2.2.2.2.1.2.2]; exact h0 _ rfl
  · dsimp only; rw [hI.k5]; exact h0 _ rfl
  · dsimp only; rw [hI.2.2.2.1]; exact h0 _ rfl
  · dsimp only; rw [e7, hv.1, wr_of (by omega) (by omega)]; exact h0 _ rfl
  · rfl
  · rfl
  · dsimp only; rw [hA.1]; exact h0 _ rfl
  · exact h0 _ rfl
  · exact hC.nx (h1 (by rw [if_neg c0, if_neg c1, if_neg c2, if_neg c3, if_neg c4, if_neg c5, if_neg c6, if_neg c7, if_neg c8, if_neg c9, if_neg c10, if_neg c11]))
def vRace (R : Nat → Int) (r : Nat) (i : Int) : Option Int := if i = 0 then some (R (8 + 2 * r)) else if i = 1 then some (rY R r) else if i = 2 then some (rW R r) else if i = 3 then some (rO R r) else if i = 4 then some (rG R r) else if i = 5 then some (if (rq R r).2.2 = -1 then 0 else 1) else if i = 6 then some ((rq R r).2.2) else if i = 7 then some (vWins R r) else none
theorem q_race {i j : Int} (hd : 4 ≤ dp) (hC : Cl (I, Z) w s) (hI : CI I w R) (h0 : ∀ (r : Nat) (v : Int), i = r → r < rC R → r < 3 → vRace R r j = some v → Q (.inl (some (iV v))) (I, Z)) (h1 : (¬ isR R i ∨ ∀ r, vRace R r j = none) → Q (.inr 1) (I, Z)) : T G dp 4 24 M8_race [rV (some 1), iV i, iV j] (I, Z) Q := by
  refine T8_race (s8_race_0 (by omega) (by omega) (by omega) (am_ow hC.o) fun Q' hK hE => ct_contestOf hC hI (fun r er hr hr3 => hK _ _ ?_) (fun q => hE _ _ (h1 (Or.inl q))))
  subst er
  have hcv := hI.2.1.2.2.2.2.2 r hr
  have hct := hC.now.2.2.2 r hr3
  have ed := hI.dn hr
  have h0 := fun v => h0 r v rfl hr hr3
  unfold vRace at h0 h1
  refine s8_race_5 (n_p3 := 3) (by omega) (by omega) (by omega) (am_ow hct.2.1) (am_ow hC.o) hC.p6 (am_ow hC.audit.1) hC.p6 (am_ow hC.audit.1) hC.audit.2.1.2.2.1 (am_rw hC.audit.2.2.1.2.2.1) (fun c => ?_) (fun c => ?_) (fun c => ?_) (fun c => ?_) (fun c => ?_) (fun c Q' hK => ct_isDoneV hC.audit hr3 ed (hK _ _ ?_)) (fun c => ?_) (fun c Q' hK => ct_wins (by omega) hC hI hr (hK _ _ (s8_race_110 (h0 _ ?_)))) (fun c0 c1 c2 c3 c4 c5 c6 c7 => ?_)
  all_goals try subst c
  · dsimp only; rw [hcv.1]; exact h0 _ rfl
  · dsimp only; rw [hcv.2.1]; exact h0 _ rfl
  · dsimp only; rw [hcv.2.2.1]; exact h0 _ rfl
  · dsimp only; rw [hcv.2.2.2.1]; exact h0 _ rfl
  · dsimp only; rw [hcv.2.2.2.2.1]; exact h0 _ rfl
  · have h5 := h0 _ rfl
    refine s8_race_85 (fun q => ?_) (fun q => ?_)
    · by_cases q2 : (rq R r).2.2 = -1
      · rw [if_pos q2] at h5; exact h5
      · rw [if_neg q2] at q; omega
    · by_cases q2 : (rq R r).2.2 = -1
      · rw [if_pos q2] at q; omega
      · rw [if_neg q2] at h5; exact h5
  · dsimp only; rw [tnc, ed]; exact h0 _ rfl
  · rfl
  · exact hC.nx (h1 (Or.inr fun _ => by rw [if_neg c0, if_neg c1, if_neg c2, if_neg c3, if_neg c4, if_neg c5, if_neg c6, if_neg c7]))
theorem q_risk {i : Int} (hd : 4 ≤ dp) (hC : Cl (I, Z) w s) (hI : CI I w R) (h0 : ∀ r : Nat, i = r → r < rC R → r < 3 → Q (.inl (some (lV (rq R r).2.1))) (I, Z)) (h1 : ¬ isR R i → Q (.inr 1) (I, Z)) : T G dp 4 24 M8_risk [rV (some 1), iV i] (I, Z) Q := by
  refine T8_risk (s8_risk_0 (by omega) (by omega) (by omega) (am_ow hC.o) fun Q' hK hE => ct_contestOf hC hI (fun r er hr hr3 => hK _ _ ?_) (fun q => hE _ _ (h1 q)))
  subst er
  refine s8_risk_5 (by omega) (am_ow hC.o) hC.p6 (am_ow hC.audit.1) fun Q' hK => ct_latestRisk (k := kN R) hC.audit hr3 hI.k5 (kN_le R) (hK _ _ (s8_risk_14 ?_))
  dsimp only
  rw [hI.cu hr]
  exact h0 r rfl hr hr3
def vRiskOf (R : Nat → Int) (r c : Nat) : Int := if c = rW R r then 0 else if rY R r = 0 then (rq R r).2.1 else (rq R r).1 c
theorem q_riskOf {i j : Int} (hd : 4 ≤ dp) (hC : Cl (I, Z) w s) (hI : CI I w R) (h0 : ∀ r c : Nat, i = r → r < rC R → r < 3 → j = c → c < rK R r → c < 4 → Q (.inl (some (lV (vRiskOf R r c)))) (I, Z)) (h1 : (¬ isR R i ∨ ∃ r : Nat, i = r ∧ ¬ isC R r j) → Q (.inr 1) (I, Z)) : T G dp 4 24 M8_riskOf [rV (some 1), iV i, iV j] (I, Z) Q := by
  refine T8_riskOf (s8_riskOf_0 (by omega) (by omega) (by omega) (am_ow hC.o) fun Q' hK hE => ct_contestOf hC hI (fun r er hr hr3 => hK _ _ ?_) (fun q => hE _ _ (h1 (Or.inl q))))
  subst er
  refine s8_riskOf_5 (by omega) (by omega) (by omega) (am_ow hC.o) fun Q' hK hE => ct_seekCandidate hC hI hr (fun c ec hc hc4 => hK _ ?_) (fun q => hE _ _ (h1 (Or.inr ⟨r, rfl, q⟩)))
  subst ec
  have h := h0 r c rfl hr hr3 rfl hc hc4
  have hcv := hI.2.1.2.2.2.2.2 r hr
  have hct := hC.now.2.2.2 r hr3
  have har := hC.audit.2.2.2 r hr3
  unfold vRiskOf at h
  refine s8_riskOf_12 (n_p2 := 3) (n_p3 := 4) (by omega) (am_ow hct.2.1) (am_ow hC.o) hC.p6 (am_ow hC.audit.1) hC.audit.2.1.1 (Or.inr rfl) (am_rw hC.audit.2.2.1.1) (fun _ _ => har.1.1) (fun _ _ => am_rw har.2.1) hC.p6 (am_ow hC.audit.1) (fun c1 c2 => ?_) (fun c1 c2 Q' hK => ct_latestRisk (k := kN R) hC.audit hr3 hI.k5 (kN_le R) (hK _ _ (s8_riskOf_37 ?_))) (fun c1 => ?_)
  all_goals dsimp only at *
  · rw [hcv.2.2.1] at c1
    rw [hcv.2.1] at c2
    rw [if_neg (by omega), if_neg c2] at h
    rw [tnc, hI.ow hr hc4]; exact h
  · rw [hcv.2.2.1] at c1
    rw [hcv.2.1] at c2
    rw [if_neg (by omega), if_pos c2] at h
    rw [hI.cu hr]; exact h
  · rw [hcv.2.2.1] at c1
    rw [if_pos (by omega)] at h
    exact h
theorem q_votes {i j g : Int} (hd : 4 ≤ dp) (hC : Cl (I, Z) w s) (hI : CI I w R) (h0 : ∀ r c : Nat, i = r → r < rC R → r < 3 → j = c → c < rK R r → c < 4 → Q (.inl (some (iV (if g = 0 then rT R r c else rH R r c)))) (I, Z)) (h1 : (¬ isR R i ∨ ∃ r : Nat, i = r ∧ ¬ isC R r j) → Q (.inr 1) (I, Z)) : T G dp 4 24 M8_votes [rV (some 1), iV i, iV j, iV g] (I, Z) Q := by
  refine T8_votes (s8_votes_0 (by omega) (by omega) (by omega) (am_ow hC.o) fun Q' hK hE => ct_contestOf hC hI (fun r er hr hr3 => hK _ _ ?_) (fun q => hE _ _ (h1 (Or.inl q))))
  subst er
  refine s8_votes_5 (by omega) (by omega) (by omega) (am_ow hC.o) fun Q' hK hE => ct_seekCandidate hC hI hr (fun c ec hc hc4 => hK _ ?_) (fun q => hE _ _ (h1 (Or.inr ⟨r, rfl, q⟩)))
  subst ec
  have h := h0 r c rfl hr hr3 rfl hc hc4
  have hcv := (hI.2.1.2.2.2.2.2 r hr).2.2.2.2.2.1 c hc4
  have hct := hC.now.2.2.2 r hr3
  refine s8_votes_14 (n_p1 := 4) (n_p2 := 4) (am_ow hct.2.1) hct.2.2.1.2.2.2.1 (am_rw hct.2.2.2.2.2.2.1) hct.2.2.1.2.2.2.2 (am_rw hct.2.2.2.2.2.2.2) (fun c1 => ?_) (fun c1 => ?_)
  · rw [if_pos c1] at h; rw [tnc]; dsimp only; rw [hcv.1]; exact h
  · rw [if_neg c1] at h; rw [tnc]; dsimp only; rw [hcv.2]; exact h
def vBallot (R : Nat → Int) (r b : Nat) (g : Int) : Option Int := if g = 0 then some (rV_ R r b) else if g = 1 then some (rP_ R r b) else if g = 2 then some (rM R r b) else none
theorem q_ballot {i j g : Int} (hd : 4 ≤ dp) (hC : Cl (I, Z) w s) (hI : CI I w R) (h0 : ∀ (r b : Nat) (v : Int), j = r → r < rC R → r < 3 → i = b → b < rN R → b < 200 → vBallot R r b g = some v → Q (.inl (some (iV v))) (I, Z)) (h1 : (¬ isR R j ∨ ¬ isB R i ∨ ∀ r b, vBallot R r b g = none) → Q (.inr 1) (I, Z)) : T G dp 4 24 M8_ballot [rV (some 1), iV i, iV j, iV g] (I, Z) Q := by
  refine T8_ballot (s8_ballot_0 (by omega) (by omega) (by omega) (am_ow hC.o) fun Q' hK hE => ct_contestOf hC hI (fun r er hr hr3 => hK _ _ ?_) (fun q => hE _ _ (h1 (Or.inl q))))
  subst er
  refine s8_ballot_5 (by omega) (by omega) (by omega) (am_ow hC.o) fun Q' hK hE => ct_seekBallot hC hI (fun b eb hb hb2 => hK _ ?_) (fun q => hE _ _ (h1 (Or.inr (Or.inl q))))
  subst eb
  have hcv := (hI.2.1.2.2.2.2.2 r hr).2.2.2.2.2.2 b hb
  have hct := hC.now.2.2.2 r hr3
  have h0 := fun v => h0 r b v rfl hr hr3 rfl hb hb2
  unfold vBallot at h0 h1
  refine s8_ballot_12 (n_p1 := 200) (n_p2 := 200) (n_p3 := 200) (by omega) (by omega) (am_ow hct.2.1) hct.2.2.1.1 (am_rw hct.2.2.2.1) hct.2.2.1.2.1 (am_rw hct.2.2.2.2.1) hct.2.2.1.2.2.1 (am_rw hct.2.2.2.2.2.1) (fun c => ?_) (fun c => ?_) (fun c => ?_) (fun c0 c1 c2 => ?_)
  all_goals try subst c
  · rw [tnc]; dsimp only; rw [hcv.1]; exact h0 _ rfl
  · rw [tnc]; dsimp only; rw [hcv.2.1]; exact h0 _ rfl
  · rw [tnc]; dsimp only; rw [hcv.2.2]; exact h0 _ rfl
  · exact hC.nx (h1 (Or.inr (Or.inr fun _ _ => by rw [if_neg c0, if_neg c1, if_neg c2])))
end
