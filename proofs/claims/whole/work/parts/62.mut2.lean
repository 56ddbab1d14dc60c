/-! THE CLASS: papers, ways, rules, undoing, images -/
theorem rs1_back {R : Nat → Int} {k : Nat} {v : Int} : Rsm (rs1 (rs1 R k v) k (R k)) R := fun j _ => by
  by_cases e : j = k
  · subst e; rw [rs1_at]
  · rw [rs1_ne e, rs1_ne e]
theorem rs1_c {R : Nat → Int} {k : Nat} {v : Int} (h : k ≠ 0) : rC (rs1 R k v) = rC R := rC_of (rs1_ne (fun q => h q.symm))
theorem rs1_n {R : Nat → Int} {k : Nat} {v : Int} (h : k ≠ 1) : rN (rs1 R k v) = rN R := rN_of (rs1_ne (fun q => h q.symm))
section
variable {G : am_G} {dp : Nat} {Q : am_Q} {w s n : Nat} {R : Nat → Int} {P : Nat → Nat → Int} {Z : (Nat → Nat → Option Nat) × (Nat → Nat × Nat) × Nat × Bool} {I : Nat → Nat → Int}
theorem q_paper {i j v : Int} (hd : 8 ≤ dp) (hC : Cl (I, Z) w s) (hX : CX I w R n P) (h1 : (¬ isR R j ∨ ¬ isB R i) → Q (.inr 1) (I, Z)) (h2 : ∀ r : Nat, j = r → r < rC R → isB R i → ¬ (-2 ≤ v ∧ v < R (8 + 2 * r)) → Q (.inr 0) (I, Z)) (h0 : ∀ r b : Nat, j = r → r < rC R → r < 3 → i = b → b < rN R → b < 200 → -2 ≤ v → v < R (8 + 2 * r) → ∀ I' : Nat → Nat → Int, (∀ x, x < 5 ∨ 76 ≤ x → I' x = I x) → CX I' w (rs1 R (614 + 3 * b + r) v) (psn n) (psh P n R) → Q (.inl (some (iV (rP_ R r b)))) (I', Z)) : T G dp 4 24 M8_paper [rV (some 1), iV i, iV j, iV v] (I, Z) Q := by
  obtain ⟨hI, A, hA, hU⟩ := hX
  have hR := hI.1
  have hw := hC.ws
  refine T8_paper (s8_paper_0 (by omega) (by omega) (by omega) (am_ow hC.o) fun Q' hK hE => ct_contestOf hC hI (fun r er hr hr3 => hK _ _ ?_) (fun q => hE _ _ (h1 (Or.inl q))))
  subst er
  refine s8_paper_5 (by omega) (by omega) (by omega) (am_ow hC.o) fun Q' hK hE => ct_seekBallot hC hI (fun b eb hb hb2 => hK _ ?_) (fun q => hE _ _ (h1 (Or.inr q)))
  subst eb
  have hct := (hC.now.2.2.2 r hr3).2
  have hcv := hI.2.1.2.2.2.2.2 r hr
  have hn := hR.n
  have isb : isB R (b : Int) := ⟨by omega, by omega⟩
  have e5 : I (ec w r) 5 = R (8 + 2 * r) := hcv.1
  have ep : I (ec w r + 2) b = rP_ R r b := (hcv.2.2.2.2.2.2 b hb).2.1
  refine s8_paper_12 (n_p1 := 200) (by omega) (by omega) (by omega) (am_ow hct.1) hct.2.1.2.1 (am_rw hct.2.2.2.1) (am_ow hC.o) hC.p8 (am_ow hC.acts.1) (fun c1 => hC.nx0 (h2 r rfl hr isb (by omega))) (fun c1 c2 Q' hK => ?_) (fun c1 c2 => hC.nx0 (h2 r rfl hr isb (by dsimp only at c2; rw [e5] at c2; omega)))
  dsimp only at c2 hK ⊢
  rw [tnc, ep] at hK ⊢
  rw [e5] at c2
  refine ct_add (n := n) (A := A) (by omega) hC.z hC.acts hA (fun I1 k1 k2 => hK _ ?_)
  have hv1 : ElV I1 w R := hI.2.1.same hR fun x q1 q2 => k1 x (by omega)
  have hR' := hR.paper (v := v) hr hb ⟨by omega, c2⟩
  refine s8_paper_59 (by omega) (am_ow hC.o) hC.p4 (am_ow hC.now.1) fun Q' hK => ct_show (by omega) hC.now hR hv1 hr hb ⟨by omega, c2⟩ (fun I2 l1 l2 => hK _ ?_)
  refine s8_paper_69 (by omega) (am_ow hC.o) fun Q' hK => ct_replay (by omega) hC hR' l2 (fun I3 m1 m2 => hK _ (s8_paper_73 ?_))
  refine h0 r b rfl hr hr3 rfl hb hb2 (by omega) c2 I3 (fun x hx => ?_) ⟨⟨hR', l2.same hR' fun x q1 q2 => m1 x (by omega), m2⟩, psh A n (1, r, b, rP_ R r b), k2.same (fun x q1 q2 => ?_), hU.push hA.2.1 hR (Or.inr (Or.inl ⟨rfl, r, b, rfl, rfl, by rw [rs1_c (by omega)]; exact hr, by rw [rs1_n (by omega)]; exact hb, rs1_back⟩))⟩
  · rw [m1 x (by omega), l1 x (by omega), k1 x (by omega)]
  · rw [m1 x (by omega), l1 x (by omega)]
theorem q_way {i v : Int} (hd : 8 ≤ dp) (hC : Cl (I, Z) w s) (hX : CX I w R n P) (h1 : ¬ isR R i → Q (.inr 1) (I, Z)) (h2 : isR R i → ¬ (v = 0 ∨ v = 1) → Q (.inr 0) (I, Z)) (h0 : ∀ r : Nat, i = r → r < rC R → r < 3 → v = 0 ∨ v = 1 → ∀ I' : Nat → Nat → Int, (∀ x, x < 5 ∨ 76 ≤ x → I' x = I x) → CX I' w (rs1 R (8 + 2 * r + 1) v) (psn n) (psh P n R) → Q (.inl (some (iV (rY R r)))) (I', Z)) : T G dp 4 24 M8_way [rV (some 1), iV i, iV v] (I, Z) Q := by
  obtain ⟨hI, A, hA, hU⟩ := hX
  have hR := hI.1
  have hw := hC.ws
  have hc := hR.c
  refine T8_way (s8_way_0 (by omega) (by omega) (by omega) (am_ow hC.o) fun Q' hK hE => ct_contestOf hC hI (fun r er hr hr3 => hK _ _ ?_) (fun q => hE _ _ (h1 q)))
  subst er
  have hct := (hC.now.2.2.2 r hr3).2
  have hcv := hI.2.1.2.2.2.2.2 r hr
  have e6 : I (ec w r) 6 = rY R r := hcv.2.1
  have go : v = 0 ∨ v = 1 → ∀ Q' : am_Q, (∀ m' : am_M, X G dp (4 - 1) (24 - 6) M8_way 44 [some (rV (some 1)), some (iV r), some (iV v), some (rV (some (ec w r))), some (iV (I (ec w r) 6))] [] m' Q → Q' (.inl none) m') → T G (dp - 1) 0 0 M0_add [rV (some 71), iV 2, iV r, iV 0, iV (I (ec w r) 6)] (I, Z) Q' := fun hv01 Q' hK => by
    rw [e6] at hK ⊢
    refine ct_add (n := n) (A := A) (by omega) hC.z hC.acts hA (fun I1 k1 k2 => hK _ ?_)
    have hv1 : ElV I1 w R := hI.2.1.same hR fun x q1 q2 => k1 x (by omega)
    have hR' : RV (rs1 R (8 + 2 * r + 1) v) := hR.head (by omega) (by omega) (fun q => by omega) (fun q => by omega) (fun q => by omega) (by omega) (fun q => by omega) (fun r q => by omega) (fun r q => hv01)
    refine s8_way_44 (by omega) hct.1 (am_ow hC.o) fun Q' hK => ?_
    refine ct_replay (by omega) hC hR' (hv1.way hR hr) (fun I3 m1 m2 => hK _ (s8_way_53 ?_))
    refine h0 r rfl hr hr3 hv01 I3 (fun x hx => ?_) ⟨⟨hR', (hv1.way hR hr).same hR' fun x q1 q2 => m1 x (by omega), m2⟩, psh A n (2, r, 0, rY R r), k2.same (fun x q1 q2 => ?_), hU.push hA.2.1 hR (Or.inr (Or.inr (Or.inl ⟨rfl, r, rfl, by rw [rs1_c (by omega)]; exact hr, rs1_back⟩)))⟩
    · rw [m1 x (by omega), u2r (by unfold ec; omega)]; exact k1 x (by omega)
    · rw [m1 x (by omega), u2r (by unfold ec; omega)]
  exact s8_way_5 (by omega) (by omega) (by omega) (am_ow hct.1) (am_ow hC.o) hC.p8 (am_ow hC.acts.1) hC.p8 (am_ow hC.acts.1) (fun c1 Q' hK => go (Or.inl c1) Q' hK) (fun c1 c2 Q' hK => go (Or.inr c2) Q' hK) (fun c1 c2 => hC.nx0 (h2 ⟨by omega, by omega⟩ (fun q => q.elim c1 c2)))
def lea (i : Int) : Int := if i = 1 then 101 else 1
def mos (i : Int) : Int := if i = 0 then 500 else 300
theorem ct_leastOf {m : am_M} {i : Int} (h : Q (.inl (some (iV (lea i)))) m) : T G dp 0 0 M8_leastOf [iV i] m Q := by
  unfold lea at h
  refine T8_leastOf (s8_leastOf_0 (fun c => ?_) (fun c => ?_))
  · rw [if_neg c] at h; exact h
  · rw [if_pos c] at h; exact h
theorem ct_mostOf {m : am_M} {i : Int} (h : Q (.inl (some (iV (mos i)))) m) : T G dp 0 0 M8_mostOf [iV i] m Q := by
  unfold mos at h
  refine T8_mostOf (s8_mostOf_0 (fun c _ => ?_) (fun c _ => ?_) (fun c => ?_))
  · rw [if_neg c] at h; exact h
  · rw [if_neg c] at h; exact h
  · rw [if_pos c] at h; exact h
theorem q_rule {i v : Int} (hd : 8 ≤ dp) (hC : Cl (I, Z) w s) (hX : CX I w R n P) (h1 : ¬ (0 ≤ i ∧ i ≤ 2) → Q (.inr 1) (I, Z)) (h2 : 0 ≤ i → i ≤ 2 → ¬ (lea i ≤ v ∧ v ≤ mos i) → Q (.inr 0) (I, Z)) (h0 : ∀ q : Nat, i = q → q < 3 → lea i ≤ v → v ≤ mos i → ∀ I' : Nat → Nat → Int, (∀ x, x < 5 ∨ 76 ≤ x → I' x = I x) → CX I' w (rs1 R (2 + q) v) (psn n) (psh P n R) → Q (.inl (some (iV (R (2 + q))))) (I', Z)) : T G dp 4 24 M8_rule [rV (some 1), iV i, iV v] (I, Z) Q := by
  obtain ⟨hI, A, hA, hU⟩ := hX
  have hR := hI.1
  have hw := hC.ws
  refine T8_rule (s8_rule_0 (by omega) (by omega) (by omega) (fun c1 => hC.nx (h1 (by omega))) (fun c1 c2 Q' hK => ct_leastOf (hK _ _ ?_)) (fun c1 c2 => hC.nx (h1 (by omega))))
  refine s8_rule_25 (by omega) (by omega) (by omega) (fun c3 => hC.nx0 (h2 (by omega) c2 (by omega))) (fun c3 Q' hK => ct_mostOf (hK _ _ ?_))
  obtain ⟨q, rfl⟩ : ∃ q : Nat, i = q := ⟨i.toNat, by omega⟩
  have hq : q < 3 := by omega
  have er : I (w + 2) q = R (2 + q) := by
    have := hI.2.1.2.2.2.2.1
    rcases (show q = 0 ∨ q = 1 ∨ q = 2 by omega) with e | e | e <;> subst e
    · exact this.1
    · exact this.2.1
    · exact this.2.2
  refine s8_rule_33 (n_p2 := 3) (by omega) (by omega) (by omega) (am_ow hC.o) hC.p4 (am_ow hC.now.1) hC.now.2.1.2 (am_rw hC.now.2.2.1.2) hC.p8 (am_ow hC.acts.1) (fun c4 Q' hK => ?_) (fun c4 => hC.nx0 (h2 (by omega) c2 (by omega)))
  dsimp only at hK ⊢
  rw [tnc, er] at hK ⊢
  refine ct_add (n := n) (A := A) (by omega) hC.z hC.acts hA (fun I1 k1 k2 => hK _ ?_)
  have hv1 : ElV I1 w R := hI.2.1.same hR fun x q1 q2 => k1 x (by omega)
  have hR' : RV (rs1 R (2 + q) v) := hR.head (by omega) (by omega) (fun e => by unfold lea mos at *; rw [if_neg (by omega)] at c3; rw [if_pos (by omega)] at c4; omega) (fun e => by unfold lea mos at *; rw [if_pos (by omega)] at c3; rw [if_neg (by omega)] at c4; omega) (fun e => by unfold lea mos at *; rw [if_neg (by omega)] at c3; rw [if_neg (by omega)] at c4; omega) (by omega) (fun _ => by omega) (fun r e => by omega) (fun r e => by omega)
  refine s8_rule_68 (n_p2 := 3) (by omega) (am_ow hC.o) hC.p4 (am_ow hC.now.1) hC.now.2.1.2 hC.now.2.2.1.2 fun Q' hK => ?_
  refine ct_replay (by omega) hC hR' (hv1.rule hR hq) (fun I3 m1 m2 => hK _ (s8_rule_82 ?_))
  refine h0 q rfl hq (by omega) c4 I3 (fun x hx => ?_) ⟨⟨hR', (hv1.rule hR hq).same hR' fun x q1 q2 => m1 x (by omega), m2⟩, psh A n (3, q, 0, R (2 + q)), k2.same (fun x q1 q2 => ?_), hU.push hA.2.1 hR (Or.inr (Or.inr (Or.inr ⟨rfl, q, rfl, hq, rs1_back⟩)))⟩
  · rw [m1 x (by omega), u2r (by omega)]; exact k1 x (by omega)
  · rw [m1 x (by omega), u2r (by omega)]
end
