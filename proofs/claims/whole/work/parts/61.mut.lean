/-! THE CLASS: acts -/
/-- what one act's undoing makes of the row behind it is the row before it -/
def Und (A : Int × Int × Int × Int) (S P : Nat → Int) : Prop := (A.1 = 0 ∧ Rsm (rs1 S 6 A.2.2.2) P) ∨ (A.1 = 1 ∧ ∃ r b : Nat, A.2.1 = r ∧ A.2.2.1 = b ∧ r < rC S ∧ b < rN S ∧ Rsm (rs1 S (614 + 3 * b + r) A.2.2.2) P) ∨ (A.1 = 2 ∧ ∃ r : Nat, A.2.1 = r ∧ r < rC S ∧ Rsm (rs1 S (8 + 2 * r + 1) A.2.2.2) P) ∨ (A.1 = 3 ∧ ∃ q : Nat, A.2.1 = q ∧ q < 3 ∧ Rsm (rs1 S (2 + q) A.2.2.2) P)
theorem rs1_sm {R R' : Nat → Int} {k : Nat} {v : Int} (h : Rsm R R') : Rsm (rs1 R k v) (rs1 R' k v) := fun j hj => by
  by_cases e : j = k
  · subst e; rw [rs1_at, rs1_at]
  · rw [rs1_ne e, rs1_ne e]; exact h j hj
theorem Und.sm {A : Int × Int × Int × Int} {S S' P P' : Nat → Int} (h : Und A S P) (hs : Rsm S S') (hp : Rsm P P') : Und A S' P' := by
  have tr : ∀ k v, Rsm (rs1 S k v) P → Rsm (rs1 S' k v) P' := fun k v q => (rs1_sm hs).symm.trans (q.trans hp)
  rcases h with ⟨a, q⟩ | ⟨a, r, b, e1, e2, l1, l2, q⟩ | ⟨a, r, e1, l1, q⟩ | ⟨a, k, e1, l1, q⟩
  · exact Or.inl ⟨a, tr _ _ q⟩
  · exact Or.inr (Or.inl ⟨a, r, b, e1, e2, by rw [hs.s6.cc]; exact l1, by rw [hs.s6.nn]; exact l2, tr _ _ q⟩)
  · exact Or.inr (Or.inr (Or.inl ⟨a, r, e1, by rw [hs.s6.cc]; exact l1, tr _ _ q⟩))
  · exact Or.inr (Or.inr (Or.inr ⟨a, k, e1, l1, tr _ _ q⟩))
def UndL (n : Nat) (A : Nat → Int × Int × Int × Int) (P : Nat → Nat → Int) (R : Nat → Int) : Prop := ∀ j, j < n → RV (P j) ∧ Und (A j) (if j + 1 < n then P (j + 1) else R) (P j)
theorem UndL.push {n : Nat} {A : Nat → Int × Int × Int × Int} {P : Nat → Nat → Int} {R R' : Nat → Int} {e : Int × Int × Int × Int} (h : UndL n A P R) (hn : n ≤ 12) (hR : RV R) (he : Und e R' R) : UndL (psn n) (psh A n e) (psh P n R) R' := by
  intro j hj
  unfold psn at hj ⊢
  unfold psh
  by_cases q : n < 12
  · rw [if_pos q] at hj
    rw [if_pos q, if_pos q, if_pos q]
    try dsimp only
    by_cases ej : j = n
    · subst ej
      rw [if_pos rfl, if_pos rfl, if_neg (by omega)]
      exact ⟨hR, he⟩
    · have := h j (by omega)
      rw [if_neg ej, if_neg ej, if_pos (by omega)]
      by_cases e2 : j + 1 = n
      · rw [if_neg (by omega)] at this
        rw [if_pos e2]; exact this
      · rw [if_pos (by omega)] at this
        rw [if_neg e2]; exact this
  · rw [if_neg q] at hj
    have e12 : n = 12 := by omega
    subst e12
    rw [if_neg q, if_neg q, if_neg q]
    try dsimp only
    by_cases ej : j = 11
    · subst ej
      rw [if_pos rfl, if_pos rfl, if_neg (by omega)]
      exact ⟨hR, he⟩
    · have := h (j + 1) (by omega)
      rw [if_neg ej, if_neg ej, if_pos (by omega)]
      by_cases e2 : j + 1 = 11
      · rw [if_neg (by omega)] at this
        rw [if_pos e2]; exact this
      · rw [if_pos (by omega)] at this
        rw [if_neg e2]; exact this
/-- the class at a row R with n acts before it -/
def CX (I : Nat → Nat → Int) (w : Nat) (R : Nat → Int) (n : Nat) (P : Nat → Nat → Int) : Prop := CI I w R ∧ ∃ A, AcV I 71 n A ∧ UndL n A P R
theorem CX.sm {I : Nat → Nat → Int} {w n : Nat} {R R' : Nat → Int} {P : Nat → Nat → Int} (h : CX I w R n P) (hs : Rsm R R') : CX I w R' n P := by
  obtain ⟨h1, A, h2, h3⟩ := h
  refine ⟨h1.sm hs, A, h2, fun j hj => ⟨(h3 j hj).1, ?_⟩⟩
  have := (h3 j hj).2
  by_cases e : j + 1 < n
  · rw [if_pos e] at this ⊢; exact this
  · rw [if_neg e] at this ⊢; exact this.sm hs (fun _ _ => rfl)
theorem AuV.same {I I' : Nat → Nat → Int} {a k : Nat} {z : Int} {R : Nat → Int} (h : AuV I a R z k) (hR : RV R) (hs : ∀ x, a ≤ x → x < a + 12 → I' x = I x) : AuV I' a R z k := by
  have hc := hR.c
  obtain ⟨h1, h2, h3, h4, h5, h6, h7⟩ := h
  unfold AuV
  rw [hs a (by omega) (by omega), hs (a + 10) (by omega) (by omega), hs (a + 11) (by omega) (by omega)]
  exact ⟨h1, h2, h3, h4, fun r hr => (h5 r hr).same (hs _ (by omega) (by omega)) (hs _ (by omega) (by omega)) (by rw [hs _ (by omega) (by omega)]), h6, h7⟩
theorem CI.same {I I' : Nat → Nat → Int} {w : Nat} {R : Nat → Int} (h : CI I w R) (h1 : ∀ x, w ≤ x → x < w + 21 → I' x = I x) (h2 : ∀ x, 47 ≤ x → x < 59 → I' x = I x) : CI I' w R := ⟨h.1, h.2.1.same h.1 h1, h.2.2.same h.1 h2⟩
theorem CX.same {I I' : Nat → Nat → Int} {w n : Nat} {R : Nat → Int} {P : Nat → Nat → Int} (h : CX I w R n P) (h1 : ∀ x, w ≤ x → x < w + 21 → I' x = I x) (h2 : ∀ x, 47 ≤ x → x < 59 → I' x = I x) (h3 : ∀ x, 71 ≤ x → x < 76 → I' x = I x) : CX I' w R n P := by
  obtain ⟨a, A, b, c⟩ := h
  exact ⟨a.same h1 h2, A, b.same fun x q1 q2 => h3 x q1 (by omega), c⟩
section
variable {G : am_G} {dp : Nat} {Q : am_Q} {w s n : Nat} {R : Nat → Int} {P : Nat → Nat → Int} {Z : (Nat → Nat → Option Nat) × (Nat → Nat × Nat) × Nat × Bool} {I : Nat → Nat → Int}
/-- one act is noted, the row changes: what stands then -/
def kD (R : Nat → Int) (i : Int) : Nat := goes R (dw R (R 5)) (min (kN R + i) (R 4)) (300 - kN R) (kN R)
theorem kD_at {R : Nat → Int} {i : Int} : kN R ≤ kD R i ∧ kD R i ≤ 300 ∧ ∀ j, j < kD R i → pnd R (dw R (R 5)) j (rC R) ≠ 0 ∧ 0 < R 1 := by
  have h1 := goes_le (R := R) (d := dw R (R 5)) (most := min (kN R + i) (R 4)) (300 - kN R) (kN R)
  have h2 := kN_le R
  have e1 : kD R i = goes R (dw R (R 5)) (min (kN R + i) (R 4)) (300 - kN R) (kN R) := rfl
  have e2 : kN R = goes R (dw R (R 5)) (R 6) 300 0 := rfl
  refine ⟨by omega, by omega, fun j hj => ?_⟩
  by_cases q : j < kN R
  · exact (goes_at (R := R) (d := dw R (R 5)) (most := R 6) 300 0 j (by omega) (by omega)).2
  · exact (goes_at (R := R) (d := dw R (R 5)) (most := min (kN R + i) (R 4)) (300 - kN R) (kN R) j (by omega) (by omega)).2
theorem q_draw {i : Int} (hd : 6 ≤ dp) (hC : Cl (I, Z) w s) (hX : CX I w R n P) (h1 : ¬ (1 ≤ i ∧ i ≤ 300) → Q (.inr 0) (I, Z)) (h0 : 1 ≤ i → i ≤ 300 → ∀ I' : Nat → Nat → Int, (∀ x, x < 5 ∨ 76 ≤ x → I' x = I x) → (kD R i = kN R → CX I' w R n P → Q (.inl (some (iV (-1)))) (I', Z)) ∧ (kD R i ≠ kN R → CX I' w (rs1 R 6 (kD R i)) (psn n) (psh P n R) → Q (.inl (some (iV ((kD R i : Int) - kN R)))) (I', Z))) : T G dp 4 24 M8_draw [rV (some 1), iV i] (I, Z) Q := by
  obtain ⟨hI, A, hA, hU⟩ := hX
  have hR := hI.1
  have hw := hC.ws
  have hk := kN_le R
  have hm := hR.2.2.2.2.1
  have hkd := kD_at (R := R) (i := i)
  have e5 := hI.k5
  have e4 : I (w + 2) 2 = R 4 := hI.2.1.2.2.2.2.1.2.2
  refine T8_draw (s8_draw_0 (n_p3 := 3) (by omega) (by omega) (by omega) (am_ow hC.o) hC.p6 (am_ow hC.audit.1) hC.p4 (am_ow hC.now.1) hC.now.2.1.2 (am_rw hC.now.2.2.1.2) (fun c1 => hC.nx0 (h1 (by omega))) (fun c1 c2 Q' hK => ?_) (fun c1 c2 => hC.nx0 (h1 (by omega))))
  dsimp only at hK ⊢
  rw [e5] at hK ⊢
  rw [show (2 : Int).toNat = 2 from rfl, e4, wr_of (z := (kN R : Int) + i) (by omega) (by omega)]
  refine ct_goOn (k := kN R) (R := R) (z := R 5) (by omega) hC.audit hC.now hI.2.1 hR (by omega) hk hI.2.2 (fun I1 g1 g2 => hK _ ?_)
  have g2 : AuV I1 47 R (R 5) (kD R i) := g2
  have hv1 : ElV I1 w R := hI.2.1.same hR fun x q1 q2 => g1 x (by omega)
  have e51 : I1 47 5 = kD R i := g2.1
  have fr1 : ∀ x, x < 5 ∨ 76 ≤ x → I1 x = I x := fun x hx => g1 x (by omega)
  refine s8_draw_56 (by omega) (am_ow hC.o) hC.p6 (am_ow hC.audit.1) hC.p8 hC.p4 (am_ow hC.now.1) (am_ow hC.acts.1) (fun c3 Q' hK => ?_) (fun c3 => ?_)
  · dsimp only at c3 hK ⊢
    rw [e51, wr_of (by omega) (by omega)] at c3 hK
    have ne : kD R i ≠ kN R := by omega
    rw [hv1.2.2.2.1]
    refine ct_add (n := n) (A := A) (by omega) hC.z hC.acts (hA.same fun x q1 q2 => g1 x (by omega)) (fun I2 k1 k2 => hK _ ?_)
    have e52 : I2 47 5 = kD R i := by rw [k1 47 (by omega)]; exact e51
    refine s8_draw_89 (am_ow hC.o) hC.p4 hC.p6 (am_ow hC.audit.1) hC.now.1 ?_
    dsimp only
    rw [e52]
    have hv2 : ElV I2 w R := hv1.same hR fun x q1 q2 => k1 x (by omega)
    have hpos : kD R i = 0 ∨ 0 < R 1 := by
      by_cases q : kD R i = 0
      · exact Or.inl q
      · exact Or.inr (hkd.2.2 0 (by omega)).2
    have hR' : RV (rs1 R 6 (kD R i)) := hR.head (by omega) (by omega) (fun q => by omega) (fun q => by omega) (fun q => by omega) (by omega) (fun _ => by omega) (fun r q => by omega) (fun r q => by omega)
    refine (h0 (by omega) c2 _ (fun x hx => ?_)).2 ne ⟨⟨hR', hv2.drawn hR, ?_⟩, psh A n (0, 0, 0, R 6), ?_, hU.push hA.2.1 hR (Or.inl ⟨rfl, fun j hj => ?_⟩)⟩
    · rw [u2r (by omega), k1 x (by omega)]; exact fr1 x hx
    · rw [kN_back hR hkd.2.1 hkd.2.2, rs1_ne (by omega)]
      exact ((g2.same hR fun x q1 q2 => k1 x (by omega)).same hR fun x q1 q2 => u2r (by omega)).s6 Rs6.rs1 hR hpos
    · exact k2.same fun x q1 q2 => u2r (by omega)
    · show R j = rs1 (rs1 R 6 (kD R i)) 6 (R 6) j
      by_cases e : j = 6
      · subst e; rw [rs1_at]
      · rw [rs1_ne e, rs1_ne e]
  · dsimp only at c3
    rw [e51, wr_of (by omega) (by omega)] at c3
    have eq : kD R i = kN R := by omega
    rw [eq] at g2
    exact (h0 (by omega) c2 I1 fr1).1 eq ⟨⟨hR, hv1, g2⟩, A, hA.same fun x q1 q2 => g1 x (by omega), hU⟩
end
