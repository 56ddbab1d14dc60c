/-! ACTS: what comes of them, as a relation of code, value and what stands then -/
def yA (R0 : Nat → Int) (na : Nat) (P0 : Nat → Nat → Int) (A : Int → (Nat → Int) → Nat → (Nat → Nat → Int) → Prop) (B1 B2 : Prop) (k v : Int) (R' : Nat → Int) (n' : Nat) (P' : Nat → Nat → Int) : Prop := (k = 0 ∧ A v R' n' P') ∨ (k = 1 ∧ v = 0 ∧ B1 ∧ R' = R0 ∧ n' = na ∧ P' = P0) ∨ (k = 2 ∧ v = 0 ∧ B2 ∧ R' = R0 ∧ n' = na ∧ P' = P0)
def yN (A : Int → (Nat → Int) → Nat → (Nat → Nat → Int) → Prop) (B1 B2 : Prop) : Prop := (∀ v v' R R' n n' P P', A v R n P → A v' R' n' P' → v = v' ∧ R = R' ∧ n = n' ∧ P = P') ∧ (∀ v R n P, A v R n P → B1 → False) ∧ (∀ v R n P, A v R n P → B2 → False) ∧ (B1 → B2 → False)
theorem yA.fn {R0 : Nat → Int} {na : Nat} {P0 : Nat → Nat → Int} {A : Int → (Nat → Int) → Nat → (Nat → Nat → Int) → Prop} {B1 B2 : Prop} {k k' v v' : Int} {R R' : Nat → Int} {n n' : Nat} {P P' : Nat → Nat → Int} (h : yA R0 na P0 A B1 B2 k v R n P) (h' : yA R0 na P0 A B1 B2 k' v' R' n' P') (f : yN A B1 B2) : k = k' ∧ v = v' ∧ R = R' ∧ n = n' ∧ P = P' := by
  obtain ⟨f1, f2, f3, f4⟩ := f
  rcases h with ⟨a, b⟩ | ⟨a, c, b, d1, d2, d3⟩ | ⟨a, c, b, d1, d2, d3⟩ <;> rcases h' with ⟨a', b'⟩ | ⟨a', c', b', e1, e2, e3⟩ | ⟨a', c', b', e1, e2, e3⟩
  · exact ⟨a.trans a'.symm, f1 _ _ _ _ _ _ _ _ b b'⟩
  · exact (f2 _ _ _ _ b b').elim
  · exact (f3 _ _ _ _ b b').elim
  · exact (f2 _ _ _ _ b' b).elim
  · exact ⟨a.trans a'.symm, c.trans c'.symm, d1.trans e1.symm, d2.trans e2.symm, d3.trans e3.symm⟩
  · exact (f4 b b').elim
  · exact (f3 _ _ _ _ b' b).elim
  · exact (f4 b' b).elim
  · exact ⟨a.trans a'.symm, c.trans c'.symm, d1.trans e1.symm, d2.trans e2.symm, d3.trans e3.symm⟩
def yH (I : Nat → Nat → Int) (Z : (Nat → Nat → Option Nat) × (Nat → Nat × Nat) × Nat × Bool) (Q : am_Q) (w : Nat) (R0 : Nat → Int) (na : Nat) (P0 : Nat → Nat → Int) (A : Int → (Nat → Int) → Nat → (Nat → Nat → Int) → Prop) (B1 B2 : Prop) : Prop := ∀ k v R' n' P', yA R0 na P0 A B1 B2 k v R' n' P' → ∀ I', zU I I' → CX I' w R' n' P' → (k = 0 → I' 122 0 = v) → Q (.inl (some (iV k))) (I', Z)
section yHs
variable {I I1 : Nat → Nat → Int} {Z : (Nat → Nat → Option Nat) × (Nat → Nat × Nat) × Nat × Bool} {Q : am_Q} {w na n' : Nat} {R0 R' : Nat → Int} {P0 P' : Nat → Nat → Int} {A : Int → (Nat → Int) → Nat → (Nat → Nat → Int) → Prop} {B1 B2 : Prop} {c : Nat → Int → Prop} {v : Int} {k : Nat}
theorem yH.i (h : yH I Z Q w R0 na P0 A B1 B2) (hw : w = 5 ∨ w = 26) (ho : am_arw (I, Z) 122 101 1) (g : ∀ x, x < 5 ∨ 76 ≤ x → I1 x = I x) (hX : CX I1 w R' n' P') (a : A v R' n' P') : wi c Q (.inl (some (iV v))) (I1, Z) :=
  Or.inl ⟨v, rfl, ho, h 0 v R' n' P' (Or.inl ⟨rfl, a⟩) (u2 I1 122 0 v) (fun x h1 h2 => (u2_row I1 h1).trans (g x h2)) (hX.same (fun x h1 h2 => u2_row I1 (by omega)) (fun x h1 h2 => u2_row I1 (by omega)) (fun x h1 h2 => u2_row I1 (by omega))) (fun _ => u2_same I1 122 0 v)⟩
theorem yH.i1 (h : yH I Z Q w R0 na P0 A B1 B2) (hX : CX I w R0 na P0) (b : B1) (hc : c k 1) : wi c Q (.inr k) (I, Z) := Or.inr ⟨k, 1, rfl, hc, h 1 0 _ _ _ (Or.inr (Or.inl ⟨rfl, rfl, b, rfl, rfl, rfl⟩)) _ zU.rf hX (fun q => absurd q (by decide))⟩
theorem yH.i2 (h : yH I Z Q w R0 na P0 A B1 B2) (hX : CX I w R0 na P0) (b : B2) (hc : c k 2) : wi c Q (.inr k) (I, Z) := Or.inr ⟨k, 2, rfl, hc, h 2 0 _ _ _ (Or.inr (Or.inr ⟨rfl, rfl, b, rfl, rfl, rfl⟩)) _ zU.rf hX (fun q => absurd q (by decide))⟩
end yHs
section Acts
variable {R : Nat → Int} {na : Nat} {Pa : Nat → Nat → Int} {i j z : Int}
def A_draw (R : Nat → Int) (na : Nat) (Pa : Nat → Nat → Int) (i : Int) (v : Int) (R' : Nat → Int) (n' : Nat) (P' : Nat → Nat → Int) : Prop := (1 ≤ i ∧ i ≤ 300) ∧ ((kD R i = kN R ∧ v = -1 ∧ R' = R ∧ n' = na ∧ P' = Pa) ∨ (kD R i ≠ kN R ∧ v = (kD R i : Int) - kN R ∧ R' = Rd R (kD R i) ∧ n' = psn na ∧ P' = psh Pa na R))
def B_draw (i : Int) : Prop := ¬ (1 ≤ i ∧ i ≤ 300)
theorem y_draw : yN (A_draw R na Pa i) (B_draw i) False :=
  ⟨fun v v' R1 R2 n1 n2 P1 P2 a b => by
    rcases a with ⟨_, ⟨e, a1, a2, a3, a4⟩ | ⟨e, a1, a2, a3, a4⟩⟩ <;> rcases b with ⟨_, ⟨e', b1, b2, b3, b4⟩ | ⟨e', b1, b2, b3, b4⟩⟩
    · exact ⟨a1.trans b1.symm, a2.trans b2.symm, a3.trans b3.symm, a4.trans b4.symm⟩
    · exact absurd e e'
    · exact absurd e' e
    · exact ⟨a1.trans b1.symm, a2.trans b2.symm, a3.trans b3.symm, a4.trans b4.symm⟩, fun v R' n' P' a b => b a.1, fun _ _ _ _ _ q => q, fun _ q => q⟩
def A_paper (R : Nat → Int) (na : Nat) (Pa : Nat → Nat → Int) (i j z : Int) (v : Int) (R' : Nat → Int) (n' : Nat) (P' : Nat → Nat → Int) : Prop := ∃ r b : Nat, j = r ∧ r < rC R ∧ i = b ∧ b < rN R ∧ (-2 ≤ z ∧ z < R (8 + 2 * r)) ∧ v = rP_ R r b ∧ R' = rs1 R (614 + 3 * b + r) z ∧ n' = psn na ∧ P' = psh Pa na R
def B_paper (R : Nat → Int) (i j : Int) : Prop := ¬ isR R j ∨ ¬ isB R i
def C_paper (R : Nat → Int) (i j z : Int) : Prop := ∃ r : Nat, j = r ∧ r < rC R ∧ isB R i ∧ ¬ (-2 ≤ z ∧ z < R (8 + 2 * r))
theorem y_paper (hR : RV R) : yN (A_paper R na Pa i j z) (B_paper R i j) (C_paper R i j z) :=
  ⟨fun v v' R1 R2 n1 n2 P1 P2 ⟨r, b, e1, _, e2, _, _, a1, a2, a3, a4⟩ ⟨r', b', d1, _, d2, _, _, b1, b2, b3, b4⟩ => by
    have h1 := nat_eq e1 d1
    have h2 := nat_eq e2 d2
    subst h1; subst h2
    exact ⟨a1.trans b1.symm, a2.trans b2.symm, a3.trans b3.symm, a4.trans b4.symm⟩,
   fun v R' n' P' ⟨r, b, e1, h1, e2, h2, _⟩ c => c.elim (fun c => c (isR_of hR e1 h1)) (fun c => c (isB_of hR e2 h2)),
   fun v R' n' P' ⟨r, b, e1, h1, e2, h2, h3, _⟩ ⟨r', d1, _, _, c⟩ => by
    have h1 := nat_eq e1 d1
    subst h1
    exact c h3,
   fun b ⟨r, d1, h1, h2, _⟩ => b.elim (fun c => c (isR_of hR d1 h1)) (fun c => c h2)⟩
def A_way (R : Nat → Int) (na : Nat) (Pa : Nat → Nat → Int) (i z : Int) (v : Int) (R' : Nat → Int) (n' : Nat) (P' : Nat → Nat → Int) : Prop := ∃ r : Nat, i = r ∧ r < rC R ∧ (z = 0 ∨ z = 1) ∧ v = rY R r ∧ R' = rs1 R (8 + 2 * r + 1) z ∧ n' = psn na ∧ P' = psh Pa na R
def C_way (R : Nat → Int) (i z : Int) : Prop := isR R i ∧ ¬ (z = 0 ∨ z = 1)
theorem y_way (hR : RV R) : yN (A_way R na Pa i z) (B_r R i) (C_way R i z) :=
  ⟨fun v v' R1 R2 n1 n2 P1 P2 ⟨r, e1, _, _, a1, a2, a3, a4⟩ ⟨r', d1, _, _, b1, b2, b3, b4⟩ => by
    have h1 := nat_eq e1 d1
    subst h1
    exact ⟨a1.trans b1.symm, a2.trans b2.symm, a3.trans b3.symm, a4.trans b4.symm⟩,
   fun v R' n' P' ⟨r, e1, h1, _⟩ c => c (isR_of hR e1 h1), fun v R' n' P' ⟨r, e1, h1, h3, _⟩ c => c.2 h3, fun b c => b c.1⟩
def A_rule (R : Nat → Int) (na : Nat) (Pa : Nat → Nat → Int) (i z : Int) (v : Int) (R' : Nat → Int) (n' : Nat) (P' : Nat → Nat → Int) : Prop := ∃ q : Nat, i = q ∧ q < 3 ∧ (lea i ≤ z ∧ z ≤ mos i) ∧ v = R (2 + q) ∧ R' = rs1 R (2 + q) z ∧ n' = psn na ∧ P' = psh Pa na R
def B_rule (i : Int) : Prop := ¬ (0 ≤ i ∧ i ≤ 2)
def C_rule (i z : Int) : Prop := 0 ≤ i ∧ i ≤ 2 ∧ ¬ (lea i ≤ z ∧ z ≤ mos i)
theorem y_rule : yN (A_rule R na Pa i z) (B_rule i) (C_rule i z) :=
  ⟨fun v v' R1 R2 n1 n2 P1 P2 ⟨r, e1, _, _, a1, a2, a3, a4⟩ ⟨r', d1, _, _, b1, b2, b3, b4⟩ => by
    have h1 := nat_eq e1 d1
    subst h1
    exact ⟨a1.trans b1.symm, a2.trans b2.symm, a3.trans b3.symm, a4.trans b4.symm⟩,
   fun v R' n' P' ⟨r, e1, h1, _⟩ c => c ⟨by omega, by omega⟩, fun v R' n' P' ⟨r, e1, h1, h3, _⟩ c => c.2.2 h3, fun b c => b ⟨c.1, c.2.1⟩⟩
end Acts
