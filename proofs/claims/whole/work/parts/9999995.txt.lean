/-! TEXTS: an election told, a question asked -/
theorem Md.cp {I I' : Nat → Nat → Int} {P P' : Nat → Nat → Option Nat} {Z : (Nat → Nat × Nat) × Nat × Bool} (h : Md (I, P, Z)) (hp : P' 103 = P 103) : Md (I', P', Z) :=
  ⟨h.1, fun q hq => ⟨by show P' 103 q.1 = _; rw [hp]; exact (h.2 q hq).1, (h.2 q hq).2⟩⟩
/-- code, value, the election now and the other one, its row, how many past rows, how many bytes, the fault -/
abbrev zTR : Type := Int → Int → Nat → Nat → (Nat → Int) → Nat → Nat → Int → Prop
def zTN (E : zTR) : Prop := ∀ k v w s R n nt f k' v' w' s' R' n' nt' f', E k v w s R n nt f → E k' v' w' s' R' n' nt' f' → k = k' ∧ v = v' ∧ w = w' ∧ s = s' ∧ R = R' ∧ n = n' ∧ nt = nt' ∧ f = f'
def E_ele (tp : Nat → Int) (i : Int) (w s : Nat) (R : Nat → Int) (na nt : Nat) (f : Int) : zTR := fun k v w' s' R' n' nt' f' =>
  (k = 1 ∧ v = 0 ∧ ¬ (0 ≤ i ∧ i ≤ nt) ∧ w' = w ∧ s' = s ∧ R' = R ∧ n' = na ∧ nt' = nt ∧ f' = f) ∨
  (k = 0 ∧ ∃ x : Nat, i = x ∧ x ≤ nt ∧ (tTell tp x).1.2.1 ≠ 0 ∧ v = -10 - (tTell tp x).1.2.1 ∧ w' = w ∧ s' = s ∧ R' = R ∧ n' = na ∧ nt' = 0 ∧ f' = (tTell tp x).1.2.2) ∨
  (k = 0 ∧ ∃ x : Nat, i = x ∧ x ≤ nt ∧ (tTell tp x).1.2.1 = 0 ∧ v = (tTell tp x).2 1 ∧ w' = s ∧ s' = w ∧ R' = (tTell tp x).2 ∧ n' = 0 ∧ nt' = 0 ∧ f' = -1)
def E_ask (tp : Nat → Int) (i : Int) (w s : Nat) (R : Nat → Int) (na nt : Nat) (f : Int) : zTR := fun k v w' s' R' n' nt' f' =>
  (k = 1 ∧ v = 0 ∧ ¬ (0 ≤ i ∧ i ≤ nt ∧ i ≤ 200) ∧ w' = w ∧ s' = s ∧ R' = R ∧ n' = na ∧ nt' = nt ∧ f' = f) ∨
  (k = 0 ∧ ∃ x : Nat, i = x ∧ x ≤ nt ∧ x ≤ 200 ∧ (askT tp x (R 0)).1.2.1 ≠ 0 ∧ v = -1000000000 - (askT tp x (R 0)).1.2.1 ∧ w' = w ∧ s' = s ∧ R' = R ∧ n' = na ∧ nt' = 0 ∧ f' = (askT tp x (R 0)).1.2.2) ∨
  (k = 0 ∧ ∃ x : Nat, i = x ∧ x ≤ nt ∧ x ≤ 200 ∧ (askT tp x (R 0)).1.2.1 = 0 ∧ v = askV R (askT tp x (R 0)).2 (askK tp x) ∧ w' = w ∧ s' = s ∧ R' = R ∧ n' = na ∧ nt' = 0 ∧ f' = -1)
theorem n_ele {tp : Nat → Int} {i : Int} {w s : Nat} {R : Nat → Int} {na nt : Nat} {f : Int} : zTN (E_ele tp i w s R na nt f) := by
  intro k v w1 s1 R1 n1 t1 f1 k' v' w' s' R' n' nt' f' h h'
  rcases h with ⟨a1, a2, a3, a4, a5, a6, a7, a8, a9⟩ | ⟨a1, x, a2, a3, a0, b1, a4, a5, a6, a7, a8, a9⟩ | ⟨a1, x, a2, a3, a0, b1, a4, a5, a6, a7, a8, a9⟩ <;> rcases h' with ⟨c1, c2, c3, c4, c5, c6, c7, c8, c9⟩ | ⟨c1, y, c2, c3, c0, d1, c4, c5, c6, c7, c8, c9⟩ | ⟨c1, y, c2, c3, c0, d1, c4, c5, c6, c7, c8, c9⟩
  · exact ⟨a1.trans c1.symm, a2.trans c2.symm, a4.trans c4.symm, a5.trans c5.symm, a6.trans c6.symm, a7.trans c7.symm, a8.trans c8.symm, a9.trans c9.symm⟩
  · exact absurd ⟨by omega, by omega⟩ a3
  · exact absurd ⟨by omega, by omega⟩ a3
  · exact absurd ⟨by omega, by omega⟩ c3
  · have e := nat_eq a2 c2
    subst e
    exact ⟨a1.trans c1.symm, b1.trans d1.symm, a4.trans c4.symm, a5.trans c5.symm, a6.trans c6.symm, a7.trans c7.symm, a8.trans c8.symm, a9.trans c9.symm⟩
  · have e := nat_eq a2 c2
    subst e
    exact absurd c0 a0
  · exact absurd ⟨by omega, by omega⟩ c3
  · have e := nat_eq a2 c2
    subst e
    exact absurd a0 c0
  · have e := nat_eq a2 c2
    subst e
    exact ⟨a1.trans c1.symm, b1.trans d1.symm, a4.trans c4.symm, a5.trans c5.symm, a6.trans c6.symm, a7.trans c7.symm, a8.trans c8.symm, a9.trans c9.symm⟩
theorem n_ask {tp : Nat → Int} {i : Int} {w s : Nat} {R : Nat → Int} {na nt : Nat} {f : Int} : zTN (E_ask tp i w s R na nt f) := by
  intro k v w1 s1 R1 n1 t1 f1 k' v' w' s' R' n' nt' f' h h'
  rcases h with ⟨a1, a2, a3, a4, a5, a6, a7, a8, a9⟩ | ⟨a1, x, a2, a3, b2, a0, b1, a4, a5, a6, a7, a8, a9⟩ | ⟨a1, x, a2, a3, b2, a0, b1, a4, a5, a6, a7, a8, a9⟩ <;> rcases h' with ⟨c1, c2, c3, c4, c5, c6, c7, c8, c9⟩ | ⟨c1, y, c2, c3, d2, c0, d1, c4, c5, c6, c7, c8, c9⟩ | ⟨c1, y, c2, c3, d2, c0, d1, c4, c5, c6, c7, c8, c9⟩
  · exact ⟨a1.trans c1.symm, a2.trans c2.symm, a4.trans c4.symm, a5.trans c5.symm, a6.trans c6.symm, a7.trans c7.symm, a8.trans c8.symm, a9.trans c9.symm⟩
  · exact absurd ⟨by omega, by omega, by omega⟩ a3
  · exact absurd ⟨by omega, by omega, by omega⟩ a3
  · exact absurd ⟨by omega, by omega, by omega⟩ c3
  · have e := nat_eq a2 c2
    subst e
    exact ⟨a1.trans c1.symm, b1.trans d1.symm, a4.trans c4.symm, a5.trans c5.symm, a6.trans c6.symm, a7.trans c7.symm, a8.trans c8.symm, a9.trans c9.symm⟩
  · have e := nat_eq a2 c2
    subst e
    exact absurd c0 a0
  · exact absurd ⟨by omega, by omega, by omega⟩ c3
  · have e := nat_eq a2 c2
    subst e
    exact absurd a0 c0
  · have e := nat_eq a2 c2
    subst e
    exact ⟨a1.trans c1.symm, b1.trans d1.symm, a4.trans c4.symm, a5.trans c5.symm, a6.trans c6.symm, a7.trans c7.symm, a8.trans c8.symm, a9.trans c9.symm⟩
def zTH (I : Nat → Nat → Int) (P : Nat → Nat → Option Nat) (Z : (Nat → Nat × Nat) × Nat × Bool) (Q : am_Q) (Pa : Nat → Nat → Int) (tp : Nat → Int) (E : zTR) : Prop := ∀ k v w' s' R' n' nt' f', E k v w' s' R' n' nt' f' → ∀ I' P', P' 103 = P 103 → Cl (I', P', Z) w' s' → (∀ x, x ≠ 1 → x ≠ 122 → (x < 5 ∨ 82 ≤ x) → I' x = I x) → I' 1 11 = I 1 11 → CX I' w' R' n' Pa → TpC I' tp nt' → I' 1 2 = f' → (k = 0 → I' 122 0 = v) → Q (.inl (some (iV k))) (I', P', Z)
theorem zTH.i {I I1 : Nat → Nat → Int} {P P1 : Nat → Nat → Option Nat} {Z : (Nat → Nat × Nat) × Nat × Bool} {Q : am_Q} {Pa : Nat → Nat → Int} {tp : Nat → Int} {E : zTR} {c : Nat → Int → Prop} {v f' : Int} {w' s' n' : Nat} {R' : Nat → Int} (h : zTH I P Z Q Pa tp E) (ho : am_arw (I, P, Z) 122 101 1) (hC : Cl (I1, P1, Z) w' s') (hp : ∀ x, x ≠ 1 → x ≠ 76 → P1 x = P x) (hf : TxF I I1) (hX : CX I1 w' R' n' Pa) (h11 : I1 1 1 = 0) (h12 : I1 1 2 = f') (a : E 0 v w' s' R' n' 0 f') : wi c Q (.inl (some (iV v))) (I1, P1, Z) := by
  have hw := hC.ws
  have hu : ∀ x, x ≠ 122 → u2 I1 122 0 v x = I1 x := fun x hx => u2_row I1 hx
  refine Or.inl ⟨v, rfl, ho, h 0 v _ _ _ _ _ _ a (u2 I1 122 0 v) P1 (hp 103 (by omega) (by omega)) hC (fun x h1 h2 h3 => (hu x h2).trans (hf.1 x h1 h3)) ?_ (hX.same (fun x h1 h2 => hu x (by omega)) (fun x h1 h2 => hu x (by omega)) (fun x h1 h2 => hu x (by omega))) ⟨?_, Nat.zero_le _, fun j hj => absurd hj (Nat.not_lt_zero j)⟩ ?_ (fun _ => u2_same I1 122 0 v)⟩
  · rw [hu 1 (by omega)]; exact hf.2 11 (by omega) (by omega)
  · rw [hu 1 (by omega)]; exact h11
  · rw [hu 1 (by omega)]; exact h12
theorem zTH.i1 {I : Nat → Nat → Int} {P : Nat → Nat → Option Nat} {Z : (Nat → Nat × Nat) × Nat × Bool} {Q : am_Q} {Pa : Nat → Nat → Int} {tp : Nat → Int} {E : zTR} {c : Nat → Int → Prop} {f : Int} {w s na nt k : Nat} {R : Nat → Int} (h : zTH I P Z Q Pa tp E) (hC : Cl (I, P, Z) w s) (hX : CX I w R na Pa) (hT : TpC I tp nt) (hf : I 1 2 = f) (a : E 1 0 w s R na nt f) (hc : c k 1) : wi c Q (.inr k) (I, P, Z) :=
  Or.inr ⟨k, 1, rfl, hc, h 1 0 _ _ _ _ _ _ a I P rfl hC (fun _ _ _ _ => rfl) rfl hX hT hf (fun q => absurd q (by decide))⟩
theorem zJ.t {I I1 I2 : Nat → Nat → Int} {P P1 : Nat → Nat → Option Nat} {Z : (Nat → Nat × Nat) × Nat × Bool} {len w s w' s' n n' nt nt' : Nat} {R R' Ri tp : Nat → Int} {Pa : Nat → Nat → Int} {l : List Int} {f f' g : Int} (hS : zS (I, P, Z) len w s) (hC : zC I w R n Pa tp nt l f g Ri) (hR : zR I R n Pa tp nt l f g Ri) (hP : zP R n Pa tp l g Ri) (hp : P1 103 = P 103) (hC1 : Cl (I1, P1, Z) w' s') (hf : ∀ x, x ≠ 1 → x ≠ 122 → (x < 5 ∨ 82 ≤ x) → I1 x = I x) (h11 : I1 1 11 = I 1 11) (hX : CX I1 w' R' n' Pa) (hT : TpC I1 tp nt') (h12 : I1 1 2 = f') (h2 : ∀ x, x < 103 ∨ x = 107 ∨ x = 120 → I2 x = I1 x) (h5 : I2 103 5 = I1 103 5) (h22 : I2 103 22 = I1 103 22) (r2 : RowV I2 R') (p2 : PaV I2 n' Pa) (t2 : TpM I2 tp nt') (h32 : I2 103 32 = f') (hP' : zP R' n' Pa tp l g Ri) : zJ (I2, P1, Z) len := by
  have hR1 : zR I1 R n Pa tp nt l f g Ri := hR.cf fun x h1 h2 => hf x (by omega) h2 (by omega)
  have c1 : zC I1 w' R' n' Pa tp nt' l f' g Ri := hC.of (hf _ (by omega) (by omega) (by omega)) (hf _ (by omega) (by omega) (by omega)) (fun x h1 h2 => hf x (by omega) (by omega) (by omega)) h11 hX hT h12
  exact ⟨w', s', R', n', Pa, tp, nt', l, f', g, Ri, ⟨hC1, hS.2.1.cp hp, hS.2.2.1, hS.2.2.2⟩, c1.rf (by have := hC1.ws; omega) (fun x hx => h2 x (by omega)), hR1.of (h2 _ (by omega)) (h2 _ (by omega)) h5 h22 r2 p2 t2 h32, hP'⟩
