/-! WHAT IS SAID: signs, numbers -/
def SpV (I : Nat → Nat → Int) (q : Nat) (l : List Int) : Prop := I q 1 = l.length ∧ ∀ (j : Nat) (v : Int), l[j]? = some v → I (q + 1) j = v
/-- the last n + 1 figures of v -/
def dl (v : Nat) : Nat → List Int
  | 0 => [48 + ((v % 10 : Nat) : Int)]
  | n + 1 => dl (v / 10) n ++ [48 + ((v % 10 : Nat) : Int)]
/-- how many figures v has behind the first -/
def nd : Nat → Nat → Nat
  | 0, _ => 0
  | t + 1, v => if v ≤ 9 then 0 else nd t (v / 10) + 1
theorem nd_le : ∀ t v : Nat, nd t v ≤ t
  | 0, _ => Nat.le_refl _
  | t + 1, v => by
    have := nd_le t (v / 10)
    unfold nd
    split <;> omega
theorem nd_p : ∀ t v : Nat, v < 10 ^ (t + 1) → v / 10 < 10 ^ (nd t v) ∧ ∀ i, i < nd t v → 10 ^ i ≤ v / 10
  | 0, v, h => by
    unfold nd
    refine ⟨?_, fun i hi => absurd hi (by omega)⟩
    rw [Nat.zero_add, Nat.pow_one] at h
    rw [Nat.pow_zero]
    omega
  | t + 1, v, h => by
    unfold nd
    split
    · refine ⟨?_, fun i hi => absurd hi (by omega)⟩
      rw [Nat.pow_zero]; omega
    · rename_i q
      have ih := nd_p t (v / 10) (by rw [Nat.pow_succ] at h; omega)
      refine ⟨by rw [Nat.pow_succ]; omega, fun i hi => ?_⟩
      cases i with
      | zero => rw [Nat.pow_zero]; omega
      | succ i =>
        have := ih.2 i (by omega)
        rw [Nat.pow_succ]
        omega
theorem dl_len (v : Nat) : ∀ n, (dl v n).length = n + 1 := fun n => by
  induction n generalizing v with
  | zero => rfl
  | succ n ih => unfold dl; rw [List.length_append, ih]; rfl
/-- the figures from the i-th on, as they're told -/
def em (v : Nat) : Nat → List Int
  | 0 => [48 + ((v % 10 : Nat) : Int)]
  | i + 1 => (48 + ((v / 10 ^ (i + 1) % 10 : Nat) : Int)) :: em v i
theorem em_step (v : Nat) : ∀ i, em v (i + 1) = em (v / 10) i ++ [48 + ((v % 10 : Nat) : Int)]
  | 0 => by
    unfold em em
    rw [Nat.zero_add, Nat.pow_one]
    rfl
  | i + 1 => by
    have ih := em_step v i
    unfold em
    rw [ih, List.cons_append, Nat.div_div_eq_div_mul, Nat.pow_succ' (n := i + 1)]
theorem em_dl (v : Nat) : ∀ n, em v n = dl v n := fun n => by
  induction n generalizing v with
  | zero => rfl
  | succ n ih => rw [em_step, ih]; rfl
/-- a number's text -/
def nt (v : Nat) : List Int := dl v (nd 16 v)
section
variable {G : am_G} {dp : Nat} {Q : am_Q} {q : Nat} {Z : (Nat → Nat → Option Nat) × (Nat → Nat × Nat) × Nat × Bool} {I : Nat → Nat → Int}
theorem ct_put {c : Int} {l : List Int} (hS : Sp (I, Z) q) (hv : SpV I q l) (hl : l.length < 64) (h : ∀ I' : Nat → Nat → Int, (∀ x, x ≠ q → x ≠ q + 1 → I' x = I x) → SpV I' q (l ++ [c]) → Q (.inl none) (I', Z)) : T G dp 0 0 M7_put [rV (some q), iV c] (I, Z) Q := by
  have e1 : I q 1 = l.length := hv.1
  refine T7_put (s7_put_0 (n_p1 := 64) hS.2.1 hS.2.2 hS.1 (fun c1 => absurd c1 (by dsimp only; rw [e1]; omega)) (fun c1 => ?_))
  dsimp only
  rw [u2r (by omega), e1, tnc, wrs (by omega)]
  refine h _ (fun x h1 h2 => by rw [u2r h1, u2r h2]) ⟨?_, fun j v hj => ?_⟩
  · rw [u2_at, List.length_append]; rfl
  · rw [u2r (by omega)]
    by_cases e : j = l.length
    · subst e
      rw [List.getElem?_append_right (Nat.le_refl _), Nat.sub_self] at hj
      rw [u2_at]
      exact (Option.some.inj hj)
    · have hlt : j < l.length := by
        have := (List.getElem?_eq_some_iff.mp hj).1
        rw [List.length_append] at this
        have e1 : [c].length = 1 := rfl
        omega
      rw [List.getElem?_append_left hlt] at hj
      rw [u2n e]
      exact hv.2 j v hj
theorem p10 (i : Nat) (h : i ≤ 17) : (10 : Nat) ^ i ≤ 100000000000000000 := by
  have := Nat.pow_le_pow_right (n := 10) (by omega) h
  have e : (10 : Nat) ^ 17 = 100000000000000000 := by decide
  omega
theorem lp_num2 {v : Nat} {I0 : Nat → Nat → Int} {l0 : Int} (hd : 1 ≤ dp) (hS : Sp (I0, Z) q) (hv13 : v ≤ 10000000000000) : ∀ (i : Nat) (I : Nat → Nat → Int) (l : List Int), i ≤ 16 → (∀ x, x ≠ q → x ≠ q + 1 → I x = I0 x) → SpV I q l → l.length + i < 64 → (∀ I' : Nat → Nat → Int, (∀ x, x ≠ q → x ≠ q + 1 → I' x = I0 x) → SpV I' q (l ++ em v i) → Q (.inl none) (I', Z)) → X G dp 0 0 M7_putNumber 37 [some (rV (some q)), some (lV v), none, some (lV l0), none, some (lV ((10 ^ i : Nat) : Int)), none] [] (I, Z) Q := by
  intro i
  induction i with
  | zero =>
    intro I l hi hf hv hl h
    have e1 : wrl (Int.tdiv (v : Int) ((10 ^ 0 : Nat) : Int)) = v := by rw [Int.tdiv_eq_ediv_of_nonneg (by omega), wrl_of] <;> (rw [Nat.pow_zero]; omega)
    have e2 : wr (48 + wr (Int.tmod (v : Int) 10)) = 48 + ((v % 10 : Nat) : Int) := by
      rw [Int.tmod_eq_emod_of_nonneg (by omega), wr_of (z := (v : Int) % 10) (by omega) (by omega), wr_of (by omega) (by omega)]
      omega
    refine s7_putNumber_37 hd (am_ow hS.1) (fun c => absurd ((lc_le _ _).mp c) (by rw [Nat.pow_zero]; omega)) (fun c Q' hK => ?_) (h1 := fun _ => by rw [Nat.pow_zero]; omega)
    rw [e1, e2]
    refine ct_put hS hv (by omega) (fun I1 g1 g2 => hK _ (s7_putNumber_60 ?_))
    have e3 : wrl (Int.tdiv ((10 ^ 0 : Nat) : Int) 10) = 0 := by decide
    rw [e3]
    exact s7_putNumber_37 hd (am_ow hS.1) (fun _ => h I1 (fun x h1 h2 => by rw [g1 x h1 h2]; exact hf x h1 h2) g2) (fun c => absurd ((lc_le 0 0).mpr (by omega)) c) (h1 := fun c => absurd ((lc_le 0 0).mpr (by omega)) c)
  | succ i ih =>
    intro I l hi hf hv hl h
    have hp := p10 (i + 1) (by omega)
    have hpos : 0 < 10 ^ (i + 1) := Nat.pow_pos (by omega)
    have hps : 10 ^ (i + 1) = 10 ^ i * 10 := Nat.pow_succ _ _
    have hq : v / 10 ^ (i + 1) ≤ v := Nat.div_le_self _ _
    have e1 : wrl (Int.tdiv (v : Int) ((10 ^ (i + 1) : Nat) : Int)) = ((v / 10 ^ (i + 1) : Nat) : Int) := by
      rw [Int.tdiv_eq_ediv_of_nonneg (by omega), ← Int.natCast_ediv]
      generalize v / 10 ^ (i + 1) = D at hq ⊢
      exact wrl_of (by omega) (by omega)
    have e2 : wr (48 + wr (Int.tmod ((v / 10 ^ (i + 1) : Nat) : Int) 10)) = 48 + ((v / 10 ^ (i + 1) % 10 : Nat) : Int) := by
      generalize v / 10 ^ (i + 1) = D
      rw [Int.tmod_eq_emod_of_nonneg (by omega), wr_of (z := (D : Int) % 10) (by omega) (by omega), wr_of (by omega) (by omega)]
      omega
    refine s7_putNumber_37 hd (am_ow hS.1) (fun c => absurd ((lc_le _ _).mp c) (by omega)) (fun c Q' hK => ?_) (h1 := fun _ => by omega)
    rw [e1, e2]
    refine ct_put hS hv (by omega) (fun I1 g1 g2 => hK _ (s7_putNumber_60 ?_))
    have e3 : wrl (Int.tdiv ((10 ^ (i + 1) : Nat) : Int) 10) = ((10 ^ i : Nat) : Int) := by
      rw [Int.tdiv_eq_ediv_of_nonneg (by omega), wrl_of (by omega) (by omega), hps]
      omega
    rw [e3]
    refine ih I1 _ (by omega) (fun x h1 h2 => by rw [g1 x h1 h2]; exact hf x h1 h2) g2 (by rw [List.length_append]; have e1 : [48 + ((v / 10 ^ (i + 1) % 10 : Nat) : Int)].length = 1 := rfl; omega) (fun I' k1 k2 => h I' k1 ?_)
    unfold em
    rw [List.append_assoc] at k2
    exact k2
theorem lp_num1 {v : Nat} (hv13 : v ≤ 10000000000000) : ∀ (t k : Nat) (o6 : Option am_V), k + t = nd 16 v → X G dp 0 0 M7_putNumber 37 [some (rV (some q)), some (lV v), none, some (lV ((10 ^ nd 16 v : Nat) : Int)), none, some (lV ((10 ^ nd 16 v : Nat) : Int)), none] [] (I, Z) Q → X G dp 0 0 M7_putNumber 5 [some (rV (some q)), some (lV v), none, some (lV ((10 ^ k : Nat) : Int)), none, some (iV k), o6] [] (I, Z) Q := by
  have hn := nd_le 16 v
  have hp := nd_p 16 v (by have e : (10 : Nat) ^ (16 + 1) = 100000000000000000 := by decide
                           omega)
  have e1 : wrl (Int.tdiv (v : Int) 10) = ((v / 10 : Nat) : Int) := by rw [Int.tdiv_eq_ediv_of_nonneg (by omega), wrl_of (by omega) (by omega)]; omega
  intro t
  induction t with
  | zero =>
    intro k o6 ht h
    have e : k = nd 16 v := by omega
    rw [← e] at h hp
    refine s7_putNumber_5 (fun c => h) (fun c1 c2 => h) (fun c1 c2 => ?_)
    have := n_lt c2
    rw [e1] at this
    omega
  | succ t ih =>
    intro k o6 ht h
    have hk := hp.2 k (by omega)
    have hpk := p10 k (by omega)
    have hpos : 0 < 10 ^ k := Nat.pow_pos (by omega)
    refine s7_putNumber_5 (fun c => absurd c (by omega)) (fun c1 c2 => ?_) (fun c1 c2 => ?_)
    · have := (lc_lt _ _).mp c2
      rw [e1] at this
      omega
    · rw [wrs (by omega), wrl_of (by omega) (by omega)]
      have e2 : ((10 ^ k : Nat) : Int) * 10 = ((10 ^ (k + 1) : Nat) : Int) := by rw [Nat.pow_succ]; omega
      rw [e2]
      exact ih (k + 1) o6 (by omega) h
theorem ct_putNumber {v : Nat} {l : List Int} (hd : 1 ≤ dp) (hS : Sp (I, Z) q) (hv : SpV I q l) (hl : l.length + nd 16 v < 64) (hv13 : v ≤ 10000000000000) (h : ∀ I' : Nat → Nat → Int, (∀ x, x ≠ q → x ≠ q + 1 → I' x = I x) → SpV I' q (l ++ nt v) → Q (.inl none) (I', Z)) : T G dp 0 0 M7_putNumber [rV (some q), lV v] (I, Z) Q := by
  have hn := nd_le 16 v
  refine T7_putNumber (s7_putNumber_0 (lp_num1 hv13 (nd 16 v) 0 _ (by omega) ?_))
  refine lp_num2 hd hS hv13 (nd 16 v) I l (by omega) (fun _ _ _ => rfl) hv hl (fun I' g1 g2 => h I' g1 ?_)
  rw [em_dl] at g2
  exact g2
end
