/-! OUT OF REACH: what the doubles' answer is worth -/
theorem fd_bits : (List.range 8192).all (fun b => decide (ian (b : Int) 1 = (b : Int) % 2 ∧ ishx (b : Int) 1 = (b : Int) / 2)) = true := by decide +kernel
theorem fd_bit {b : Nat} (h : b < 8192) : ian (b : Int) 1 = ((b % 2 : Nat) : Int) ∧ ishx (b : Int) 1 = ((b / 2 : Nat) : Int) := by
  have := List.all_eq_true.mp fd_bits b (List.mem_range.mpr h)
  have := of_decide_eq_true this
  omega
def fd_gd (l : Nat) : Bool := match FP.Core.decode FP.Core.b64 (FP.dmul (FP.l2d (Int64.ofInt ((l : Int) * 1000000))) 4607182423303617035).toNat with
  | .fin false c q => decide (c < 9007199254740992) && decide (-1074 ≤ q) && decide (q ≤ 971) && (decide (q = -1074) || decide (4503599627370496 ≤ c)) && decide (2000001 * (l * 1000000) * 2 ^ 1074 ≤ 2000000 * (c * 2 ^ (q + 1074).toNat))
  | _ => false
theorem fd_goals : (List.range 500).all (fun l => fd_gd (l + 1)) = true := by decide +kernel
theorem fd_goal {l : Nat} (h1 : 1 ≤ l) (h2 : l ≤ 500) : ∃ g : Nat, fd (FP.dmul (FP.l2d (Int64.ofInt ((l : Int) * 1000000))) 4607182423303617035) g ∧ 2000001 * (l * 1000000) * 2 ^ 1074 ≤ 2000000 * g := by
  have h : fd_gd (l - 1 + 1) = true := List.all_eq_true.mp fd_goals (l - 1) (List.mem_range.mpr (by omega))
  rw [show l - 1 + 1 = l by omega] at h
  unfold fd_gd at h
  split at h
  · rename_i c q e
    rw [Bool.and_eq_true, Bool.and_eq_true, Bool.and_eq_true, Bool.and_eq_true, Bool.or_eq_true] at h
    obtain ⟨⟨⟨⟨a1, a2⟩, a3⟩, a4⟩, a5⟩ := h
    exact ⟨fd_u c q, ⟨c, q, e, ⟨of_decide_eq_true a1, of_decide_eq_true a2, of_decide_eq_true a3, a4.imp of_decide_eq_true of_decide_eq_true⟩, rfl⟩, of_decide_eq_true a5⟩
  · exact absurd h (by decide)
def fd_be (b : Nat) : Nat := b * (4503599627370496 * 4503599627370496)
def fd_ta (t : Nat) : Nat := t * (4503599627370497 * 4503599627370497)
theorem fd_tb {t b : Nat} (h : t < b) (hb : b ≤ 100000) : fd_ta t ≤ fd_be b := by
  unfold fd_ta fd_be
  omega
def fd_SI (t b S n : Nat) : Prop := S * 4503599627370497 * fd_be b ^ n ≤ 4503599627370496 * fd_ta t ^ n * 2 ^ 1074 ∨ S ≤ 2 ^ 900
def fd_LI (v t b L k j : Nat) : Prop := L * fd_be b ^ k ≤ v * fd_ta t ^ k * 2 ^ 1074 ∨ L ≤ 2 ^ (1000 + j)
theorem fd_bep {b n : Nat} (h : 0 < b) : 0 < fd_be b ^ n := Nat.pow_pos (Nat.mul_pos h (by decide))
theorem fd_SI_le {t b S n : Nat} (h : fd_SI t b S n) (ht : t < b) (hb : b ≤ 100000) : S ≤ 2 ^ 1074 := by
  rcases h with h | h
  · have h1 : fd_ta t ^ n ≤ fd_be b ^ n := Nat.pow_le_pow_left (fd_tb ht hb) n
    have h2 : S * 4503599627370497 * fd_be b ^ n ≤ 4503599627370496 * 2 ^ 1074 * fd_be b ^ n := Nat.le_trans h (by
      rw [Nat.mul_right_comm]
      exact Nat.mul_le_mul_left _ h1)
    have h3 := Nat.le_of_mul_le_mul_right h2 (fd_bep (by omega))
    generalize (2 : Nat) ^ 1074 = u at *
    omega
  · exact Nat.le_trans h (Nat.pow_le_pow_right (by omega) (by omega))
theorem fd_LI_le {v t b L k j : Nat} (h : fd_LI v t b L k j) (ht : t < b) (hb : b ≤ 100000) (hv : v ≤ 10000000000000) (hj : j ≤ 20) : L ≤ 2 ^ 1118 := by
  rcases h with h | h
  · have h1 : fd_ta t ^ k ≤ fd_be b ^ k := Nat.pow_le_pow_left (fd_tb ht hb) k
    have h2 : L * fd_be b ^ k ≤ v * 2 ^ 1074 * fd_be b ^ k := Nat.le_trans h (by
      rw [Nat.mul_right_comm]
      exact Nat.mul_le_mul_left _ h1)
    have h3 := Nat.le_of_mul_le_mul_right h2 (fd_bep (by omega))
    refine Nat.le_trans h3 ?_
    rw [show (2 : Nat) ^ 1118 = 17592186044416 * 2 ^ 1074 by decide +kernel]
    exact Nat.mul_le_mul_right _ (by omega)
  · exact Nat.le_trans h (Nat.pow_le_pow_right (by omega) (by omega))
theorem fd_twice {k U V : Nat} (h : 4503599627370496 * (k * U) ≤ 4503599627370497 * V) : k * U ≤ 2 * V := by omega
theorem fd_Sstep {t b S n : Nat} {x : UInt64} (hx : fd x S) (h : fd_SI t b S n) (ht : t < b) (hb : b ≤ 100000) : ∃ S', fd (FP.dmul x x) S' ∧ fd_SI t b S' (n + n) := by
  have hS := fd_SI_le h ht hb
  obtain ⟨k, k1, k2⟩ := fd_mul hx hx (Nat.lt_of_le_of_lt (Nat.mul_le_mul hS hS) (by rw [← Nat.pow_add]; exact Nat.pow_lt_pow_right (by omega) (by omega)))
  refine ⟨k, k1, ?_⟩
  rcases k2 with k2 | k2
  · rcases h with h | h
    · left
      have hh := Nat.mul_le_mul h h
      have k3 := Nat.mul_le_mul_right (4503599627370497 * (fd_be b ^ n * fd_be b ^ n)) k2
      rw [Nat.pow_add, Nat.pow_add]
      generalize fd_be b ^ n = B at *
      generalize fd_ta t ^ n = A at *
      refine Nat.le_of_mul_le_mul_right (c := 4503599627370496 * 2 ^ 1074) ?_ (Nat.mul_pos (by decide) (Nat.two_pow_pos _))
      generalize (2 : Nat) ^ 1074 = U at *
      have e1 : k * 4503599627370497 * (B * B) * (4503599627370496 * U) = 4503599627370496 * (k * U) * (4503599627370497 * (B * B)) := by ac_rfl
      have e2 : 4503599627370497 * (S * S) * (4503599627370497 * (B * B)) = S * 4503599627370497 * B * (S * 4503599627370497 * B) := by ac_rfl
      have e3 : 4503599627370496 * A * U * (4503599627370496 * A * U) = 4503599627370496 * (A * A) * U * (4503599627370496 * U) := by ac_rfl
      rw [e1]
      rw [e2] at k3
      rw [← e3]
      exact Nat.le_trans k3 hh
    · right
      have h2 := fd_twice k2
      have h3 : S * S ≤ 2 ^ 900 * 2 ^ 900 := Nat.mul_le_mul h h
      refine Nat.le_of_mul_le_mul_right (c := 2 ^ 1074) ?_ (Nat.two_pow_pos _)
      refine Nat.le_trans h2 (Nat.le_trans (Nat.mul_le_mul_left 2 h3) ?_)
      decide +kernel
  · right
    exact Nat.le_trans k2 (by decide +kernel)
theorem fd_Lstep {v t b S L n k j : Nat} {x y : UInt64} (hy : fd y L) (hx : fd x S) (hL : fd_LI v t b L k j) (hS : fd_SI t b S n) (ht : t < b) (hb : b ≤ 100000) (hv : v ≤ 10000000000000) (hj : j ≤ 19) : ∃ L', fd (FP.dmul y x) L' ∧ fd_LI v t b L' (k + n) (j + 1) := by
  have hS1 := fd_SI_le hS ht hb
  have hL1 := fd_LI_le hL ht hb hv (by omega)
  obtain ⟨k', k1, k2⟩ := fd_mul hy hx (Nat.lt_of_le_of_lt (Nat.mul_le_mul hL1 hS1) (by rw [← Nat.pow_add]; exact Nat.pow_lt_pow_right (by omega) (by omega)))
  refine ⟨k', k1, ?_⟩
  rcases k2 with k2 | k2
  · have h2 := fd_twice k2
    rcases hL with hL | hL
    · rcases hS with hS | hS
      · left
        have hh := Nat.mul_le_mul hL hS
        have k3 := Nat.mul_le_mul_right (fd_be b ^ k * fd_be b ^ n) k2
        rw [Nat.pow_add, Nat.pow_add]
        generalize fd_be b ^ n = B at *
        generalize fd_ta t ^ n = A at *
        generalize fd_be b ^ k = B2 at *
        generalize fd_ta t ^ k = A2 at *
        refine Nat.le_of_mul_le_mul_right (c := 4503599627370496 * 2 ^ 1074) ?_ (Nat.mul_pos (by decide) (Nat.two_pow_pos _))
        generalize (2 : Nat) ^ 1074 = U at *
        have e1 : k' * (B2 * B) * (4503599627370496 * U) = 4503599627370496 * (k' * U) * (B2 * B) := by ac_rfl
        have e2 : 4503599627370497 * (L * S) * (B2 * B) = L * B2 * (S * 4503599627370497 * B) := by ac_rfl
        have e3 : v * A2 * U * (4503599627370496 * A * U) = v * (A2 * A) * U * (4503599627370496 * U) := by ac_rfl
        rw [e1]
        rw [e2] at k3
        rw [← e3]
        exact Nat.le_trans k3 hh
      · right
        have h3 : L * S ≤ 2 ^ 1118 * 2 ^ 900 := Nat.mul_le_mul hL1 hS
        refine Nat.le_trans ?_ (Nat.pow_le_pow_right (show 0 < 2 by omega) (show 1000 ≤ 1000 + (j + 1) by omega))
        refine Nat.le_of_mul_le_mul_right (c := 2 ^ 1074) ?_ (Nat.two_pow_pos _)
        refine Nat.le_trans h2 (Nat.le_trans (Nat.mul_le_mul_left 2 h3) ?_)
        decide +kernel
    · right
      have h3 : L * S ≤ 2 ^ (1000 + j) * 2 ^ 1074 := Nat.mul_le_mul hL hS1
      refine Nat.le_of_mul_le_mul_right (c := 2 ^ 1074) ?_ (Nat.two_pow_pos _)
      refine Nat.le_trans h2 (Nat.le_trans (Nat.mul_le_mul_left 2 h3) ?_)
      rw [show 1000 + (j + 1) = 1000 + j + 1 by omega, Nat.pow_succ (n := 2) (m := 1000 + j)]
      generalize (2 : Nat) ^ (1000 + j) = u
      generalize (2 : Nat) ^ 1074 = w
      exact Nat.le_of_eq (by ac_rfl)
  · right
    refine Nat.le_trans k2 (Nat.le_trans ?_ (Nat.pow_le_pow_right (show 0 < 2 by omega) (show 1000 ≤ 1000 + (j + 1) by omega)))
    decide +kernel
/-- (1 + 1/p)^m (1 - m/p) is at most 1 -/
theorem fd_bern : ∀ m : Nat, m ≤ 4503599627370496 → 4503599627370497 ^ m * (4503599627370496 - m) ≤ 4503599627370496 ^ m * 4503599627370496
  | 0, _ => by omega
  | m + 1, h => by
    have ih := fd_bern m (by omega)
    rw [Nat.pow_succ, Nat.pow_succ]
    have e : 4503599627370497 * (4503599627370496 - (m + 1)) ≤ (4503599627370496 - m) * 4503599627370496 := by omega
    calc 4503599627370497 ^ m * 4503599627370497 * (4503599627370496 - (m + 1)) = 4503599627370497 ^ m * (4503599627370497 * (4503599627370496 - (m + 1))) := Nat.mul_assoc _ _ _
      _ ≤ 4503599627370497 ^ m * ((4503599627370496 - m) * 4503599627370496) := Nat.mul_le_mul_left _ e
      _ = 4503599627370497 ^ m * (4503599627370496 - m) * 4503599627370496 := (Nat.mul_assoc _ _ _).symm
      _ ≤ 4503599627370496 ^ m * 4503599627370496 * 4503599627370496 := Nat.mul_le_mul_right _ ih
theorem fd_fin {v t b G L g r : Nat} (hL : L * fd_be b ^ r ≤ v * fd_ta t ^ r * 2 ^ 1074) (hg : 2000001 * G * 2 ^ 1074 ≤ 2000000 * g) (hc : g < L) (hr : r ≤ 5000) (hb : 0 < b) : G * b ^ r < v * t ^ r := by
  have hB := fd_bern (2 * r) (by omega)
  unfold fd_be fd_ta at hL
  rw [Nat.mul_pow, Nat.mul_pow t, ← Nat.pow_two, ← Nat.pow_two, ← Nat.pow_mul, ← Nat.pow_mul] at hL
  have hP : 0 < 4503599627370496 ^ (2 * r) := Nat.pow_pos (by decide)
  have hb' : 0 < b ^ r := Nat.pow_pos hb
  generalize 4503599627370496 ^ (2 * r) = P at *
  generalize 4503599627370497 ^ (2 * r) = P1 at *
  generalize b ^ r = x at *
  generalize t ^ r = y at *
  have hU : 0 < 2 ^ 1074 := Nat.two_pow_pos _
  generalize 2 ^ 1074 = U at *
  refine Nat.lt_of_not_le fun hle => ?_
  have s1 : 2000001 * G * U < 2000000 * L := by omega
  have s2 : 2000001 * G * U * (x * P) < 2000000 * L * (x * P) := Nat.mul_lt_mul_of_pos_right s1 (Nat.mul_pos hb' hP)
  have s3 : 2000000 * L * (x * P) ≤ 2000000 * (v * (y * P1) * U) := by
    rw [Nat.mul_assoc]
    exact Nat.mul_le_mul_left _ hL
  have s4 : v * (y * P1) * U ≤ G * x * P1 * U := by
    rw [show v * (y * P1) = v * y * P1 from (Nat.mul_assoc _ _ _).symm]
    exact Nat.mul_le_mul_right _ (Nat.mul_le_mul_right _ hle)
  have s5 : 2000001 * (G * x * P) * U < 2000000 * (G * x * P1) * U := by
    have e1 : 2000001 * (G * x * P) * U = 2000001 * G * U * (x * P) := by ac_rfl
    have e2 : 2000000 * (G * x * P1) * U = 2000000 * (G * x * P1 * U) := Nat.mul_assoc _ _ _
    rw [e1, e2]
    omega
  have s6 : 2000001 * (G * x * P) < 2000000 * (G * x * P1) := Nat.lt_of_mul_lt_mul_right s5
  generalize G * x = w at *
  have hd : 0 < 4503599627370496 - 2 * r := by omega
  have s7 := Nat.mul_lt_mul_of_pos_right s6 hd
  have s8 : 2000000 * (w * P1) * (4503599627370496 - 2 * r) ≤ 2000000 * (w * P) * 4503599627370496 := by
    have e1 : 2000000 * (w * P1) * (4503599627370496 - 2 * r) = 2000000 * w * (P1 * (4503599627370496 - 2 * r)) := by ac_rfl
    have e2 : 2000000 * (w * P) * 4503599627370496 = 2000000 * w * (P * 4503599627370496) := by ac_rfl
    rw [e1, e2]
    exact Nat.mul_le_mul_left _ hB
  have s9 : 2000001 * (w * P) * (4503599627370496 - 2 * r) < 2000000 * (w * P) * 4503599627370496 := Nat.lt_of_lt_of_le s7 s8
  generalize w * P = z at *
  have s10 : z * (2000001 * (4503599627370496 - 2 * r)) < z * (2000000 * 4503599627370496) := by
    have e1 : z * (2000001 * (4503599627370496 - 2 * r)) = 2000001 * z * (4503599627370496 - 2 * r) := by ac_rfl
    have e2 : z * (2000000 * 4503599627370496) = 2000000 * z * 4503599627370496 := by ac_rfl
    rw [e1, e2]; exact s9
  have s11 := Nat.lt_of_mul_lt_mul_left s10
  omega
/-- then no earlier one is at the goal either -/
theorem fd_all {v t b G r : Nat} (h : G * b ^ r < v * t ^ r) (ht : t < b) : ∀ k, k ≤ r → G * b ^ k < v * t ^ k := by
  intro k hk
  refine Nat.lt_of_mul_lt_mul_right (a := b ^ (r - k)) ?_
  rw [Nat.mul_assoc, ← Nat.pow_add, show k + (r - k) = r by omega]
  refine Nat.lt_of_lt_of_le h ?_
  rw [show t ^ r = t ^ k * t ^ (r - k) by rw [← Nat.pow_add, show k + (r - k) = r by omega], ← Nat.mul_assoc]
  exact Nat.mul_le_mul_left _ (Nat.pow_le_pow_left (Nat.le_of_lt ht) _)
section
variable {G : am_G} {dp : Nat} {Q : am_Q} {m : am_M}
theorem fd_end {v t b l r : Nat} {N i : Int} {L j : Nat} {x y : UInt64} (hl : 1 ≤ l) (hl2 : l ≤ 500) (hi : i ≤ 0) (hr : r ≤ 5000) (hb : 0 < b) (hj : j ≤ 20) (hy : fd y L) (hL : fd_LI v t b L r j) (h0 : Q (.inl (some (iV 0))) m) (h1 : l * 1000000 * b ^ r < v * t ^ r → Q (.inl (some (iV 1))) m) {A B C : Int} : X G dp 0 0 M8_isOutOfReach 27 [some (lV A), none, some (lV B), none, some (lV C), none, some (lV ((l : Int) * 1000000)), none, some (iV N), some (dV y), none, some (dV x), none, some (iV i)] [] m Q := by
  obtain ⟨g, g1, g2⟩ := fd_goal hl hl2
  refine s8_isOutOfReach_27 (fun _ => fd_n64 g1) (fun c _ => absurd hi c) (fun c _ => absurd hi c) (fun c _ => absurd hi c) (fun _ _ => h0) (fun _ c => ?_) (fun c _ => absurd hi c) (fun c _ => absurd hi c)
  have hc := fd_cmp hy g1 c
  refine h1 ?_
  rcases hL with hL | hL
  · exact fd_fin hL g2 hc hr hb
  · exfalso
    have h3 : (2 : Nat) ^ (1000 + j) ≤ 2 ^ 1020 := Nat.pow_le_pow_right (by omega) (by omega)
    have h4 : 2000001 * 1000000 * 2 ^ 1074 ≤ 2000001 * (l * 1000000) * 2 ^ 1074 := Nat.mul_le_mul_right _ (by omega)
    have h5 : 2000000 * g < 2000000 * 2 ^ 1020 := Nat.mul_lt_mul_of_pos_left (Nat.lt_of_lt_of_le hc (Nat.le_trans hL h3)) (by decide)
    have h6 : 2000001 * 1000000 * 2 ^ 1074 < 2000000 * 2 ^ 1020 := Nat.lt_of_le_of_lt h4 (Nat.lt_of_le_of_lt g2 h5)
    exact absurd h6 (by decide +kernel)
theorem lp_oor {v t b l r : Nat} {N : Int} {A B C : Int} (hl : 1 ≤ l) (hl2 : l ≤ 500) (hr : r ≤ 5000) (ht : t < b) (hb : b ≤ 100000) (hv : v ≤ 10000000000000) (h0 : Q (.inl (some (iV 0))) m) (h1 : l * 1000000 * b ^ r < v * t ^ r → Q (.inl (some (iV 1))) m) : ∀ (f bits k n j S L : Nat) (x y : UInt64), bits < 2 ^ f → j + f = 13 → k + bits * n = r → fd x S → fd y L → fd_SI t b S n → fd_LI v t b L k j → X G dp 0 0 M8_isOutOfReach 27 [some (lV A), none, some (lV B), none, some (lV C), none, some (lV ((l : Int) * 1000000)), none, some (iV N), some (dV y), none, some (dV x), none, some (iV bits)] [] m Q := by
  intro f
  induction f with
  | zero =>
    intro bits k n j S L x y hbt hj hk hx hy hS hL
    have e : bits = 0 := by rw [Nat.pow_zero] at hbt; omega
    subst e
    rw [Nat.zero_mul, Nat.add_zero] at hk
    subst hk
    exact fd_end hl hl2 (by omega) hr (by omega) (by omega) hy hL h0 h1
  | succ f ih =>
    intro bits k n j S L x y hbt hj hk hx hy hS hL
    by_cases e : bits = 0
    · subst e
      rw [Nat.zero_mul, Nat.add_zero] at hk
      subst hk
      exact fd_end hl hl2 (by omega) hr (by omega) (by omega) hy hL h0 h1
    · have h8 : bits < 8192 := Nat.lt_of_lt_of_le hbt (Nat.le_trans (Nat.pow_le_pow_right (by omega) (show f + 1 ≤ 13 by omega)) (by decide))
      obtain ⟨b1, b2⟩ := fd_bit h8
      obtain ⟨S', S1, S2⟩ := fd_Sstep hx hS ht hb
      obtain ⟨L', L1, L2⟩ := fd_Lstep hy hx hL hS ht hb hv (by omega)
      rw [Nat.pow_succ] at hbt
      have eb : bits = 2 * (bits / 2) + bits % 2 := by omega
      have ek : k + (2 * (bits / 2) + bits % 2) * n = r := by rw [← eb]; exact hk
      rw [Nat.add_mul, Nat.mul_comm 2, Nat.mul_assoc, Nat.two_mul] at ek
      refine s8_isOutOfReach_27 (fun c => absurd c (by omega)) (fun _ _ => fd_n64 S1) (fun _ _ => fd_n64 L1) (fun _ _ => fd_n64 S1) (fun c => absurd c (by omega)) (fun c => absurd c (by omega)) (fun _ c => ?_) (fun _ c => ?_)
      · rw [b1] at c
        rw [b2]
        rw [show bits % 2 = 0 by omega, Nat.zero_mul, Nat.add_zero] at ek
        refine ih (bits / 2) k (n + n) (j + 1) S' L _ _ (by omega) (by omega) ek S1 hy S2 ?_
        exact hL.imp id (fun z => Nat.le_trans z (Nat.pow_le_pow_right (by omega) (by omega)))
      · rw [b1] at c
        rw [b2]
        rw [show bits % 2 = 1 by omega, Nat.one_mul] at ek
        exact ih (bits / 2) (k + n) (n + n) (j + 1) S' L' _ _ (by omega) (by omega) (by omega) S1 L1 S2 L2
theorem ct_isOutOfReach {v t b l : Nat} {N : Int} (hl : 1 ≤ l) (hl2 : l ≤ 500) (hN : N ≤ 5000) (ht : t < b) (hb : b ≤ 100000) (hv : v ≤ 10000000000000) (h0 : Q (.inl (some (iV 0))) m) (h1 : (∀ k : Nat, k ≤ N.toNat → l * 1000000 * b ^ k < v * t ^ k) → Q (.inl (some (iV 1))) m) : T G dp 0 0 M8_isOutOfReach [lV v, lV t, lV b, lV ((l : Int) * 1000000), iV N] m Q := by
  have hv' := fd_l2d (z := v) (by omega)
  have ht' := fd_l2d (z := t) (by omega)
  have hb' := fd_l2d (z := b) (by omega)
  have hU : (0 : Nat) < 2 ^ 1074 := Nat.two_pow_pos _
  obtain ⟨S, S1, S2⟩ := fd_div ht' hb' (Nat.mul_pos (by omega) hU) (by
    rw [Nat.mul_right_comm]
    exact Nat.mul_lt_mul_of_pos_right (Nat.lt_of_lt_of_le ht (Nat.le_mul_of_pos_right _ (Nat.two_pow_pos _))) hU)
  have hSI : fd_SI t b S 1 := by
    rcases S2 with S2 | S2
    · left
      rw [Nat.pow_one, Nat.pow_one]
      unfold fd_be fd_ta
      generalize (2 : Nat) ^ 1074 = U at *
      have S3 : 4503599627370496 * (S * b) ≤ 4503599627370497 * (t * U) := by
        refine Nat.le_of_mul_le_mul_right (c := U) ?_ hU
        have e1 : 4503599627370496 * (S * b) * U = 4503599627370496 * (S * (b * U)) := by ac_rfl
        rw [e1, Nat.mul_assoc]
        exact S2
      have S4 := Nat.mul_le_mul_right (4503599627370497 * 4503599627370496) S3
      have e1 : S * 4503599627370497 * (b * (4503599627370496 * 4503599627370496)) = 4503599627370496 * (S * b) * (4503599627370497 * 4503599627370496) := by ac_rfl
      have e2 : 4503599627370496 * (t * (4503599627370497 * 4503599627370497)) * U = 4503599627370497 * (t * U) * (4503599627370497 * 4503599627370496) := by ac_rfl
      rw [e1, e2]; exact S4
    · right
      exact Nat.le_trans S2 (by decide +kernel)
  have hLI : fd_LI v t b (v * 2 ^ 1074) 0 0 := Or.inl (by rw [Nat.pow_zero, Nat.pow_zero, Nat.mul_one, Nat.mul_one]; exact Nat.le_refl _)
  refine T8_isOutOfReach (s8_isOutOfReach_0 (fun _ => fd_n64 S1) (fun _ => ?_) (fun c => absurd ((lc_gt _ _).mpr (by omega)) c))
  have h2 : l * 1000000 * b ^ N.toNat < v * t ^ N.toNat → Q (.inl (some (iV 1))) m := fun z => h1 (fd_all z ht)
  by_cases hN0 : N ≤ 0
  · refine fd_end (r := N.toNat) (j := 0) hl hl2 hN0 (by omega) (by omega) (by omega) hv' ?_ h0 h2
    rw [show N.toNat = 0 by omega]; exact hLI
  · have eN : N = ((N.toNat : Nat) : Int) := by omega
    have key := lp_oor (G := G) (dp := dp) (N := N) (A := v) (B := t) (C := b) (r := N.toNat) hl hl2 (by omega) ht hb hv h0 h2 13 N.toNat 0 1 0 S (v * 2 ^ 1074) _ _ (by omega) rfl (by omega) S1 hv' hSI hLI
    rw [← eN] at key
    exact key
end
