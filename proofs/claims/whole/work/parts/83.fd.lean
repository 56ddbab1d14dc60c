/-! DOUBLES that are finite and not below 0, counted in their least part (2 to the -1074) -/
theorem fd_qmin : FP.Core.b64.qmin = -1074 := by decide +kernel
theorem fd_qmax : FP.Core.b64.qmax = 971 := by decide +kernel
theorem fd_tails : FP.Core.b64.tails = 4503599627370496 := by decide +kernel
theorem fd_exps : FP.Core.b64.exps = 2048 := by decide +kernel
def fd_ok (c : Nat) (q : Int) : Prop := c < 9007199254740992 ∧ -1074 ≤ q ∧ q ≤ 971 ∧ (q = -1074 ∨ 4503599627370496 ≤ c)
def fd_u (c : Nat) (q : Int) : Nat := c * 2 ^ (q + 1074).toNat
/-- the double x is n of them -/
def fd (x : UInt64) (n : Nat) : Prop := ∃ (c : Nat) (q : Int), FP.Core.decode FP.Core.b64 x.toNat = .fin false c q ∧ fd_ok c q ∧ n = fd_u c q
theorem fd_T (n : Nat) : FP.Core.fieldT FP.Core.b64 n = n % 4503599627370496 := by unfold FP.Core.fieldT; rw [fd_tails]
theorem fd_E (n : Nat) : FP.Core.fieldE FP.Core.b64 n = n / 4503599627370496 % 2048 := by unfold FP.Core.fieldE; rw [fd_tails, fd_exps]
theorem fd_S (n : Nat) (h : n < 9223372036854775808) : FP.Core.fieldS FP.Core.b64 n = false := by
  unfold FP.Core.fieldS
  rw [fd_tails, fd_exps, show n / 4503599627370496 / 2048 = 0 by omega]; rfl
theorem fd_asm (E T : Nat) : FP.Core.assemble FP.Core.b64 false E T = E * 4503599627370496 + T := by
  unfold FP.Core.assemble
  rw [fd_exps, fd_tails, show false.toNat * 2048 + E = E by rw [show false.toNat = 0 from rfl]; omega]
theorem fd_dec {E T : Nat} (hE : E < 2047) (hT : T < 4503599627370496) : FP.Core.decode FP.Core.b64 (E * 4503599627370496 + T) = if E = 0 then .fin false T (-1074) else .fin false (4503599627370496 + T) (-1074 + ((E : Int) - 1)) := by
  have h1 : (E * 4503599627370496 + T) / 4503599627370496 % 2048 = E := by omega
  have h2 : (E * 4503599627370496 + T) % 4503599627370496 = T := by omega
  unfold FP.Core.decode
  rw [fd_E, fd_T, fd_S _ (by omega), fd_exps, fd_qmin, fd_tails, h1, h2, if_neg (by omega)]
theorem fd_encode (c : Nat) (q : Int) : FP.Core.encode FP.Core.b64 (.fin false c q) = if c < 4503599627370496 then c else ((q + 1074).toNat + 1) * 4503599627370496 + (c - 4503599627370496) := by
  show (if c < FP.Core.b64.tails then FP.Core.assemble FP.Core.b64 false 0 c else FP.Core.assemble FP.Core.b64 false ((q - FP.Core.b64.qmin).toNat + 1) (c - FP.Core.b64.tails)) = _
  rw [fd_tails, fd_qmin, fd_asm, fd_asm, show q - -1074 = q + 1074 by omega, Nat.zero_mul, Nat.zero_add]
theorem fd_enc {c : Nat} {q : Int} (h : fd_ok c q) : FP.Core.encode FP.Core.b64 (.fin false c q) < 9223372036854775808 ∧ FP.Core.decode FP.Core.b64 (FP.Core.encode FP.Core.b64 (.fin false c q)) = .fin false c q := by
  obtain ⟨h1, h2, h3, h4⟩ := h
  rw [fd_encode]
  by_cases hc : c < 4503599627370496
  · rw [if_pos hc]
    have hq : q = -1074 := by omega
    refine ⟨by omega, ?_⟩
    have := fd_dec (E := 0) (T := c) (by omega) hc
    rw [Nat.zero_mul, Nat.zero_add, if_pos rfl] at this
    rw [this, hq]
  · rw [if_neg hc]
    refine ⟨by omega, ?_⟩
    rw [fd_dec (by omega) (by omega), if_neg (by omega), show 4503599627370496 + (c - 4503599627370496) = c by omega, show (-1074 : Int) + (((((q + 1074).toNat + 1 : Nat)) : Int) - 1) = q by omega]
theorem fd_of {c : Nat} {q : Int} (h : fd_ok c q) : fd (.ofNat (FP.Core.encode FP.Core.b64 (.fin false c q))) (fd_u c q) := by
  have e := fd_enc h
  refine ⟨c, q, ?_, h, rfl⟩
  rw [UInt64.toNat_ofNat', Nat.mod_eq_of_lt (by have := e.1; omega)]
  exact e.2
/-- none of them is a NaN -/
theorem fd_n64 {x : UInt64} {n : Nat} (h : fd x n) : vf_n64 x := by
  obtain ⟨c, q, h1, _, _⟩ := h
  have hE : ¬ x.toNat / 4503599627370496 % 2048 = 2047 := fun e => by
    unfold FP.Core.decode at h1
    rw [fd_E, fd_exps, if_pos (by omega)] at h1
    split at h1 <;> exact absurd h1 (by intro z; cases z)
  unfold vf_n64
  rw [UInt64.le_iff_toNat_le, UInt64.toNat_and]
  have e1 : (0x7fffffffffffffff : UInt64).toNat = 2 ^ 63 - 1 := by decide
  have e2 : (0x7ff0000000000000 : UInt64).toNat = 9218868437227405312 := by decide
  rw [e1, e2, Nat.and_two_pow_sub_one_eq_mod]
  omega
/-! ROUNDING -/
theorem fd_lead {A B : Nat} (hA : 0 < A) (hB : 0 < B) : ∃ x y : Nat, FP.Core.leading A B = (x : Int) - y ∧ B * 2 ^ x ≤ A * 2 ^ y ∧ A * 2 ^ y < B * 2 ^ (x + 1) := by
  have a1 : 2 ^ A.log2 ≤ A := Nat.log2_self_le (by omega)
  have a2 : A < 2 ^ (A.log2 + 1) := Nat.lt_log2_self
  have b1 : 2 ^ B.log2 ≤ B := Nat.log2_self_le (by omega)
  have b2 : B < 2 ^ (B.log2 + 1) := Nat.lt_log2_self
  unfold FP.Core.leading
  generalize A.log2 = a at *
  generalize B.log2 = b at *
  dsimp only
  have key : (B * 2 ^ ((a : Int) - b).toNat ≤ A * 2 ^ (-((a : Int) - b)).toNat) ↔ B * 2 ^ a ≤ A * 2 ^ b := by
    rcases Nat.le_total a b with h | h
    · rw [show ((a : Int) - b).toNat = 0 by omega, show (-((a : Int) - b)).toNat = b - a by omega, Nat.pow_zero, Nat.mul_one]
      have e : A * 2 ^ b = A * 2 ^ (b - a) * 2 ^ a := by rw [Nat.mul_assoc, ← Nat.pow_add, Nat.sub_add_cancel h]
      rw [e]
      exact ⟨fun z => Nat.mul_le_mul_right _ z, fun z => Nat.le_of_mul_le_mul_right z (Nat.two_pow_pos a)⟩
    · rw [show (-((a : Int) - b)).toNat = 0 by omega, show ((a : Int) - b).toNat = a - b by omega, Nat.pow_zero, Nat.mul_one]
      have e : B * 2 ^ a = B * 2 ^ (a - b) * 2 ^ b := by rw [Nat.mul_assoc, ← Nat.pow_add, Nat.sub_add_cancel h]
      rw [e]
      exact ⟨fun z => Nat.mul_le_mul_right _ z, fun z => Nat.le_of_mul_le_mul_right z (Nat.two_pow_pos b)⟩
  have s1 : A * 2 ^ b < 2 ^ (a + 1) * B := Nat.lt_of_lt_of_le (Nat.mul_lt_mul_of_pos_right a2 (Nat.two_pow_pos b)) (Nat.mul_le_mul_left _ b1)
  have s2 : B * 2 ^ a ≤ A * 2 ^ (b + 1) := by
    rw [Nat.mul_comm A]
    exact Nat.mul_le_mul (Nat.le_of_lt b2) a1
  split
  · rename_i h
    exact ⟨a, b, rfl, key.mp h, by rw [Nat.mul_comm B]; exact s1⟩
  · rename_i h
    refine ⟨a, b + 1, by omega, s2, ?_⟩
    have h' : A * 2 ^ b < B * 2 ^ a := Nat.lt_of_not_le fun z => h (key.mpr z)
    rw [Nat.pow_succ, Nat.pow_succ, ← Nat.mul_assoc, ← Nat.mul_assoc]
    omega
theorem fd_near (U V : Nat) (hV : 0 < V) : U / V ≤ FP.Core.nearest U V ∧ FP.Core.nearest U V ≤ U / V + 1 ∧ FP.Core.nearest U V * V ≤ U + V := by
  have h1 : U / V ≤ FP.Core.nearest U V ∧ FP.Core.nearest U V ≤ U / V + 1 := by
    unfold FP.Core.nearest
    generalize U / V = d
    split
    · omega
    · split <;> omega
  refine ⟨h1.1, h1.2, ?_⟩
  have h2 : FP.Core.nearest U V * V ≤ (U / V + 1) * V := Nat.mul_le_mul_right _ h1.2
  have h3 : U / V * V ≤ U := Nat.div_mul_le_self U V
  rw [Nat.add_mul, Nat.one_mul] at h2
  omega
theorem fd_settle {c : Nat} {q : Int} (h1 : c ≤ 9007199254740992) (h2 : -1074 ≤ q) (h3 : q ≤ 970) (h4 : q = -1074 ∨ 4503599627370496 ≤ c) : ∃ (c' : Nat) (q' : Int), FP.Core.settle FP.Core.b64 false c q = .fin false c' q' ∧ fd_ok c' q' ∧ fd_u c' q' = fd_u c q := by
  unfold FP.Core.settle FP.Core.bound
  rw [show 2 ^ FP.Core.b64.p = 9007199254740992 by decide +kernel, fd_qmax, fd_tails]
  by_cases hc : c < 9007199254740992
  · rw [if_pos hc, if_pos (by omega)]
    exact ⟨c, q, rfl, ⟨hc, h2, by omega, h4⟩, rfl⟩
  · rw [if_neg hc, if_pos (by omega)]
    refine ⟨4503599627370496, q + 1, rfl, ⟨by omega, by omega, by omega, Or.inr (Nat.le_refl _)⟩, ?_⟩
    have e : c = 9007199254740992 := by omega
    unfold fd_u
    rw [e, show (q + 1 + 1074).toNat = (q + 1074).toNat + 1 by omega, Nat.pow_succ]
    omega
/-- where the last digit lies -/
theorem fd_quant {A B : Nat} {e : Int} (hA : 0 < A) (hB : 0 < B) : ∃ (q : Int) (x y : Nat), FP.Core.quantum FP.Core.b64 A B e = q ∧ -1074 ≤ q ∧ (q = -1074 ∨ q = (x : Int) - y + e - 52) ∧ (x : Int) - y + e - 52 ≤ q ∧ B * 2 ^ x ≤ A * 2 ^ y ∧ A * 2 ^ y < B * 2 ^ (x + 1) ∧ A * 2 ^ (e - q).toNat < 9007199254740992 * (B * 2 ^ (q - e).toNat) ∧ (q = -1074 ∨ 4503599627370496 * (B * 2 ^ (q - e).toNat) ≤ A * 2 ^ (e - q).toNat) := by
  obtain ⟨x, y, hl, l1, l2⟩ := fd_lead hA hB
  have hq : FP.Core.quantum FP.Core.b64 A B e = max (-1074) ((x : Int) - y + e - 52) := by
    unfold FP.Core.quantum
    rw [hl, fd_qmin, show ((FP.Core.b64.p : Nat) : Int) = 53 from rfl]
    omega
  obtain ⟨q, eq⟩ : ∃ q : Int, q = max (-1074) ((x : Int) - y + e - 52) := ⟨_, rfl⟩
  rw [← eq] at hq
  refine ⟨q, x, y, hq, by omega, by omega, by omega, l1, l2, ?_, ?_⟩
  · have h1 : x + 1 + (e - q).toNat ≤ (q - e).toNat + 53 + y := by omega
    refine Nat.lt_of_mul_lt_mul_right (a := 2 ^ y) ?_
    calc A * 2 ^ (e - q).toNat * 2 ^ y = A * 2 ^ y * 2 ^ (e - q).toNat := Nat.mul_right_comm _ _ _
      _ < B * 2 ^ (x + 1) * 2 ^ (e - q).toNat := Nat.mul_lt_mul_of_pos_right l2 (Nat.two_pow_pos _)
      _ = B * 2 ^ (x + 1 + (e - q).toNat) := by rw [Nat.mul_assoc, ← Nat.pow_add]
      _ ≤ B * 2 ^ ((q - e).toNat + 53 + y) := Nat.mul_le_mul_left _ (Nat.pow_le_pow_right (by omega) h1)
      _ = 9007199254740992 * (B * 2 ^ (q - e).toNat) * 2 ^ y := by
        rw [Nat.pow_add, Nat.pow_add, show (2 : Nat) ^ 53 = 9007199254740992 by decide +kernel]
        generalize 2 ^ (q - e).toNat = u
        generalize 2 ^ y = v
        ac_rfl
  · rcases (show q = -1074 ∨ q = (x : Int) - y + e - 52 by omega) with h | h
    · exact Or.inl h
    · have h1 : (q - e).toNat + 52 + y = x + (e - q).toNat := by omega
      refine Or.inr (Nat.le_of_mul_le_mul_right (c := 2 ^ y) ?_ (Nat.two_pow_pos y))
      calc 4503599627370496 * (B * 2 ^ (q - e).toNat) * 2 ^ y = B * 2 ^ ((q - e).toNat + 52 + y) := by
            rw [Nat.pow_add, Nat.pow_add, show (2 : Nat) ^ 52 = 4503599627370496 by decide +kernel]
            generalize 2 ^ (q - e).toNat = u
            generalize 2 ^ y = v
            ac_rfl
        _ = B * 2 ^ x * 2 ^ (e - q).toNat := by rw [h1, Nat.pow_add, Nat.mul_assoc]
        _ ≤ A * 2 ^ y * 2 ^ (e - q).toNat := Nat.mul_le_mul_right _ l1
        _ = A * 2 ^ (e - q).toNat * 2 ^ y := Nat.mul_right_comm _ _ _
/-- a positive ratio A/B 2^e, rounded: nearly no more than it is, or tiny -/
theorem fd_round {A B : Nat} {e : Int} (hA : 0 < A) (hB : 0 < B) (he : -2200 ≤ e) (hov : A * 2 ^ (e + 3000).toNat < B * 2 ^ 3900) : ∃ (c : Nat) (q : Int), FP.Core.roundRatio FP.Core.b64 false A B e = .fin false c q ∧ fd_ok c q ∧ (4503599627370496 * (fd_u c q * (B * 2 ^ 1926)) ≤ 4503599627370497 * (A * 2 ^ (e + 3000).toNat) ∨ fd_u c q ≤ 9007199254740992) := by
  obtain ⟨q, x, y, hq, g1, g2, g3, l1, l2, g4, g5⟩ := fd_quant (e := e) hA hB
  have hx : (x : Int) - y + e < 900 := by
    have h1 : B * 2 ^ x * 2 ^ (e + 3000).toNat < B * 2 ^ 3900 * 2 ^ y := Nat.lt_of_le_of_lt (Nat.mul_le_mul_right _ l1) (by
      rw [Nat.mul_right_comm]
      exact Nat.mul_lt_mul_of_pos_right hov (Nat.two_pow_pos y))
    rw [Nat.mul_assoc, Nat.mul_assoc, ← Nat.pow_add, ← Nat.pow_add] at h1
    have h2 : (2 : Nat) ^ (x + (e + 3000).toNat) < 2 ^ (3900 + y) := Nat.lt_of_mul_lt_mul_left h1
    have h3 : x + (e + 3000).toNat < 3900 + y := (Nat.pow_lt_pow_iff_right (by omega)).mp h2
    omega
  have hV : 0 < B * 2 ^ (q - e).toNat := Nat.mul_pos hB (Nat.two_pow_pos _)
  obtain ⟨n1, n2, n3⟩ := fd_near (A * 2 ^ (e - q).toNat) (B * 2 ^ (q - e).toNat) hV
  have hd : A * 2 ^ (e - q).toNat / (B * 2 ^ (q - e).toNat) < 9007199254740992 := (Nat.div_lt_iff_lt_mul hV).mpr g4
  have er : FP.Core.roundRatio FP.Core.b64 false A B e = FP.Core.settle FP.Core.b64 false (FP.Core.nearest (A * 2 ^ (e - q).toNat) (B * 2 ^ (q - e).toNat)) q := by
    unfold FP.Core.roundRatio
    rw [if_neg (by omega), hq]
    rfl
  have h4 : q = -1074 ∨ 4503599627370496 ≤ FP.Core.nearest (A * 2 ^ (e - q).toNat) (B * 2 ^ (q - e).toNat) := g5.imp id fun z => Nat.le_trans ((Nat.le_div_iff_mul_le hV).mpr z) n1
  obtain ⟨c, r, s1, s2, s3⟩ := fd_settle (c := FP.Core.nearest (A * 2 ^ (e - q).toNat) (B * 2 ^ (q - e).toNat)) (q := q) (by omega) g1 (by omega) h4
  refine ⟨c, r, er.trans s1, s2, ?_⟩
  rw [s3]
  generalize FP.Core.nearest (A * 2 ^ (e - q).toNat) (B * 2 ^ (q - e).toNat) = c0 at *
  rcases g5 with g5 | g5
  · right
    unfold fd_u
    rw [show (q + 1074).toNat = 0 by omega, Nat.pow_zero, Nat.mul_one]
    omega
  · left
    have k1 : 4503599627370496 * (c0 * (B * 2 ^ (q - e).toNat)) ≤ 4503599627370497 * (A * 2 ^ (e - q).toNat) := by omega
    refine Nat.le_of_mul_le_mul_right (c := 2 ^ (e - q).toNat) ?_ (Nat.two_pow_pos _)
    have e1 : (2 : Nat) ^ (q + 1074).toNat * 2 ^ 1926 * 2 ^ (e - q).toNat = 2 ^ (q - e).toNat * 2 ^ (e + 3000).toNat := by
      rw [← Nat.pow_add, ← Nat.pow_add, ← Nat.pow_add]
      congr 1
      omega
    unfold fd_u
    calc 4503599627370496 * (c0 * 2 ^ (q + 1074).toNat * (B * 2 ^ 1926)) * 2 ^ (e - q).toNat = 4503599627370496 * (c0 * B * (2 ^ (q + 1074).toNat * 2 ^ 1926 * 2 ^ (e - q).toNat)) := by
          generalize 2 ^ (e - q).toNat = u1
          generalize 2 ^ (q + 1074).toNat = u2
          generalize 2 ^ 1926 = u3
          ac_rfl
      _ = 4503599627370496 * (c0 * (B * 2 ^ (q - e).toNat)) * 2 ^ (e + 3000).toNat := by
          rw [e1]
          generalize 2 ^ (q - e).toNat = u1
          generalize 2 ^ (e + 3000).toNat = u2
          ac_rfl
      _ ≤ 4503599627370497 * (A * 2 ^ (e - q).toNat) * 2 ^ (e + 3000).toNat := Nat.mul_le_mul_right _ k1
      _ = 4503599627370497 * (A * 2 ^ (e + 3000).toNat) * 2 ^ (e - q).toNat := by
          generalize 2 ^ (e - q).toNat = u1
          generalize 2 ^ (e + 3000).toNat = u2
          ac_rfl
theorem fd_ok0 : fd_ok 0 (-1074) := ⟨by omega, by omega, by omega, Or.inl rfl⟩
theorem fd_u0 : fd_u 0 (-1074) = 0 := by unfold fd_u; rw [Nat.zero_mul]
theorem fd_rr0 (B : Nat) (e : Int) : FP.Core.roundRatio FP.Core.b64 false 0 B e = .fin false 0 (-1074) := by
  unfold FP.Core.roundRatio
  rw [if_pos rfl, fd_qmin]
/-- times -/
theorem fd_mul {x y : UInt64} {m n : Nat} (hx : fd x m) (hy : fd y n) (hov : m * n < 2 ^ 3048) : ∃ k, fd (FP.dmul x y) k ∧ (4503599627370496 * (k * 2 ^ 1074) ≤ 4503599627370497 * (m * n) ∨ k ≤ 9007199254740992) := by
  obtain ⟨c, q, hx1, hx2, hx3⟩ := hx
  obtain ⟨d, r, hy1, hy2, hy3⟩ := hy
  have hq := hx2.2.1
  have hr := hy2.2.1
  have ed : FP.dmul x y = .ofNat (FP.Core.encode FP.Core.b64 (FP.Core.roundRatio FP.Core.b64 false (c * d) 1 (q + r))) := by
    show UInt64.ofNat (FP.Core.encode FP.Core.b64 (FP.Core.round FP.Core.b64 (FP.Core.exactProduct (FP.Core.decode FP.Core.b64 x.toNat) (FP.Core.decode FP.Core.b64 y.toNat)))) = _
    rw [hx1, hy1]
    rfl
  rw [ed]
  by_cases h0 : c * d = 0
  · rw [h0, fd_rr0]
    exact ⟨0, by rw [← fd_u0]; exact fd_of fd_ok0, Or.inr (by omega)⟩
  · have em : m * n * 2 ^ 852 = c * d * 2 ^ (q + r + 3000).toNat := by
      have e1 : (2 : Nat) ^ (q + 1074).toNat * 2 ^ (r + 1074).toNat * 2 ^ 852 = 2 ^ (q + r + 3000).toNat := by
        rw [← Nat.pow_add, ← Nat.pow_add]
        congr 1
        omega
      rw [hx3, hy3, ← e1]
      unfold fd_u
      generalize 2 ^ (q + 1074).toNat = u1
      generalize 2 ^ (r + 1074).toNat = u2
      generalize 2 ^ 852 = u3
      ac_rfl
    obtain ⟨k, s, r1, r2, r3⟩ := fd_round (A := c * d) (B := 1) (e := q + r) (by omega) (by omega) (by omega) (by
      rw [← em, Nat.one_mul, show (2 : Nat) ^ 3900 = 2 ^ 3048 * 2 ^ 852 by rw [← Nat.pow_add]]
      exact Nat.mul_lt_mul_of_pos_right hov (Nat.two_pow_pos _))
    rw [r1]
    refine ⟨fd_u k s, fd_of r2, r3.imp (fun z => ?_) id⟩
    rw [← em, Nat.one_mul] at z
    refine Nat.le_of_mul_le_mul_right (c := 2 ^ 852) ?_ (Nat.two_pow_pos _)
    rw [show (2 : Nat) ^ 1926 = 2 ^ 1074 * 2 ^ 852 by rw [← Nat.pow_add]] at z
    generalize (2 : Nat) ^ 852 = u1 at *
    generalize (2 : Nat) ^ 1074 = u2 at *
    generalize fd_u k s = u3 at *
    have e1 : 4503599627370496 * (u3 * u2) * u1 = 4503599627370496 * (u3 * (u2 * u1)) := by ac_rfl
    have e2 : 4503599627370497 * (m * n) * u1 = 4503599627370497 * (m * n * u1) := by ac_rfl
    rw [e1, e2]
    exact z
/-- by -/
theorem fd_div {x y : UInt64} {m n : Nat} (hx : fd x m) (hy : fd y n) (hn : 0 < n) (hov : m < n * 2 ^ 900) : ∃ k, fd (FP.ddiv x y) k ∧ (4503599627370496 * (k * n) ≤ 4503599627370497 * (m * 2 ^ 1074) ∨ k ≤ 9007199254740992) := by
  obtain ⟨c, q, hx1, hx2, hx3⟩ := hx
  obtain ⟨d, r, hy1, hy2, hy3⟩ := hy
  have hq := hx2.2
  have hr := hy2.2
  have hd : d ≠ 0 := fun z => by rw [hy3, z] at hn; unfold fd_u at hn; omega
  have ed : FP.ddiv x y = .ofNat (FP.Core.encode FP.Core.b64 (FP.Core.roundRatio FP.Core.b64 false c d (q - r))) := by
    show UInt64.ofNat (FP.Core.encode FP.Core.b64 (FP.Core.quotient FP.Core.b64 (FP.Core.decode FP.Core.b64 x.toNat) (FP.Core.decode FP.Core.b64 y.toNat))) = _
    rw [hx1, hy1]
    show UInt64.ofNat (FP.Core.encode FP.Core.b64 (if d = 0 then (if c = 0 then .nan else .inf (false != false)) else FP.Core.roundRatio FP.Core.b64 (false != false) c d (q - r))) = _
    rw [if_neg hd]
    rfl
  rw [ed]
  by_cases h0 : c = 0
  · rw [h0, fd_rr0]
    exact ⟨0, by rw [← fd_u0]; exact fd_of fd_ok0, Or.inr (by omega)⟩
  · have em : c * 2 ^ (q - r + 3000).toNat * 2 ^ (r + 1074).toNat = m * 2 ^ 3000 := by
      rw [hx3]
      unfold fd_u
      rw [Nat.mul_assoc, ← Nat.pow_add, Nat.mul_assoc, ← Nat.pow_add]
      congr 2
      omega
    have en : ∀ u : Nat, d * u * 2 ^ (r + 1074).toNat = n * u := fun u => by
      rw [hy3]; unfold fd_u; exact Nat.mul_right_comm _ _ _
    obtain ⟨k, s, r1, r2, r3⟩ := fd_round (A := c) (B := d) (e := q - r) (by omega) (by omega) (by omega) (by
      refine Nat.lt_of_mul_lt_mul_right (a := 2 ^ (r + 1074).toNat) ?_
      rw [em, en, show (2 : Nat) ^ 3900 = 2 ^ 900 * 2 ^ 3000 by rw [← Nat.pow_add], ← Nat.mul_assoc]
      exact Nat.mul_lt_mul_of_pos_right hov (Nat.two_pow_pos _))
    rw [r1]
    refine ⟨fd_u k s, fd_of r2, r3.imp (fun z => ?_) id⟩
    have z2 := Nat.mul_le_mul_right (2 ^ (r + 1074).toNat) z
    refine Nat.le_of_mul_le_mul_right (c := 2 ^ 1926) ?_ (Nat.two_pow_pos _)
    have en2 := en (2 ^ 1926)
    rw [show (2 : Nat) ^ 3000 = 2 ^ 1074 * 2 ^ 1926 by rw [← Nat.pow_add]] at em
    generalize (2 : Nat) ^ 1926 = u1 at *
    generalize (2 : Nat) ^ 1074 = u2 at *
    generalize (2 : Nat) ^ (r + 1074).toNat = u4 at *
    generalize (2 : Nat) ^ (q - r + 3000).toNat = u5 at *
    generalize fd_u k s = u3 at *
    have e1 : 4503599627370496 * (u3 * n) * u1 = 4503599627370496 * (u3 * (d * u1)) * u4 := by
      rw [show 4503599627370496 * (u3 * (d * u1)) * u4 = 4503599627370496 * (u3 * (d * u1 * u4)) by ac_rfl, en2]; ac_rfl
    have e2 : 4503599627370497 * (m * u2) * u1 = 4503599627370497 * (c * u5) * u4 := by
      rw [show 4503599627370497 * (c * u5) * u4 = 4503599627370497 * (c * u5 * u4) by ac_rfl, em]; ac_rfl
    rw [e1, e2]
    exact z2
/-- a whole number -/
theorem fd_l2d {z : Nat} (h : z < 9007199254740992) : fd (FP.l2d (Int64.ofInt z)) (z * 2 ^ 1074) := by
  have ez : (Int64.ofInt (z : Int)).toInt = z := o64_ti ⟨by omega, by omega⟩
  have ed : FP.l2d (Int64.ofInt (z : Int)) = .ofNat (FP.Core.encode FP.Core.b64 (FP.Core.roundRatio FP.Core.b64 false z 1 0)) := by
    show UInt64.ofNat (FP.Core.encode FP.Core.b64 (FP.Core.round FP.Core.b64 (FP.Core.ofInt (Int64.ofInt (z : Int)).toInt))) = _
    rw [ez]
    unfold FP.Core.ofInt
    rw [show decide ((z : Int) < 0) = false from decide_eq_false (by omega), Int.natAbs_natCast]
    rfl
  rw [ed]
  by_cases h0 : z = 0
  · subst h0
    rw [fd_rr0, Nat.zero_mul]
    rw [← fd_u0]
    exact fd_of fd_ok0
  · obtain ⟨q, x, y, hq, g1, g2, g3, l1, l2, g4, g5⟩ := fd_quant (A := z) (B := 1) (e := 0) (by omega) (by omega)
    have hx : (x : Int) - y ≤ 52 := by
      have h1 : (2 : Nat) ^ x < 2 ^ (53 + y) := by
        rw [Nat.pow_add, show (2 : Nat) ^ 53 = 9007199254740992 by decide +kernel]
        rw [Nat.one_mul] at l1
        exact Nat.lt_of_le_of_lt l1 (Nat.mul_lt_mul_of_pos_right h (Nat.two_pow_pos y))
      have h3 : x < 53 + y := (Nat.pow_lt_pow_iff_right (by omega)).mp h1
      omega
    have hq0 : q ≤ 0 := by omega
    rw [show (q - 0).toNat = 0 by omega, Nat.pow_zero, Nat.mul_one] at g4 g5
    have er : FP.Core.roundRatio FP.Core.b64 false z 1 0 = FP.Core.settle FP.Core.b64 false (z * 2 ^ (0 - q).toNat) q := by
      unfold FP.Core.roundRatio
      rw [if_neg h0, hq]
      show FP.Core.settle FP.Core.b64 false (FP.Core.nearest (z * 2 ^ (0 - q).toNat) (1 * 2 ^ (q - 0).toNat)) q = _
      rw [show (q - 0).toNat = 0 by omega, Nat.pow_zero, Nat.mul_one]
      unfold FP.Core.nearest
      rw [Nat.mod_one, Nat.div_one, if_pos (by omega)]
    obtain ⟨c, r, s1, s2, s3⟩ := fd_settle (c := z * 2 ^ (0 - q).toNat) (q := q) (by omega) g1 (by omega) (g5.imp id (fun z => by omega))
    rw [er, s1]
    have e : fd_u c r = z * 2 ^ 1074 := by
      rw [s3]
      unfold fd_u
      rw [Nat.mul_assoc, ← Nat.pow_add]
      congr 2
      omega
    rw [← e]
    exact fd_of s2
/-- which is greater -/
theorem fd_cmpI (u v : Int) : compare u v = if u < v then .lt else if u = v then .eq else .gt := rfl
theorem fd_cmp {x y : UInt64} {m n : Nat} (hx : fd x m) (hy : fd y n) (h : ¬ (Op.cmpValue (FP.dcmp x y) .l).toInt ≤ 0) : n < m := by
  obtain ⟨c, q, hx1, hx2, hx3⟩ := hx
  obtain ⟨d, r, hy1, hy2, hy3⟩ := hy
  have hq := hx2.2.1
  have hr := hy2.2.1
  have ed : FP.dcmp x y = some (compare (((c * 2 ^ (q - min q r).toNat : Nat)) : Int) ((d * 2 ^ (r - min q r).toNat : Nat) : Int)) := by
    show FP.Core.order (FP.Core.decode FP.Core.b64 x.toNat) (FP.Core.decode FP.Core.b64 y.toNat) = _
    rw [hx1, hy1]
    rfl
  rw [ed] at h
  by_cases hlt : ((d * 2 ^ (r - min q r).toNat : Nat) : Int) < ((c * 2 ^ (q - min q r).toNat : Nat) : Int)
  · have h1 : d * 2 ^ (r - min q r).toNat < c * 2 ^ (q - min q r).toNat := by omega
    have h2 := Nat.mul_lt_mul_of_pos_right h1 (Nat.two_pow_pos (min q r + 1074).toNat)
    rw [Nat.mul_assoc, Nat.mul_assoc, ← Nat.pow_add, ← Nat.pow_add, show (r - min q r).toNat + (min q r + 1074).toNat = (r + 1074).toNat by omega, show (q - min q r).toNat + (min q r + 1074).toNat = (q + 1074).toNat by omega] at h2
    rw [hx3, hy3]
    exact h2
  · exfalso
    apply h
    generalize ((d * 2 ^ (r - min q r).toNat : Nat) : Int) = v at hlt
    generalize ((c * 2 ^ (q - min q r).toNat : Nat) : Int) = u at hlt
    rcases Int.lt_trichotomy u v with g | g | g
    · rw [fd_cmpI, if_pos g]; decide +kernel
    · rw [fd_cmpI, if_neg (by omega), if_pos g]; decide +kernel
    · exact absurd g hlt
