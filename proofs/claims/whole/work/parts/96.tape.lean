/-! THE TAPE -/
def sb (v : Int) : Int := if v < 128 then v else v - 256
/-- a byte of a number, the highest first -/
def bt (w : Int) (j : Nat) : Int := ian (ishx w (24 - 8 * (j : Int))) 255
theorem o32_tt (y : Int32) : Int32.ofInt y.toInt = y := Int32.ofInt_toInt y
theorem ib8_ti (t : Int32) : ib8 t.toInt = t.toInt.bmod 256 := by
  unfold ib8
  rw [o32_tt, Int8.toInt_toInt32, Int32.toInt_toInt8]
theorem bm8 (x : Int) : x.bmod 256 = if x % 256 < 128 then x % 256 else x % 256 - 256 := by
  rw [Int.bmod_def]
  rfl
theorem bt_gen {sh : Int} {s : Nat} (hs : s = 0 ∨ s = 8 ∨ s = 16 ∨ s = 24) (e1 : ∀ y : Int32, (y >>> (Int32.ofInt sh &&& 31)).toBitVec = y.toBitVec.sshiftRight s) (e2 : ∀ y : Int32, ((y.toUInt32 >>> ((Int32.ofInt sh).toUInt32 &&& Int32.toUInt32 31)).toInt32).toBitVec = y.toBitVec >>> s) (w : Int) : ib8 (ib8 (iushx w sh)) = sb (ian (ishx w sh) 255) ∧ 0 ≤ ian (ishx w sh) 255 ∧ ian (ishx w sh) 255 ≤ 255 := by
  unfold iushx ishx ian
  rw [o32_tt]
  generalize Int32.ofInt w = y
  have e1 := e1 y
  have e2 := e2 y
  generalize y >>> (Int32.ofInt sh &&& 31) = u at *
  generalize (y.toUInt32 >>> ((Int32.ofInt sh).toUInt32 &&& Int32.toUInt32 31)).toInt32 = t at *
  have hN : y.toBitVec.toNat < 4294967296 := y.toBitVec.isLt
  have hy : y.toBitVec.toInt = if 2 * y.toBitVec.toNat < 4294967296 then (y.toBitVec.toNat : Int) else (y.toBitVec.toNat : Int) - 4294967296 := BitVec.toInt_eq_toNat_cond _
  have ht : t.toInt = if 2 * (y.toBitVec.toNat / 2 ^ s) < 4294967296 then ((y.toBitVec.toNat / 2 ^ s : Nat) : Int) else ((y.toBitVec.toNat / 2 ^ s : Nat) : Int) - 4294967296 := by
    have a : t.toInt = t.toBitVec.toInt := rfl
    rw [a, e2, BitVec.toInt_eq_toNat_cond, BitVec.toNat_ushiftRight, Nat.shiftRight_eq_div_pow]
    rfl
  have hu : u.toInt = y.toBitVec.toInt / 2 ^ s := by
    have a : u.toInt = u.toBitVec.toInt := rfl
    rw [a, e1, BitVec.toInt_sshiftRight, Int.shiftRight_eq_div_pow]
    rfl
  have hu2 : u.toInt = if 2 * u.toBitVec.toNat < 4294967296 then (u.toBitVec.toNat : Int) else (u.toBitVec.toNat : Int) - 4294967296 := BitVec.toInt_eq_toNat_cond _
  have ha : (u &&& Int32.ofInt 255).toInt = ((u.toBitVec.toNat % 256 : Nat) : Int) := by
    have a : (u &&& Int32.ofInt 255).toInt = (u.toBitVec &&& 255#32).toInt := rfl
    have b : (u.toBitVec &&& 255#32).toNat = u.toBitVec.toNat % 256 := by
      rw [BitVec.toNat_and]
      have c : (255#32 : BitVec 32).toNat = 2 ^ 8 - 1 := by decide
      rw [c, Nat.and_two_pow_sub_one_eq_mod]
    rw [a, BitVec.toInt_eq_toNat_of_lt (by rw [b]; omega), b]
  have hub := u.toBitVec.isLt
  rw [ib8_ti t]
  have hz : i32 (t.toInt.bmod 256) := by
    rw [bm8]
    unfold i32
    split <;> omega
  have e9 : ib8 (t.toInt.bmod 256) = t.toInt.bmod 256 := by
    have q := ib8_ti (Int32.ofInt (t.toInt.bmod 256))
    rw [o32_ti hz] at q
    rw [q, bm8, bm8]
    omega
  rw [e9, ha, bm8]
  unfold sb
  rcases hs with rfl | rfl | rfl | rfl
  · rw [Nat.pow_zero] at ht
    rw [Int.pow_zero] at hu
    omega
  · rw [show (2 : Nat) ^ 8 = 256 by decide] at ht
    rw [show (2 : Int) ^ 8 = 256 by decide] at hu
    omega
  · rw [show (2 : Nat) ^ 16 = 65536 by decide] at ht
    rw [show (2 : Int) ^ 16 = 65536 by decide] at hu
    omega
  · rw [show (2 : Nat) ^ 24 = 16777216 by decide] at ht
    rw [show (2 : Int) ^ 24 = 16777216 by decide] at hu
    omega
theorem bt_all (w : Int) {j : Nat} (hj : j < 4) : ib8 (ib8 (iushx w (24 - 8 * (j : Int)))) = sb (bt w j) ∧ 0 ≤ bt w j ∧ bt w j ≤ 255 := by
  unfold bt
  rcases (show j = 0 ∨ j = 1 ∨ j = 2 ∨ j = 3 by omega) with rfl | rfl | rfl | rfl
  · exact bt_gen (sh := 24) (s := 24) (by omega) (fun _ => rfl) (fun _ => rfl) w
  · exact bt_gen (sh := 16) (s := 16) (by omega) (fun _ => rfl) (fun _ => rfl) w
  · exact bt_gen (sh := 8) (s := 8) (by omega) (fun _ => rfl) (fun _ => rfl) w
  · exact bt_gen (sh := 0) (s := 0) (by omega) (fun _ => rfl) (fun _ => rfl) w
/-- the tape: bytes, how many -/
def TpC (I : Nat → Nat → Int) (tp : Nat → Int) (n : Nat) : Prop := I 1 1 = n ∧ n ≤ 600 ∧ ∀ j, j < n → I 2 j = sb (tp j)
def TpM (I : Nat → Nat → Int) (tp : Nat → Int) (n : Nat) : Prop := I 103 24 = n ∧ n ≤ 600 ∧ ∀ j, j < n → I 121 j = tp j
def TpB (tp : Nat → Int) : Prop := ∀ j, 0 ≤ tp j ∧ tp j ≤ 255
/-- w's bytes laid from n on -/
def lay (tp : Nat → Int) (n : Nat) (w : Int) (k : Nat) : Nat → Int := fun j => if n ≤ j ∧ j < n + k then bt w (j - n) else tp j
theorem lay_0 {tp : Nat → Int} {n : Nat} {w : Int} : lay tp n w 0 = tp := funext fun j => if_neg (by omega)
theorem lay_at {tp : Nat → Int} {n k : Nat} {w : Int} : lay tp n w (k + 1) (n + k) = bt w k := by
  unfold lay
  rw [if_pos (by omega), show n + k - n = k by omega]
theorem lay_ne {tp : Nat → Int} {n k j : Nat} {w : Int} (h : j ≠ n + k) : lay tp n w (k + 1) j = lay tp n w k j := by
  unfold lay
  by_cases q : n ≤ j ∧ j < n + k
  · rw [if_pos q, if_pos (by omega)]
  · rw [if_neg q, if_neg (by omega)]
theorem lay_B {tp : Nat → Int} {n : Nat} {w : Int} (h : TpB tp) : TpB (lay tp n w 4) := fun j => by
  unfold lay
  split
  · exact (bt_all w (by omega)).2
  · exact h j
/-- five numbers -/
def fed (tp : Nat → Int) (n : Nat) (a b c d e : Int) : Nat → Int := lay (lay (lay (lay (lay tp n a 4) (n + 4) b 4) (n + 8) c 4) (n + 12) d 4) (n + 16) e 4
theorem fed_B {tp : Nat → Int} {n : Nat} {a b c d e : Int} (h : TpB tp) : TpB (fed tp n a b c d e) := lay_B (lay_B (lay_B (lay_B (lay_B h))))
section
variable {G : am_G} {dp : Nat} {Q : am_Q} {w s : Nat} {Z : (Nat → Nat → Option Nat) × (Nat → Nat × Nat) × Nat × Bool}
def FC (I I' : Nat → Nat → Int) : Prop := (∀ x, x ≠ 1 → x ≠ 2 → I' x = I x) ∧ ∀ j, j ≠ 1 → I' 1 j = I 1 j
theorem FC.rf {I : Nat → Nat → Int} : FC I I := ⟨fun _ _ _ => rfl, fun _ _ => rfl⟩
theorem FC.tr {I I1 I2 : Nat → Nat → Int} (h : FC I I1) (h2 : FC I1 I2) : FC I I2 := ⟨fun x a b => by rw [h2.1 x a b]; exact h.1 x a b, fun j a => by rw [h2.2 j a]; exact h.2 j a⟩
theorem lp_put {v : Int} {n : Nat} {tp : Nat → Int} {I0 : Nat → Nat → Int} (hC : Cl (I0, Z) w s) (hn : n + 4 ≤ 600) (h : ∀ I' : Nat → Nat → Int, FC I0 I' → TpC I' (lay tp n v 4) (n + 4) → Q (.inl none) (I', Z)) : ∀ (t k : Nat) (I : Nat → Nat → Int), k + t = 4 → FC I0 I → TpC I (lay tp n v k) (n + k) → X G dp 0 0 M8_putOnTape 3 [some (rV (some 1)), some (iV v), some (iV (24 - 8 * (k : Int)))] [] (I, Z) Q := by
  intro t
  induction t with
  | zero =>
    intro k I ht hf hT
    have e : k = 4 := by omega
    subst e
    exact s8_putOnTape_3 (n_p1 := 600) hC.p.1 hC.tape hC.o (fun _ => h I hf hT) (fun c => absurd (by omega) c) (fun c => absurd (by omega) c) (h4 := fun c => absurd (by omega) c) (h5 := fun c => absurd (by omega) c)
  | succ t ih =>
    intro k I ht hf hT
    have e1 : (I, Z).1 1 1 = ((n + k : Nat) : Int) := hT.1
    have hb := bt_all v (j := k) (by omega)
    refine s8_putOnTape_3 (n_p1 := 600) hC.p.1 hC.tape hC.o (fun c => absurd c (by omega)) (fun _ c => absurd c (by omega)) (fun _ _ => ?_) (h4 := fun _ _ => by omega) (h5 := fun _ _ => by omega)
    rw [e1, tnc, hb.1]
    dsimp only
    rw [u2r (show (1 : Nat) ≠ 2 by omega), hT.1, wrs (by omega), wr_of (z := 24 - 8 * (k : Int) + -8) (by omega) (by omega), show 24 - 8 * (k : Int) + -8 = 24 - 8 * ((k + 1 : Nat) : Int) by omega]
    refine ih (k + 1) _ (by omega) (hf.tr ⟨fun x p q => by rw [u2r p, u2r q], fun j p => by rw [u2n p, u2r (by omega)]⟩) ⟨by rw [u2_at]; rfl, by omega, fun j hj => ?_⟩
    rw [u2r (by omega)]
    by_cases e : j = n + k
    · subst e; rw [u2_at, lay_at]
    · rw [u2n e, lay_ne e]; exact hT.2.2 j (by omega)
theorem ct_tput {v : Int} {n : Nat} {tp : Nat → Int} {I : Nat → Nat → Int} (hC : Cl (I, Z) w s) (hn : n + 4 ≤ 600) (hT : TpC I tp n) (h : ∀ I' : Nat → Nat → Int, FC I I' → TpC I' (lay tp n v 4) (n + 4) → Q (.inl none) (I', Z)) : T G dp 0 0 M8_putOnTape [rV (some 1), iV v] (I, Z) Q :=
  T8_putOnTape (s8_putOnTape_0 (lp_put hC hn h 4 0 I rfl FC.rf (by rw [lay_0]; exact hT)))
theorem q_feed {a b c d e : Int} {n : Nat} {tp : Nat → Int} {I : Nat → Nat → Int} (hd : 1 ≤ dp) (hC : Cl (I, Z) w s) (hT : TpC I tp n) (h1 : ¬ n + 20 ≤ 600 → Q (.inl (some (iV (-1)))) (I, Z)) (h0 : n + 20 ≤ 600 → ∀ I' : Nat → Nat → Int, FC I I' → TpC I' (fed tp n a b c d e) (n + 20) → Q (.inl (some (iV ((n + 20 : Nat) : Int)))) (I', Z)) : T G dp 4 24 M8_feed [rV (some 1), iV a, iV b, iV c, iV d, iV e] (I, Z) Q := by
  have e1 : (I, Z).1 1 1 = n := hT.1
  have hn := hT.2.1
  refine T8_feed (s8_feed_0 hd (am_ow hC.o) (fun q Q' hK => ?_) (fun q => h1 (fun z => q (by rw [e1, wr_of (by omega) (by omega)]; omega))))
  rw [e1, wr_of (by omega) (by omega)] at q
  refine ct_tput hC (by omega) hT (fun I1 f1 t1 => hK _ ?_)
  refine s8_feed_20 hd (am_ow hC.o) fun Q' hK => ct_tput (I := I1) (n := n + 4) hC (by omega) t1 (fun I2 f2 t2 => hK _ ?_)
  refine s8_feed_25 hd (am_ow hC.o) fun Q' hK => ct_tput (I := I2) (n := n + 8) hC (by omega) t2 (fun I3 f3 t3 => hK _ ?_)
  refine s8_feed_30 hd (am_ow hC.o) fun Q' hK => ct_tput (I := I3) (n := n + 12) hC (by omega) t3 (fun I4 f4 t4 => hK _ ?_)
  refine s8_feed_36 hd (am_ow hC.o) fun Q' hK => ct_tput (I := I4) (n := n + 16) hC (by omega) t4 (fun I5 f5 t5 => hK _ ?_)
  refine s8_feed_42 (am_ow hC.o) ?_
  have e5 : (I5, Z).1 1 1 = ((n + 20 : Nat) : Int) := t5.1
  rw [e5]
  exact h0 (by omega) I5 ((((f1.tr f2).tr f3).tr f4).tr f5) t5
end
section
variable {G : am_G} {dp : Nat} {Q : am_Q} {Z : (Nat → Nat → Option Nat) × (Nat → Nat × Nat) × Nat × Bool}
/-- which of five -/
def wk (a b c d e : Int) (k : Nat) : Int := if k < 4 then a else if k < 8 then b else if k < 12 then c else if k < 16 then d else e
theorem fed_at {tp : Nat → Int} {n k : Nat} {a b c d e : Int} (hk : k < 20) : fed tp n a b c d e (n + k) = bt (wk a b c d e k) (k % 4) := by
  unfold fed wk lay
  by_cases h16 : 16 ≤ k
  · rw [if_pos (by omega), if_neg (by omega), if_neg (by omega), if_neg (by omega), if_neg (by omega), show n + k - (n + 16) = k % 4 by omega]
  · rw [if_neg (by omega)]
    by_cases h12 : 12 ≤ k
    · rw [if_pos (by omega), if_neg (by omega), if_neg (by omega), if_neg (by omega), if_pos (by omega), show n + k - (n + 12) = k % 4 by omega]
    · rw [if_neg (by omega)]
      by_cases h8 : 8 ≤ k
      · rw [if_pos (by omega), if_neg (by omega), if_neg (by omega), if_pos (by omega), show n + k - (n + 8) = k % 4 by omega]
      · rw [if_neg (by omega)]
        by_cases h4 : 4 ≤ k
        · rw [if_pos (by omega), if_neg (by omega), if_pos (by omega), show n + k - (n + 4) = k % 4 by omega]
        · rw [if_neg (by omega), if_pos (by omega), if_pos (by omega), show n + k - n = k % 4 by omega]
theorem fed_lo {tp : Nat → Int} {n j : Nat} {a b c d e : Int} (hj : j < n) : fed tp n a b c d e j = tp j := by
  unfold fed lay
  rw [if_neg (by omega), if_neg (by omega), if_neg (by omega), if_neg (by omega), if_neg (by omega)]
theorem lp_rfeed {a b c d e : Int} {n : Nat} {tp : Nat → Int} {I0 : Nat → Nat → Int} {x y : Nat} (hM : Md (I0, Z)) (hn : n + 20 ≤ 600) (h : ∀ I' : Nat → Nat → Int, (∀ x, x ≠ 103 → x ≠ 121 → I' x = I0 x) → (∀ j, j ≠ 24 → I' 103 j = I0 103 j) → TpM I' (fed tp n a b c d e) (n + 20) → Q (.inl (some (iV ((n + 20 : Nat) : Int)))) (I', Z)) : ∀ (t k : Nat) (I : Nat → Nat → Int) (o7 : Option am_V), k + t = 20 → (∀ x, x ≠ 103 → x ≠ 121 → I x = I0 x) → (∀ j, j ≠ 24 → I 103 j = I0 103 j) → I 103 24 = ((n + k : Nat) : Int) → (∀ j, j < n + k → I 121 j = fed tp n a b c d e j) → X G dp x y M9_feed 23 [some (rV (some 103)), some (iV a), some (iV b), some (iV c), some (iV d), some (iV e), some (iV k), o7] [] (I, Z) Q := by
  intro t
  induction t with
  | zero =>
    intro k I o7 ht f1 f2 h24 hT
    have ek : k = 20 := by omega
    subst ek
    have hx : ¬ ¬ (20 : Int) ≤ ((20 : Nat) : Int) := by omega
    have e24 : (I, Z).1 103 24 = ((n + 20 : Nat) : Int) := h24
    refine s9_feed_23 (am_ow hM.1) (fun _ => ?_) (fun c => absurd c hx) (fun c => absurd c hx) (fun c => absurd c hx) (fun c => absurd c hx) (fun c => absurd c hx)
    rw [e24]
    exact h I f1 f2 ⟨h24, by omega, hT⟩
  | succ t ih =>
    intro k I o7 ht f1 f2 h24 hT
    have e24 : (I, Z).1 103 24 = ((n + k : Nat) : Int) := h24
    have stp : ∀ v : Int, v = wk a b c d e k → X G dp x y M9_feed 76 [some (rV (some 103)), some (iV a), some (iV b), some (iV c), some (iV d), some (iV e), some (iV k), o7] [iV v] (I, Z) Q := fun v hv => by
      refine s9_feed_76 (n_p1 := 600) hM.tape.1 hM.tape.2 hM.1 ?_ (h4 := by omega) (h5 := by omega)
      rw [e24, tnc, wrs (by omega), Int.tmod_eq_emod_of_nonneg (by omega), wr_of (z := 8 * ((k : Int) % 4)) (by omega) (by omega), wr_of (z := 24 - 8 * ((k : Int) % 4)) (by omega) (by omega)]
      dsimp only
      rw [u2r (show (103 : Nat) ≠ 121 by omega), h24, wrs (by omega)]
      have eb : ian (ishx v (24 - 8 * ((k : Int) % 4))) 255 = bt (wk a b c d e k) (k % 4) := by
        unfold bt
        rw [hv, show ((k % 4 : Nat) : Int) = (k : Int) % 4 by omega]
      rw [eb]
      refine ih (k + 1) _ _ (by omega) (fun x p q => by rw [u2r p, u2r q]; exact f1 x p q) (fun j p => by rw [u2n p, u2r (by omega)]; exact f2 j p) (by rw [u2_at]; rfl) (fun j hj => ?_)
      rw [u2r (by omega)]
      by_cases ej : j = n + k
      · subst ej; rw [u2_at, fed_at (by omega)]
      · rw [u2n ej]; exact hT j (by omega)
    refine s9_feed_23 (am_ow hM.1) (fun c => absurd c (by omega)) (fun _ a1 a2 a3 a4 => stp _ ?_) (fun _ a1 a2 a3 a4 => stp _ ?_) (fun _ a1 a2 a3 => stp _ ?_) (fun _ a1 a2 => stp _ ?_) (fun _ a1 => stp _ ?_)
    all_goals unfold wk
    · rw [if_neg (by omega), if_neg (by omega), if_neg (by omega), if_neg (by omega)]
    · rw [if_neg (by omega), if_neg (by omega), if_neg (by omega), if_pos (by omega)]
    · rw [if_neg (by omega), if_neg (by omega), if_pos (by omega)]
    · rw [if_neg (by omega), if_pos (by omega)]
    · rw [if_pos (by omega)]
theorem r_feed {a b c d e : Int} {n : Nat} {tp : Nat → Int} {I : Nat → Nat → Int} (hM : Md (I, Z)) (hT : TpM I tp n) (h1 : ¬ n + 20 ≤ 600 → ∀ I' : Nat → Nat → Int, MF I I' → Q (.inl (some (iV (-1)))) (I', Z)) (h0 : n + 20 ≤ 600 → ∀ I' : Nat → Nat → Int, (∀ x, x ≠ 103 → x ≠ 121 → I' x = I x) → (∀ j, j ≠ 7 → j ≠ 24 → I' 103 j = I 103 j) → TpM I' (fed tp n a b c d e) (n + 20) → Q (.inl (some (iV ((n + 20 : Nat) : Int)))) (I', Z)) : T G dp 4 24 M9_feed [rV (some 103), iV a, iV b, iV c, iV d, iV e] (I, Z) Q := by
  have e1 : (u2 (I, Z).1 103 7 0) 103 24 = n := by rw [u2n (by omega)]; exact hT.1
  have hn := hT.2.1
  refine T9_feed (s9_feed_0 hM.1 (fun q => ?_) (fun q => h1 (fun z => q (by rw [e1, wr_of (by omega) (by omega)]; omega)) _ MF.code))
  rw [e1, wr_of (by omega) (by omega)] at q
  refine lp_rfeed (I0 := u2 I 103 7 0) (n := n) (tp := tp) hM (by omega) (fun I' f1 f2 t => h0 (by omega) I' (fun x p q => by rw [f1 x p q, u2r p]) (fun j p q => by rw [f2 j q, u2n p]) t) 20 0 _ _ rfl (fun _ _ _ => rfl) (fun _ _ => rfl) (by rw [u2n (by omega)]; exact hT.1) (fun j hj => ?_)
  rw [u2r (by omega), fed_lo (by omega)]
  exact hT.2.2 j (by omega)
theorem r_fault {I : Nat → Nat → Int} (hM : Md (I, Z)) (h : Q (.inl (some (iV (I 103 32)))) (u2 I 103 7 0, Z)) : T G dp 4 24 M9_fault [rV (some 103)] (I, Z) Q := by
  refine T9_fault (s9_fault_0 hM.1 ?_)
  dsimp only
  rw [u2n (by omega)]
  exact h
end
