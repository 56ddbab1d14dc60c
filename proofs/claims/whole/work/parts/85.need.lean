/-! THE CLASS: how many draws are needed -/
def dd (t b v g N : Int) : Int := ddn t b v g (N.toNat + 1) 0
section
variable {G : am_G} {dp : Nat} {Q : am_Q} {m : am_M}
theorem ct_drawsDown {t b v N : Int} {l : Nat} (hd : 2 ≤ dp) (h1 : 1 ≤ v) (h2 : v ≤ 10000000000000) (h3 : 0 ≤ t) (h4 : t ≤ 100000) (h5 : 0 ≤ b) (h6 : b ≤ 100000) (hl : 1 ≤ l) (hl2 : l ≤ 500) (hN : N ≤ 5000) (h : Q (.inl (some (iV (dd t b v ((l : Int) * 1000000) N)))) m) : T G dp 0 0 M8_drawsDown [lV v, lV t, lV b, lV ((l : Int) * 1000000), iV N] m Q := by
  unfold dd ddn at h
  have e0 : scn t b v 0 = v := rfl
  rw [e0] at h
  have up : (b ≤ 0 ∨ b ≤ t) → (l : Int) * 1000000 < v → Q (.inl (some (iV (-1)))) m := fun hx hv => by
    rw [if_neg (by omega), ddn_none _ _ (fun j _ _ => by have := scn_up (t := t) (b := b) h1 h2 hx j; omega)] at h
    exact h
  refine T8_drawsDown (s8_drawsDown_0 (by omega) (fun c1 c2 => ?_) (fun c1 c2 c3 => ?_) (fun c1 c2 c3 Q' hK => ?_) (fun c1 => ?_))
  · have a1 := (lc_gt _ _).mp c1
    have a2 := (lc_le _ _).mp c2
    exact up (Or.inl (by omega)) a1
  · have a1 := (lc_gt _ _).mp c1
    have a3 := (lc_ge _ _).mp c3
    exact up (Or.inr a3) a1
  · have a1 := (lc_gt _ _).mp c1
    have a2 := n_le c2
    have a3 := n_ge c3
    rw [if_neg (by omega)] at h
    obtain ⟨v', rfl⟩ : ∃ v' : Nat, v = v' := ⟨v.toNat, by omega⟩
    obtain ⟨t', rfl⟩ : ∃ t' : Nat, t = t' := ⟨t.toNat, by omega⟩
    obtain ⟨b', rfl⟩ : ∃ b' : Nat, b = b' := ⟨b.toNat, by omega⟩
    refine ct_isOutOfReach hl hl2 hN (by omega) (by omega) (by omega) (hK _ _ (s8_drawsDown_34 (fun _ => ?_) (fun c => absurd rfl c))) (fun hout => hK _ _ (s8_drawsDown_34 (fun c => absurd c (by decide)) (fun _ => ?_)))
    · by_cases hn : N < 0
      · rw [show N.toNat = 0 by omega] at h
        exact s8_drawsDown_45 (by omega) (fun _ => h) (fun c => absurd (by omega) c)
      · exact lp_drawsDown (n := N.toNat) (by omega) h1 h2 h3 h4 (by omega) (by omega) (by omega) (by omega) N.toNat 0 (by omega) h
    · rw [ddn_none _ _ (fun j hj1 hj2 => ?_)] at h
      · exact h
      · have q1 := hout j (by omega)
        have q2 := scn_low (t := t') (b := b') h1 h2 h3 a3 j
        have hb : (0 : Int) ≤ (b' : Int) ^ j := Int.pow_nonneg (by omega)
        have q3 : (l : Int) * 1000000 * (b' : Int) ^ j < (v' : Int) * (t' : Int) ^ j := by
          have h2 : ((l * 1000000 * b' ^ j : Nat) : Int) < ((v' * t' ^ j : Nat) : Int) := Int.ofNat_lt.mpr q1
          rw [Int.natCast_mul, Int.natCast_mul, Int.natCast_mul, Int.natCast_pow, Int.natCast_pow] at h2
          exact h2
        exact Int.lt_of_mul_lt_mul_right (Int.lt_of_lt_of_le q3 q2) hb
  · have a1 := n_gt c1
    rw [if_pos a1] at h
    exact h
end
/-- times, by: of a race against a candidate, with a ballot without a mistake -/
def tB (R : Nat → Int) (r : Nat) (f : Int) (k : Nat) : Int := if rY R r = 0 then tms R r f else rT R r (rW R r) + rT R r k
def bC (R : Nat → Int) (r : Nat) (f : Int) : Int := if rY R r = 0 then bys R f 0 else 2 * rT R r (rW R r)
def cD (R : Nat → Int) (r : Nat) (f : Int) (k : Nat) (v N : Int) : Int := dd (tB R r f k) (bC R r f) v (goal R) N
/-- the risk behind what is supposed -/
def sR (R : Nat → Int) (r : Nat) (f : Int) (k : Nat) (i j : Nat) : Int := if rY R r = 0 then scn (tms R r f) (bys R f 1) (scn (tms R r f) (bys R f 2) 1000000000 j) i else if k = rS R r then scn (rT R r (rW R r) + rT R r k) (2 * rT R r k) 1000000000 j else 1000000000
theorem sR_rng (R : Nat → Int) (r : Nat) (f : Int) (k i j : Nat) : 1 ≤ sR R r f k i j ∧ sR R r f k i j ≤ 10000000000000 := by
  unfold sR
  have a := scn_rng (t := tms R r f) (b := bys R f 2) (v := 1000000000) (by omega) (by omega) j
  split
  · exact scn_rng a.1 a.2 i
  · split
    · exact scn_rng (by omega) (by omega) j
    · omega
section
variable {G : am_G} {dp : Nat} {Q : am_Q} {w s : Nat} {R : Nat → Int} {Z : (Nat → Nat → Option Nat) × (Nat → Nat × Nat) × Nat × Bool} {I : Nat → Nat → Int}
theorem ct_cleanDraws {r k : Nat} {f v N : Int} (hd : 3 ≤ dp) (hC : Cl (I, Z) w s) (hI : CI I w R) (hr : r < rC R) (hk : k < 4) (hf : 101 ≤ f) (hf2 : f ≤ 300) (h1 : 1 ≤ v) (h2 : v ≤ 10000000000000) (hN : N ≤ 5000) (h : Q (.inl (some (iV (cD R r f k v N)))) (I, Z)) : T G dp 0 0 M8_cleanDraws [rV (some 1), rV (some (ec w r)), iV k, iV f, lV v, iV N] (I, Z) Q := by
  have hc := hI.1.c
  have hct := (hC.now.2.2.2 r (by omega)).2
  obtain ⟨b5, b6, b7, b8, b9, b10, b11⟩ := hI.2.1.2.2.2.2.2 r hr
  have e3 : I w 3 = R 1 := hI.2.1.2.1
  have hn := hI.1.n
  have hG := hI.1.g hr
  have hW := hI.1.w hr
  have hK := hI.1.k hr
  have hy := hI.1.y hr
  have hl := hI.1.2.2.1
  have htm := hI.1.tm hr hf hf2
  have hby := hI.1.by_ hf hf2 (show -2 ≤ (0 : Int) by omega) (by omega)
  have t1 := hI.1.t r (rW R r)
  have t2 := hI.1.t r k
  have hT : ∀ j, j < 4 → 0 ≤ I (ec w r + 4) j ∧ I (ec w r + 4) j ≤ 200 := fun j hj => by rw [(b10 j hj).1]; exact hI.1.t r j
  obtain ⟨l, el⟩ : ∃ l : Nat, R 2 = l := ⟨(R 2).toNat, by omega⟩
  have eg : goal R = (l : Int) * 1000000 := by unfold goal; rw [el]
  unfold cD tB bC at h
  rw [eg] at h
  refine T8_cleanDraws (s8_cleanDraws_0 (by omega) (am_ow hct.1) (am_ow hC.o) hC.p4 (am_ow hC.now.1) (fun c1 Q' hK' => ?_) (fun c1 Q' hK' => ?_))
  · dsimp only at c1
    rw [b6] at c1
    have hy0 : rY R r = 0 := by omega
    rw [if_pos hy0, if_pos hy0] at h
    dsimp only
    rw [e3]
    refine ct_comparedTimes hct (by omega) (by omega) (by omega) hf2 (by dsimp only; rw [b9]; omega) (by dsimp only; rw [b9]; omega) (hK' _ _ ?_)
    dsimp only
    rw [b9]
    refine s8_cleanDraws_58 (by omega) (am_ow hC.o) hC.p4 (am_ow hC.now.1) fun Q' hK' => ?_
    dsimp only
    rw [e3]
    refine ct_comparedBy (by omega) (by omega) (by omega) hf2 (by omega) (by omega) (hK' _ _ ?_)
    refine s8_cleanDraws_76 (by omega) (am_ow hC.o) hC.p4 (am_ow hC.now.1) fun Q' hK' => ct_goal hC.now hI.2.1 hI.1 (hK' _ _ ?_)
    refine s8_cleanDraws_83 (by omega) fun Q' hK' => ?_
    rw [eg]
    exact ct_drawsDown (t := tms R r f) (b := bys R f 0) (by omega) h1 h2 htm.1 (by omega) hby.1 (by omega) (by omega) (by omega) hN (hK' _ _ (s8_cleanDraws_88 h))
  · dsimp only at c1
    rw [b6] at c1
    have hy0 : ¬ rY R r = 0 := by omega
    rw [if_neg hy0, if_neg hy0] at h
    refine ct_votesOfBoth hct b7 (by omega) hk hT (hK' _ _ ?_)
    dsimp only
    rw [(b10 _ (show rW R r < 4 by omega)).1, (b10 k hk).1]
    refine s8_cleanDraws_13 (n_p1 := 4) (by omega) (am_ow hct.1) hct.2.1.2.2.2.1 (am_rw hct.2.2.2.2.2.1) (am_ow hC.o) hC.p4 (am_ow hC.now.1) (fun Q' hK' => ct_goal hC.now hI.2.1 hI.1 (hK' _ _ ?_)) (h4 := by dsimp only; rw [b7]; omega) (h5 := by dsimp only; rw [b7]; omega)
    dsimp only
    rw [b7, tnc, (b10 _ (show rW R r < 4 by omega)).1, wrl_of (z := 2 * rT R r (rW R r)) (by omega) (by omega)]
    refine s8_cleanDraws_40 (by omega) fun Q' hK' => ?_
    rw [eg]
    exact ct_drawsDown (by omega) h1 h2 (by omega) (by omega) (by omega) (by omega) (by omega) (by omega) hN (hK' _ _ (s8_cleanDraws_45 h))
theorem ct_supposedRisk {r k i j : Nat} {f z : Int} (hd : 2 ≤ dp) (hC : Cl (I, Z) w s) (hI : CI I w R) (hr : r < rC R) (hk : k < 4) (hf : 101 ≤ f) (hf2 : f ≤ 300) (hi : i ≤ 99) (hj : j ≤ 99) (hz : z = if k = rS R r then 1 else 0) (h : Q (.inl (some (lV (sR R r f k i j)))) (I, Z)) : T G dp 0 0 M8_supposedRisk [rV (some 1), rV (some (ec w r)), iV k, iV z, iV f, iV i, iV j] (I, Z) Q := by
  have hc := hI.1.c
  have hct := (hC.now.2.2.2 r (by omega)).2
  obtain ⟨b5, b6, b7, b8, b9, b10, b11⟩ := hI.2.1.2.2.2.2.2 r hr
  have e3 : I w 3 = R 1 := hI.2.1.2.1
  have hn := hI.1.n
  have hG := hI.1.g hr
  have hW := hI.1.w hr
  have hK := hI.1.k hr
  have hy := hI.1.y hr
  have htm := hI.1.tm hr hf hf2
  have hby1 := hI.1.by_ hf hf2 (show -2 ≤ (1 : Int) by omega) (by omega)
  have hby2 := hI.1.by_ hf hf2 (show -2 ≤ (2 : Int) by omega) (by omega)
  have t1 := hI.1.t r (rW R r)
  have t2 := hI.1.t r k
  have hT : ∀ j, j < 4 → 0 ≤ I (ec w r + 4) j ∧ I (ec w r + 4) j ≤ 200 := fun j hj => by rw [(b10 j hj).1]; exact hI.1.t r j
  unfold sR at h
  refine T8_supposedRisk (s8_supposedRisk_0 (by omega) (am_ow hct.1) (am_ow hC.o) hC.p4 (am_ow hC.now.1) (fun c1 Q' hK' => ?_) (fun c1 Q' hK' => ?_))
  · dsimp only at c1
    rw [b6] at c1
    have hy0 : rY R r = 0 := by omega
    rw [if_pos hy0] at h
    dsimp only
    rw [e3]
    refine ct_comparedTimes hct (by omega) (by omega) (by omega) hf2 (by dsimp only; rw [b9]; omega) (by dsimp only; rw [b9]; omega) (hK' _ _ ?_)
    dsimp only
    rw [b9]
    refine s8_supposedRisk_60 (by omega) (am_ow hC.o) hC.p4 (am_ow hC.now.1) fun Q' hK' => ?_
    dsimp only
    rw [e3]
    refine ct_comparedBy (by omega) (by omega) (by omega) hf2 (by omega) (by omega) (hK' _ _ ?_)
    have a := scn_rng (t := tms R r f) (b := bys R f 2) (v := 1000000000) (by omega) (by omega) j
    refine s8_supposedRisk_80 (by omega) fun Q' hK' => ct_repeated (t := tms R r f) (b := bys R f 2) (n := j) (by omega) (by omega) (by omega) htm.1 (by omega) (by omega) (by omega) rfl (by omega) (hK' _ _ ?_)
    refine s8_supposedRisk_85 (by omega) (am_ow hC.o) hC.p4 (am_ow hC.now.1) fun Q' hK' => ?_
    dsimp only
    rw [e3]
    refine ct_comparedBy (by omega) (by omega) (by omega) hf2 (by omega) (by omega) (hK' _ _ ?_)
    exact s8_supposedRisk_104 (by omega) fun Q' hK' => ct_repeated (t := tms R r f) (b := bys R f 1) (n := i) (by omega) a.1 a.2 htm.1 (by omega) (by omega) (by omega) rfl (by omega) (hK' _ _ (s8_supposedRisk_109 h))
  · dsimp only at c1
    rw [b6] at c1
    have hy0 : ¬ rY R r = 0 := by omega
    rw [if_neg hy0] at h
    refine ct_votesOfBoth hct b7 (by omega) hk hT (hK' _ _ ?_)
    dsimp only
    rw [(b10 _ (show rW R r < 4 by omega)).1, (b10 k hk).1]
    refine s8_supposedRisk_13 (n_p1 := 4) (by omega) (am_ow hct.1) hct.2.1.2.2.2.1 (am_rw hct.2.2.2.2.2.1) (fun c2 => ?_) (fun c2 Q' hK' => ?_)
    · rw [hz] at c2
      rw [if_neg (fun q => by rw [if_pos q] at c2; omega)] at h
      exact h
    · have q : k = rS R r := by
        by_cases q : k = rS R r
        · exact q
        · rw [hz, if_neg q] at c2; omega
      rw [if_pos q] at h
      dsimp only
      rw [tnc, (b10 k hk).1, wrl_of (z := 2 * rT R r k) (by omega) (by omega)]
      exact ct_repeated (n := j) (by omega) (by omega) (by omega) (by omega) (by omega) (by omega) (by omega) rfl (by omega) (hK' _ _ (s8_supposedRisk_40 h))
/-- the greatest of some numbers but the winner's; -1: one of them is -1 -/
def ngo (F : Nat → Int) (w : Nat) : Nat → Int
  | 0 => 0
  | n + 1 => if ngo F w n = -1 then -1 else if n = w then ngo F w n else if F n = -1 then -1 else max (ngo F w n) (F n)
theorem ngo_none {F : Nat → Int} {w k : Nat} (h : ngo F w k = -1) : ∀ n, ngo F w (k + n) = -1
  | 0 => h
  | n + 1 => by
    have ih := ngo_none h n
    show (if ngo F w (k + n) = -1 then -1 else _) = _
    rw [if_pos ih]
theorem ngo_rng {F : Nat → Int} {w : Nat} (h : ∀ j, -1 ≤ F j ∧ F j ≤ 5000) : ∀ n, -1 ≤ ngo F w n ∧ ngo F w n ≤ 5000
  | 0 => by unfold ngo; omega
  | n + 1 => by
    have ih := ngo_rng (w := w) h n
    have hn := h n
    unfold ngo
    repeat' split
    all_goals omega
theorem ddn_rng {t b v g : Int} : ∀ f k : Nat, -1 ≤ ddn t b v g f k ∧ ddn t b v g f k < (k + f : Nat)
  | 0, k => by unfold ddn; omega
  | f + 1, k => by
    have ih := ddn_rng (t := t) (b := b) (v := v) (g := g) f (k + 1)
    unfold ddn
    split <;> omega
theorem cD_rng {R : Nat → Int} {r : Nat} {f : Int} {k : Nat} {v N : Int} (h : N ≤ 5000) : -1 ≤ cD R r f k v N ∧ cD R r f k v N ≤ 5000 := by
  have := ddn_rng (t := tB R r f k) (b := bC R r f) (v := v) (g := goal R) (N.toNat + 1) 0
  unfold cD dd
  omega
/-- how many draws a race needs -/
def ndF (R : Nat → Int) (r : Nat) (f : Int) (i j : Nat) (N : Int) (k : Nat) : Int := cD R r f k (sR R r f k i j) (N - i - j)
def neD0 (R : Nat → Int) (r : Nat) (f : Int) (i j : Nat) (N : Int) : Int := if rY R r = 0 then ndF R r f i j N 0 else ngo (ndF R r f i j N) (rW R r) (rK R r)
def neD (R : Nat → Int) (r : Nat) (f : Int) (i j : Nat) (N : Int) : Int := if neD0 R r f i j N = -1 then -1 else i + j + neD0 R r f i j N
theorem ndF_c {R : Nat → Int} {r : Nat} {f : Int} {i j : Nat} {N : Int} (h : rY R r = 0) (k : Nat) : ndF R r f i j N k = ndF R r f i j N 0 := by
  unfold ndF cD tB sR
  rw [if_pos h, if_pos h, if_pos h, if_pos h]
theorem ndF_rng {R : Nat → Int} {r : Nat} {f : Int} {i j : Nat} {N : Int} (h : N ≤ 5000) (k : Nat) : -1 ≤ ndF R r f i j N k ∧ ndF R r f i j N k ≤ 5000 := cD_rng (by omega)
theorem lp_needed {r i j : Nat} {f N : Int} (hd : 4 ≤ dp) (hC : Cl (I, Z) w s) (hI : CI I w R) (hr : r < rC R) (hf : 101 ≤ f) (hf2 : f ≤ 300) (hi : i ≤ 99) (hj : j ≤ 99) (hN : N ≤ 5000) (hN2 : -1 ≤ N) (h : Q (.inl (some (iV (neD R r f i j N)))) (I, Z)) : ∀ (t k : Nat) (o10 o11 o12 : Option am_V) (i7 i8 : Int), rK R r - k = t → k ≤ rK R r → i7 = N - i - j → (rY R r = 0 → i8 = 0 ∧ (k = 0 ∨ k = 1 ∧ rW R r = 0)) → (rY R r ≠ 0 → i8 = ngo (ndF R r f i j N) (rW R r) k) → X G dp 0 0 M8_needed 29 [some (rV (some 1)), some (rV (some (ec w r))), some (iV f), some (iV i), some (iV j), some (iV N), some (iV (rS R r)), some (iV i7), some (iV i8), some (iV k), o10, o11, o12] [] (I, Z) Q := by
  have hc := hI.1.c
  have hct := (hC.now.2.2.2 r (by omega)).2
  obtain ⟨b5, b6, b7, b8, b9, b10, b11⟩ := hI.2.1.2.2.2.2.2 r hr
  have hW := hI.1.w hr
  have hK := hI.1.k hr
  have hy := hI.1.y hr
  have fin : rY R r ≠ 0 → ∀ i8 : Int, i8 = ngo (ndF R r f i j N) (rW R r) (rK R r) → (¬ i8 = -1 → Q (.inl (some (iV (wr (wr ((i : Int) + j) + i8))))) (I, Z)) ∧ (i8 = -1 → Q (.inl (some (iV (-1)))) (I, Z)) := fun hy1 i8 e8 => by
    unfold neD neD0 at h
    rw [if_neg hy1, ← e8] at h
    have hg := ngo_rng (F := ndF R r f i j N) (w := rW R r) (fun j => ndF_rng hN j) (rK R r)
    refine ⟨fun c => ?_, fun c => ?_⟩
    · rw [if_neg c] at h
      rw [wr_of (z := (i : Int) + j) (by omega) (by omega), wr_of (by omega) (by omega)]
      exact h
    · rw [if_pos c] at h; exact h
  intro t
  induction t with
  | zero =>
    intro k o10 o11 o12 i7 i8 ht hk e7 g0 g1
    have e : k = rK R r := by omega
    subst e
    have hy1 : rY R r ≠ 0 := fun q => by have := (g0 q).2; omega
    obtain ⟨f1, f2⟩ := fin hy1 i8 (g1 hy1)
    have hx : (I, Z).1 (ec w r) 5 ≤ ((rK R r : Nat) : Int) := by dsimp only; rw [b5]; omega
    exact s8_needed_29 (by omega) (am_ow hct.1) (am_ow hC.o) (fun _ => s8_needed_136 f1 f2) (fun _ _ => s8_needed_136 f1 f2) (fun c => absurd hx c) (fun c => absurd hx c) (fun c => absurd hx c) (fun c => absurd hx c)
  | succ t ih =>
    intro k o10 o11 o12 i7 i8 ht hk e7 g0 g1
    have hx : ¬ (I, Z).1 (ec w r) 5 ≤ (k : Int) := by dsimp only; rw [b5]; omega
    have stp : k ≠ rW R r → ∀ z : Int, (z = if k = rS R r then 1 else 0) → ¬ i8 = -1 → ∀ Q' : am_Q, (∀ (z : Int) (m' : am_M), X G dp 0 0 M8_needed 85 [some (rV (some 1)), some (rV (some (ec w r))), some (iV f), some (iV i), some (iV j), some (iV N), some (iV (rS R r)), some (iV i7), some (iV i8), some (iV k), o10, o11, o12] [lV z] m' Q → Q' (.inl (some (lV z))) m') → T G (dp - 1) 0 0 M8_supposedRisk [rV (some 1), rV (some (ec w r)), iV k, iV z, iV f, iV i, iV j] (I, Z) Q' := fun hkw z hz hne Q' hK' => by
      have hsr := sR_rng R r f k i j
      refine ct_supposedRisk (by omega) hC hI hr (by omega) hf hf2 hi hj hz (hK' _ _ ?_)
      refine s8_needed_85 (by omega) (am_ow hC.o) fun Q' hK' => ct_cleanDraws (by omega) hC hI hr (by omega) hf hf2 hsr.1 hsr.2 (by omega) (hK' _ _ ?_)
      rw [e7]
      have eF : cD R r f k (sR R r f k i j) (N - i - j) = ndF R r f i j N k := rfl
      rw [eF]
      have hFr := ndF_rng (R := R) (r := r) (f := f) (i := i) (j := j) hN k
      refine s8_needed_99 (am_ow hct.1) (fun c1 c2 => ?_) (fun c1 c2 => s8_needed_136 (fun c3 => ?_) (fun c3 => ?_)) (fun c1 c2 => ?_) (fun c1 c2 => s8_needed_136 (fun c3 => absurd rfl c3) (fun _ => ?_))
      all_goals dsimp only at c2
      all_goals rw [b6] at c2
      · rw [wrs (by omega)]
        refine ih (k + 1) _ _ _ _ _ (by omega) (by omega) rfl (fun q => absurd q c2) (fun q => ?_)
        have e8 := g1 q
        show _ = if ngo (ndF R r f i j N) (rW R r) k = -1 then -1 else _
        rw [← e8, if_neg hne, if_neg hkw, if_neg c1]
      · have e8 := (g0 c2).1
        rw [wr_of (z := (i : Int) + j) (by omega) (by omega), wr_of (by omega) (by omega), e8, show max 0 (ndF R r f i j N k) = ndF R r f i j N k by omega, ndF_c c2]
        unfold neD neD0 at h
        rw [if_pos c2, ← ndF_c c2 k, if_neg c1, ndF_c c2] at h
        exact h
      · have e8 := (g0 c2).1
        exact absurd c3 (by omega)
      · rw [wrs (by omega)]
        refine ih (k + 1) _ _ _ _ _ (by omega) (by omega) rfl (fun q => absurd q c2) (fun q => ?_)
        have e8 := g1 q
        show _ = if ngo (ndF R r f i j N) (rW R r) k = -1 then -1 else _
        rw [← e8, if_neg hne, if_neg hkw, if_pos c1]
      · unfold neD neD0 at h
        rw [if_pos c2, ← ndF_c c2 k, if_pos c1] at h
        exact h
    refine s8_needed_29 (by omega) (am_ow hct.1) (am_ow hC.o) (fun c => absurd c hx) (fun _ c => absurd c (by omega)) (fun _ _ c => s8_needed_136 (fun c2 => absurd c c2) (fun _ => ?_)) (fun _ _ c c2 c3 Q' hK' => ?_) (fun _ _ c c2 c3 Q' hK' => ?_) (fun _ _ c c2 => ?_)
    · have hy1 : rY R r ≠ 0 := fun q => by have := (g0 q).1; omega
      have e8 := g1 hy1
      have := ngo_none (F := ndF R r f i j N) (w := rW R r) (k := k) (by rw [← e8]; exact c) (rK R r - k)
      rw [show k + (rK R r - k) = rK R r by omega] at this
      exact (fin hy1 (-1) this.symm).2 rfl
    · dsimp only at c2
      rw [b7] at c2
      exact stp (by omega) 0 (by rw [if_neg (by omega)]) c Q' hK'
    · dsimp only at c2
      rw [b7] at c2
      exact stp (by omega) 1 (by rw [if_pos (by omega)]) c Q' hK'
    · dsimp only at c2
      rw [b7] at c2
      rw [wrs (by omega)]
      refine ih (k + 1) _ _ _ _ _ (by omega) (by omega) e7 (fun q => ⟨(g0 q).1, Or.inr ?_⟩) (fun q => ?_)
      · have := (g0 q).2
        omega
      · have e8 := g1 q
        show _ = if ngo (ndF R r f i j N) (rW R r) k = -1 then -1 else _
        rw [← e8, if_neg c, if_pos (by omega)]
theorem ct_needed {r i j : Nat} {f N : Int} (hd : 4 ≤ dp) (hC : Cl (I, Z) w s) (hI : CI I w R) (hr : r < rC R) (hf : 101 ≤ f) (hf2 : f ≤ 300) (hi : i ≤ 99) (hj : j ≤ 99) (hN : N ≤ 5000) (hN2 : -1 ≤ N) (h : Q (.inl (some (iV (neD R r f i j N)))) (I, Z)) : T G dp 0 0 M8_needed [rV (some 1), rV (some (ec w r)), iV f, iV i, iV j, iV N] (I, Z) Q := by
  have hc := hI.1.c
  have hct := (hC.now.2.2.2 r (by omega)).2
  obtain ⟨b5, b6, b7, b8, b9, b10, b11⟩ := hI.2.1.2.2.2.2.2 r hr
  have hK := hI.1.k hr
  have e5 : I (ec w r) 5 = rK R r := b5.trans hK.1
  refine T8_needed (s8_needed_0 (by omega) (am_ow hct.1) hct.2.1.2.2.2.1 fun Q' hK' => ?_)
  dsimp only
  rw [b7]
  refine ct_leading hct (am_rw hct.2.2.2.2.2.1) e5 (by omega) (hK' _ _ ?_)
  dsimp only
  have eS : ldg (I (ec w r + 4)) (rW R r) (rK R r) = rS R r := ldg_congr hK.2.1 fun j hj => (b10 j (by omega)).1
  rw [eS]
  refine s8_needed_12 ?_
  rw [wr_of (z := N - i) (by omega) (by omega), wr_of (by omega) (by omega)]
  exact lp_needed hd hC hI hr hf hf2 hi hj hN hN2 h (rK R r) 0 _ _ _ _ _ rfl (by omega) rfl (fun _ => ⟨rfl, Or.inl rfl⟩) (fun _ => rfl)
end
