/-! THE REFERENCE: need, bestFactor, more -/
section
variable {G : am_G} {dp : Nat} {Q : am_Q} {R : Nat → Int} {Z : (Nat → Nat → Option Nat) × (Nat → Nat × Nat) × Nat × Bool}
theorem lp_nc3 {I : Nat → Nat → Int} {r i j : Nat} {f v : Int} (hd : 4 ≤ dp) (hM : Md (I, Z)) (hv : RowV I R) (hR : RV R) (hL : LdV I R) (hr : r < rC R) (hf : 101 ≤ f) (hf2 : f ≤ 300) (hi : i ≤ 99) (hj : j ≤ 99) (h1 : 1 ≤ v) (h2 : v ≤ 10000000000000) : ∀ (t c : Nat), i + j + c + t = 5001 → (ddn (tms R r f) (bys R f 0) v (goal R) t c = -1 → Q (.inl (some (iV (-1)))) (I, Z)) → (∀ A : Nat, ddn (tms R r f) (bys R f 0) v (goal R) t c = A → Q (.inl (some (iV ((i : Int) + j + A)))) (I, Z)) → X G dp 0 0 M9_needByComparing 64 [some (rV (some 103)), some (iV r), some (iV i), some (iV j), some (iV f), some (lV (scn (tms R r f) (bys R f 0) v c)), none, some (iV ((i + j + c : Nat) : Int))] [] (I, Z) Q := by
  intro t
  induction t with
  | zero =>
    intro c ht k1 k2
    have hq := k1 rfl
    exact s9_needByComparing_64 (by omega) (am_ow hM.1) (fun _ _ => hq) (fun _ c => absurd (by omega) c) (fun c => absurd (by omega) c)
  | succ t ih =>
    intro c ht k1 k2
    have hs := scn_rng (t := tms R r f) (b := bys R f 0) h1 h2 c
    unfold ddn at k1 k2
    refine s9_needByComparing_64 (by omega) (am_ow hM.1) (fun c => absurd c (by omega)) (fun c => absurd c (by omega)) (fun _ Q' hK => md_isLittle hM hv hR (fun q => hK _ _ ?_) (fun q => hK _ _ ?_))
    · rw [if_pos q] at k2
      have hq := k2 c rfl
      refine s9_needByComparing_78 (by omega) (am_ow hM.1) (fun _ c => absurd c (by omega)) (fun _ _ => ?_) (fun c => absurd c (by decide))
      rw [show ((i + j + c : Nat) : Int) = (i : Int) + j + c by omega]
      exact hq
    · rw [if_neg q] at k1 k2
      refine s9_needByComparing_78 (by omega) (am_ow hM.1) (fun c => absurd rfl c) (fun c => absurd rfl c) (fun _ Q' hK => md_compared (I := I) (by omega) hM hv hR hL hr (by omega) hs.2 hf hf2 (by omega) (by omega) (hK _ _ (s9_needByComparing_91 ?_)))
      rw [wrs (by omega)]
      exact ih (c + 1) (by omega) k1 k2
theorem lp_nc2 {I : Nat → Nat → Int} {r i j : Nat} {f v : Int} (hd : 4 ≤ dp) (hM : Md (I, Z)) (hv : RowV I R) (hR : RV R) (hL : LdV I R) (hr : r < rC R) (hf : 101 ≤ f) (hf2 : f ≤ 300) (hi : i ≤ 99) (hj : j ≤ 99) (h1 : 1 ≤ v) (h2 : v ≤ 10000000000000) (h : X G dp 0 0 M9_needByComparing 64 [some (rV (some 103)), some (iV r), some (iV i), some (iV j), some (iV f), some (lV (scn (tms R r f) (bys R f 1) v i)), none, some (iV ((i + j + 0 : Nat) : Int))] [] (I, Z) Q) : ∀ (t c : Nat), i - c = t → c ≤ i → X G dp 0 0 M9_needByComparing 35 [some (rV (some 103)), some (iV r), some (iV i), some (iV j), some (iV f), some (lV (scn (tms R r f) (bys R f 1) v c)), none, some (iV c)] [] (I, Z) Q := by
  intro t
  induction t with
  | zero =>
    intro c ht hc
    have e : c = i := by omega
    subst e
    refine s9_needByComparing_35 (by omega) (am_ow hM.1) (fun _ => ?_) (fun c => absurd (by omega) c)
    rw [wr_of (by omega) (by omega), show (c : Int) + j = ((c + j + 0 : Nat) : Int) by omega]
    exact h
  | succ t ih =>
    intro c ht hc
    have hs := scn_rng (t := tms R r f) (b := bys R f 1) h1 h2 c
    refine s9_needByComparing_35 (by omega) (am_ow hM.1) (fun c => absurd c (by omega)) (fun _ Q' hK => md_compared (I := I) (by omega) hM hv hR hL hr (by omega) hs.2 hf hf2 (by omega) (by omega) (hK _ _ (s9_needByComparing_51 ?_)))
    rw [wrs (by omega)]
    exact ih (c + 1) (by omega) (by omega)
theorem lp_nc1 {I : Nat → Nat → Int} {r i j : Nat} {f : Int} (hd : 4 ≤ dp) (hM : Md (I, Z)) (hv : RowV I R) (hR : RV R) (hL : LdV I R) (hr : r < rC R) (hf : 101 ≤ f) (hf2 : f ≤ 300) (hj : j ≤ 99) (h : X G dp 0 0 M9_needByComparing 35 [some (rV (some 103)), some (iV r), some (iV i), some (iV j), some (iV f), some (lV (scn (tms R r f) (bys R f 2) 1000000000 j)), none, some (iV 0)] [] (I, Z) Q) : ∀ (t c : Nat), j - c = t → c ≤ j → X G dp 0 0 M9_needByComparing 8 [some (rV (some 103)), some (iV r), some (iV i), some (iV j), some (iV f), some (lV (scn (tms R r f) (bys R f 2) 1000000000 c)), none, some (iV c)] [] (I, Z) Q := by
  intro t
  induction t with
  | zero =>
    intro c ht hc
    have e : c = j := by omega
    subst e
    exact s9_needByComparing_8 (by omega) (am_ow hM.1) (fun _ => h) (fun c => absurd (by omega) c)
  | succ t ih =>
    intro c ht hc
    have hs := scn_rng (t := tms R r f) (b := bys R f 2) (v := 1000000000) (by omega) (by omega) c
    refine s9_needByComparing_8 (by omega) (am_ow hM.1) (fun c => absurd c (by omega)) (fun _ Q' hK => md_compared (I := I) (by omega) hM hv hR hL hr (by omega) hs.2 hf hf2 (by omega) (by omega) (hK _ _ (s9_needByComparing_24 ?_)))
    rw [wrs (by omega)]
    exact ih (c + 1) (by omega) (by omega)
theorem md_nc {I : Nat → Nat → Int} {r i j : Nat} {f : Int} (hd : 4 ≤ dp) (hM : Md (I, Z)) (hv : RowV I R) (hR : RV R) (hL : LdV I R) (hr : r < rC R) (hy : rY R r = 0) (hf : 101 ≤ f) (hf2 : f ≤ 300) (hi : i ≤ 99) (hj : j ≤ 99) (h : Q (.inl (some (iV (neD R r f i j 5000)))) (I, Z)) : T G dp 0 0 M9_needByComparing [rV (some 103), iV r, iV i, iV j, iV f] (I, Z) Q := by
  have a := scn_rng (t := tms R r f) (b := bys R f 2) (v := 1000000000) (by omega) (by omega) j
  have b := scn_rng (t := tms R r f) (b := bys R f 1) a.1 a.2 i
  have es : sR R r f 0 i j = scn (tms R r f) (bys R f 1) (scn (tms R r f) (bys R f 2) 1000000000 j) i := by unfold sR; rw [if_pos hy]
  have e2 : neD0 R r f i j 5000 = ddn (tms R r f) (bys R f 0) (sR R r f 0 i j) (goal R) (((5000 : Int) - i - j).toNat + 1) 0 := by unfold neD0 ndF cD dd tB bC; rw [if_pos hy, if_pos hy, if_pos hy]
  unfold neD at h
  rw [e2, es] at h
  refine T9_needByComparing (s9_needByComparing_0 (lp_nc1 (by omega) hM hv hR hL hr hf hf2 hj (lp_nc2 (by omega) hM hv hR hL hr hf hf2 hi hj a.1 a.2 ?_ i 0 rfl (by omega)) j 0 rfl (by omega)))
  refine lp_nc3 (by omega) hM hv hR hL hr hf hf2 hi hj b.1 b.2 (((5000 : Int) - i - j).toNat + 1) 0 (by omega) (fun q => ?_) (fun A q => ?_)
  · rw [if_pos q] at h; exact h
  · rw [if_neg (by omega), q] at h; exact h
/-- own risks by polling behind c ballots for the winner -/
def pS (R : Nat → Int) (r : Nat) (own : Nat → Int) (c : Nat) : Nat → Int := fun k => if k < rK R r ∧ k ≠ rW R r then scn (rT R r (rW R r) + rT R r k) (2 * rT R r (rW R r)) (own k) c else own k
theorem pS_step {R : Nat → Int} {r : Nat} {own : Nat → Int} {c : Nat} : ∀ k, stO R r (pS R r own c) (rW R r) k = pS R r own (c + 1) k := fun k => by
  unfold stO
  by_cases q : k < rK R r ∧ k ≠ rW R r
  · rw [if_pos q]
    unfold pS pol
    rw [if_pos q, if_pos q, if_pos (Or.inl rfl), tnc]
    rfl
  · rw [if_neg q]
    unfold pS
    rw [if_neg q, if_neg q]
theorem pS_rng {R : Nat → Int} {r : Nat} {own : Nat → Int} (h : ∀ k, 1 ≤ own k ∧ own k ≤ 10000000000000) (c : Nat) : ∀ k, 1 ≤ pS R r own c k ∧ pS R r own c k ≤ 10000000000000 := fun k => by
  unfold pS
  split
  · exact scn_rng (h k).1 (h k).2 c
  · exact h k
/-- behind j ballots for the rival -/
def pR (R : Nat → Int) (r j : Nat) : Nat → Int := fun k => if k < rK R r ∧ k = rS R r then scn (rT R r (rW R r) + rT R r k) (2 * rT R r k) 1000000000 j else 1000000000
theorem pR_step {R : Nat → Int} {r j : Nat} : ∀ k, stO R r (pR R r j) (rS R r) k = pR R r (j + 1) k := fun k => by
  have hne := rS_ne (R := R) (r := r)
  unfold stO
  by_cases q : k < rK R r ∧ k = rS R r
  · obtain ⟨q1, q2⟩ := q
    subst q2
    rw [if_pos ⟨q1, hne⟩]
    unfold pR pol
    rw [if_pos (Or.inr rfl), if_pos ⟨q1, rfl⟩, if_pos ⟨q1, rfl⟩, tnc]
    rfl
  · have e : pR R r (j + 1) k = 1000000000 := by unfold pR; rw [if_neg q]
    have e2 : pR R r j k = 1000000000 := by unfold pR; rw [if_neg q]
    rw [e]
    by_cases q2 : k < rK R r ∧ k ≠ rW R r
    · rw [if_pos q2]
      unfold pol
      rw [if_neg (fun z => by omega)]
      exact e2
    · rw [if_neg q2]; exact e2
theorem pR_rng {R : Nat → Int} {r j : Nat} : ∀ k, 1 ≤ pR R r j k ∧ pR R r j k ≤ 10000000000000 := fun k => by
  unfold pR
  split
  · exact scn_rng (by omega) (by omega) j
  · omega
theorem pR_sR {R : Nat → Int} {r i j k : Nat} {f : Int} (hy : rY R r ≠ 0) (hk : k < rK R r) : pR R r j k = sR R r f k i j := by
  unfold pR sR
  rw [if_neg hy]
  by_cases q : k = rS R r
  · rw [if_pos ⟨hk, q⟩, if_pos q]
  · rw [if_neg (fun z => q z.2), if_neg q]
theorem lp_np2 {I0 : Nat → Nat → Int} {r i j : Nat} {f : Int} {w2 : Int} (hd : 6 ≤ dp) (hM : Md (I0, Z)) (hv : RowV I0 R) (hR : RV R) (hL : LdV I0 R) (hr : r < rC R) (hy : rY R r ≠ 0) (hf : 101 ≤ f) (hf2 : f ≤ 300) (hi : i ≤ 99) (hj : j ≤ 99) (h : ∀ I' : Nat → Nat → Int, (∀ x, x ≠ 115 → I' x = I0 x) → Q (.inl (some (iV (neD R r f i j 5000)))) (I', Z)) : ∀ (t c : Nat) (I : Nat → Nat → Int), i + j + c + t = 5001 → (∀ x, x ≠ 115 → I x = I0 x) → (∀ k, k < 4 → I 115 (4 * r + k) = pS R r (pR R r j) c k) → (neD0 R r f i j 5000 = -1 ∨ (c : Int) ≤ neD0 R r f i j 5000) → X G dp 0 0 M9_needByPolling 39 [some (rV (some 103)), some (iV r), some (iV j), some (iV i), some (iV w2), some (iV ((i + j + c : Nat) : Int))] [] (I, Z) Q := by
  have hK := hR.k hr
  have hg := goal_rng hR
  have eA : neD0 R r f i j 5000 = ngo (fun k => ddn (rT R r (rW R r) + rT R r k) (2 * rT R r (rW R r)) (sR R r f k i j) (goal R) (((5000 : Int) - i - j).toNat + 1) 0) (rW R r) (rK R r) := by
    unfold neD0
    rw [if_neg hy]
    congr 1
    funext k
    unfold ndF cD dd tB bC
    rw [if_neg hy, if_neg hy]
  have hlt : neD0 R r f i j 5000 < (((5000 : Int) - i - j).toNat + 1 : Nat) := by
    rw [eA]
    exact ngo_lt (by omega) (fun k => by have := (ddn_rng (t := rT R r (rW R r) + rT R r k) (b := 2 * rT R r (rW R r)) (v := sR R r f k i j) (g := goal R) (((5000 : Int) - i - j).toNat + 1) 0).2; omega) _
  intro t
  induction t with
  | zero =>
    intro c I ht hff h1 h2
    have hA : neD0 R r f i j 5000 = -1 := by omega
    have hq := h I hff
    unfold neD at hq
    rw [if_pos hA] at hq
    exact s9_needByPolling_39 (by omega) (am_ow hM.1) (fun _ _ => hq) (fun _ c => absurd (by omega) c) (fun c => absurd (by omega) c)
  | succ t ih =>
    intro c I ht hff h1 h2
    have hvI : RowV I R := fun j hj => by rw [hff 104 (by omega)]; exact hv j hj
    have hLI : LdV I R := hL.same fun x a b => hff x (by omega)
    have hMr : MrV I R r (pS R r (pR R r j) c, grt 0 (rW R r) (pS R r (pR R r j) c) (rK R r), 0) := ⟨fun q => absurd q hy, fun _ => ⟨h1, rfl⟩⟩
    have eG : grt 0 (rW R r) (pS R r (pR R r j) c) (rK R r) = grt 0 (rW R r) (fun k => scn (rT R r (rW R r) + rT R r k) (2 * rT R r (rW R r)) (sR R r f k i j) c) (rK R r) := grt_congr _ fun k hk hkw => by
      unfold pS
      rw [if_pos ⟨hk, hkw⟩, pR_sR (i := i) (f := f) hy hk]
    have hmono : ∀ k, k < rK R r → k ≠ rW R r → ∀ c, scn (rT R r (rW R r) + rT R r k) (2 * rT R r (rW R r)) (sR R r f k i j) c ≤ goal R → scn (rT R r (rW R r) + rT R r k) (2 * rT R r (rW R r)) (sR R r f k i j) (c + 1) ≤ goal R := fun k hk hkw c hle => by
      have hb := sR_big (R := R) (r := r) (f := f) (k := k) (i := i) (j := j) hR hr hf hf2 hk
      have hsr := sR_rng R r f k i j
      have t1 := hR.t r (rW R r)
      have t2 := hR.t r k
      have t3 := hR.tw (r := r) hk
      have hs := scn_rng (t := rT R r (rW R r) + rT R r k) (b := 2 * rT R r (rW R r)) hsr.1 hsr.2 c
      by_cases z : 0 < rT R r (rW R r)
      · have := sc_down (v := scn (rT R r (rW R r) + rT R r k) (2 * rT R r (rW R r)) (sR R r f k i j) c) (t := rT R r (rW R r) + rT R r k) (b := 2 * rT R r (rW R r)) hs.1 (by omega) (by omega) (by omega)
        show sc (scn (rT R r (rW R r) + rT R r k) (2 * rT R r (rW R r)) (sR R r f k i j) c) (rT R r (rW R r) + rT R r k) (2 * rT R r (rW R r)) ≤ goal R
        omega
      · have := scn_up (t := rT R r (rW R r) + rT R r k) (b := 2 * rT R r (rW R r)) hsr.1 hsr.2 (Or.inl (by omega)) c
        omega
    have hdec := dec_all (w := rW R r) (K := rK R r) (F := ((5000 : Int) - i - j).toNat + 1) (c := c) (t := fun k => rT R r (rW R r) + rT R r k) (v := fun k => sR R r f k i j) (b := 2 * rT R r (rW R r)) (g := goal R) (by omega) (by omega) hmono
    rw [← eA, ← eG] at hdec
    refine s9_needByPolling_39 (by omega) (am_ow hM.1) (fun c => absurd c (by omega)) (fun c => absurd c (by omega)) (fun _ Q' hK' => md_riskNow (by omega) hM hvI hR hLI hr hMr (hK' _ _ ?_))
    refine s9_needByPolling_53 (by omega) (am_ow hM.1) fun Q' hK' => md_isLittle hM hvI hR (fun q => hK' _ _ ?_) (fun q => hK' _ _ ?_)
    · have hA := hdec.mp q
      have hq := h I hff
      unfold neD at hq
      rw [if_neg hA.1] at hq
      refine s9_needByPolling_56 (n_p1 := 3) (by omega) (am_ow hM.1) hM.winner.1 (am_rw hM.winner.2) (fun _ c => absurd c (by omega)) (fun _ _ => ?_) (fun c => absurd c (by decide)) (h4 := fun c => absurd c (by decide)) (h5 := fun c => absurd c (by decide))
      rw [show ((i + j + c : Nat) : Int) = (i : Int) + j + neD0 R r f i j 5000 by omega]
      exact hq
    · have hA : neD0 R r f i j 5000 = -1 ∨ ((c + 1 : Nat) : Int) ≤ neD0 R r f i j 5000 := by
        rcases h2 with h2 | h2
        · exact Or.inl h2
        · right
          by_cases z : neD0 R r f i j 5000 ≤ c
          · exact absurd (hdec.mpr ⟨by omega, z⟩) q
          · omega
      have hcc := hR.c
      have ew : (I, Z).1 111 ((r : Int)).toNat = rW R r := hLI.w hr
      refine s9_needByPolling_56 (n_p1 := 3) (by omega) (am_ow hM.1) hM.winner.1 (am_rw hM.winner.2) (fun c => absurd rfl c) (fun c => absurd rfl c) (fun _ Q' hK' => ?_)
      rw [ew]
      refine md_polls (own := pS R r (pR R r j) c) (by omega) hM hvI hR hLI hr h1 (pS_rng pR_rng c) (fun I1 g1 g2 g3 => hK' _ (s9_needByPolling_70 ?_))
      rw [wrs (by omega)]
      exact ih (c + 1) I1 (by omega) (fun x hx => by rw [g1 x hx]; exact hff x hx) (fun k hk => by rw [g2 k hk]; exact pS_step k) hA
theorem lp_np1 {I0 : Nat → Nat → Int} {r i j : Nat} (hd : 6 ≤ dp) (hM : Md (I0, Z)) (hv : RowV I0 R) (hR : RV R) (hL : LdV I0 R) (hr : r < rC R) (hi : i ≤ 99) (hj : j ≤ 99) (h : ∀ I' : Nat → Nat → Int, (∀ x, x ≠ 115 → I' x = I0 x) → (∀ k, k < 4 → I' 115 (4 * r + k) = pR R r j k) → X G dp 0 0 M9_needByPolling 39 [some (rV (some 103)), some (iV r), some (iV j), some (iV i), some (iV (rS R r)), some (iV ((i + j + 0 : Nat) : Int))] [] (I', Z) Q) : ∀ (t c : Nat) (I : Nat → Nat → Int), j - c = t → c ≤ j → (∀ x, x ≠ 115 → I x = I0 x) → (∀ k, k < 4 → I 115 (4 * r + k) = pR R r c k) → X G dp 0 0 M9_needByPolling 15 [some (rV (some 103)), some (iV r), some (iV j), some (iV i), some (iV (rS R r)), some (iV c)] [] (I, Z) Q := by
  intro t
  induction t with
  | zero =>
    intro c I ht hc hf h1
    have e : c = j := by omega
    subst e
    refine s9_needByPolling_15 (by omega) (am_ow hM.1) (fun _ => ?_) (fun c => absurd (by omega) c)
    rw [wr_of (by omega) (by omega), show (i : Int) + c = ((i + c + 0 : Nat) : Int) by omega]
    exact h I hf h1
  | succ t ih =>
    intro c I ht hc hf h1
    have hvI : RowV I R := fun j hj => by rw [hf 104 (by omega)]; exact hv j hj
    have hLI : LdV I R := hL.same fun x a b => hf x (by omega)
    refine s9_needByPolling_15 (by omega) (am_ow hM.1) (fun c => absurd c (by omega)) (fun _ Q' hK' => md_polls (own := pR R r c) (by omega) hM hvI hR hLI hr h1 pR_rng (fun I1 g1 g2 g3 => hK' _ (s9_needByPolling_28 ?_)))
    rw [wrs (by omega)]
    exact ih (c + 1) I1 (by omega) (by omega) (fun x hx => by rw [g1 x hx]; exact hf x hx) (fun k hk => by rw [g2 k hk]; exact pR_step k)
theorem md_np {I : Nat → Nat → Int} {r i j : Nat} {f : Int} (hd : 6 ≤ dp) (hM : Md (I, Z)) (hv : RowV I R) (hR : RV R) (hL : LdV I R) (hr : r < rC R) (hy : rY R r ≠ 0) (hf : 101 ≤ f) (hf2 : f ≤ 300) (hi : i ≤ 99) (hj : j ≤ 99) (h : ∀ I' : Nat → Nat → Int, (∀ x, x ≠ 115 → x ≠ 116 → I' x = I x) → Q (.inl (some (iV (neD R r f i j 5000)))) (I', Z)) : T G dp 0 0 M9_needByPolling [rV (some 103), iV r, iV j, iV i] (I, Z) Q := by
  have hc := hR.c
  have hK := hR.k hr
  refine T9_needByPolling (s9_needByPolling_0 (by omega) (am_ow hM.1) fun Q' hK' => md_clear hM (by omega) (fun I1 g1 g2 g3 g4 g5 => hK' _ ?_))
  have hv1 : RowV I1 R := fun j hj => by rw [g1 104 (by omega) (by omega)]; exact hv j hj
  have hL1 : LdV I1 R := hL.same fun x a b => g1 x (by omega) (by omega)
  refine s9_needByPolling_5 (by omega) (am_ow hM.1) fun Q' hK' => md_second (m := (I1, Z)) (w := rW R r) (by omega) hM hv1 hR hr (hL1.w hr) (hK' _ _ (s9_needByPolling_10 ?_))
  have eS : ldg (fun c => I1 109 (4 * r + c)) (rW R r) (rK R r) = rS R r := ldg_congr hK.2.1 fun j hj => hL1.t hr (by omega)
  dsimp only
  rw [eS]
  refine lp_np1 (I0 := I1) (by omega) hM hv1 hR hL1 hr hi hj (fun I2 k1 k2 => ?_) j 0 I1 rfl (by omega) (fun _ _ => rfl) (fun k hk => ?_)
  · refine lp_np2 (I0 := I2) (by omega) hM (fun j hj => by rw [k1 104 (by omega)]; exact hv1 j hj) hR (hL1.same fun x a b => k1 x (by omega)) hr hy hf hf2 hi hj (fun I3 m1 => h I3 (fun x a b => by rw [m1 x a, k1 x a]; exact g1 x a b)) (5001 - (i + j)) 0 I2 (by omega) (fun _ _ => rfl) (fun k hk => ?_) ?_
    · rw [k2 k hk]
      unfold pS
      split <;> rfl
    · have := neD_ge (R := R) (r := r) (i := i) (j := j) (f := f) (N := 5000)
      have h0 : neD0 R r f i j 5000 = -1 ∨ 0 ≤ neD0 R r f i j 5000 := by
        have key := ngo_rng (F := ndF R r f i j 5000) (w := rW R r) (fun k => ndF_rng (by omega) k) (rK R r)
        have e : neD0 R r f i j 5000 = ngo (ndF R r f i j 5000) (rW R r) (rK R r) := by unfold neD0; rw [if_neg hy]
        omega
      exact h0
  · rw [g2 k hk]
    unfold pR
    split <;> rfl
theorem md_needOf {I : Nat → Nat → Int} {r i j : Nat} {f : Int} (hd : 7 ≤ dp) (hM : Md (I, Z)) (hv : RowV I R) (hR : RV R) (hL : LdV I R) (hr : r < rC R) (hf : 101 ≤ f) (hf2 : f ≤ 300) (hi : i ≤ 99) (hj : j ≤ 99) (h : ∀ I' : Nat → Nat → Int, (∀ x, x ≠ 115 → x ≠ 116 → I' x = I x) → Q (.inl (some (iV (neD R r f i j 5000)))) (I', Z)) : T G dp 0 0 M9_needOf [rV (some 103), iV r, iV i, iV j, iV f] (I, Z) Q := by
  have hc := hR.c
  refine T9_needOf (s9_needOf_0 (by omega) (am_ow hM.1) fun Q' hK => md_wayOf (m := (I, Z)) hM hv (by omega) (hK _ _ ?_))
  exact s9_needOf_5 (by omega) (am_ow hM.1) (fun q Q' hK => md_np (by omega) hM hv hR hL hr q hf hf2 hi hj (fun I1 g1 => hK _ _ (s9_needOf_27 (h I1 g1)))) (fun q Q' hK => md_nc (by omega) hM hv hR hL hr q hf hf2 hi hj (hK _ _ (s9_needOf_17 (s9_needOf_27 (h I (fun _ _ _ => rfl))))))
theorem md_areMistakes {m : am_M} {x y : Int} (hd : 1 ≤ dp) (h0 : ∀ i j : Nat, x = i → y = j → i ≤ 99 → j ≤ 99 → Q (.inl (some (iV 1))) m) (h1 : ¬ (0 ≤ x ∧ x ≤ 99 ∧ 0 ≤ y ∧ y ≤ 99) → Q (.inl (some (iV 0))) m) : T G dp 0 0 M9_areMistakes [iV x, iV y] m Q := by
  refine T9_areMistakes (s9_areMistakes_0 hd fun Q' hK => md_isIn (hK _ _ ?_))
  by_cases q : 0 ≤ x ∧ x ≤ 99
  · rw [if_pos q]
    refine s9_areMistakes_7 hd (fun c => absurd c (by decide)) (fun _ Q' hK => md_isIn (hK _ _ ?_))
    by_cases q2 : 0 ≤ y ∧ y ≤ 99
    · rw [if_pos q2]
      exact s9_areMistakes_17 (fun c => absurd c (by decide)) (fun _ => h0 x.toNat y.toNat (by omega) (by omega) (by omega) (by omega))
    · rw [if_neg q2]
      exact s9_areMistakes_17 (fun _ => h1 (fun z => q2 z.2.2)) (fun c => absurd rfl c)
  · rw [if_neg q]
    exact s9_areMistakes_7 hd (fun _ => h1 (fun z => q ⟨z.1, z.2.1⟩)) (fun c => absurd rfl c)
theorem r_need {I : Nat → Nat → Int} {a x y : Int} (hd : 8 ≤ dp) (hM : Md (I, Z)) (hv : RowV I R) (hR : RV R) (h0 : ∀ r i j : Nat, a = r → r < rC R → x = i → y = j → i ≤ 99 → j ≤ 99 → ∀ I' : Nat → Nat → Int, MF I I' → I' 103 7 = 0 → Q (.inl (some (iV (neD R r (R 3) i j 5000)))) (I', Z)) (h1 : ¬ isR R a → ∀ I' : Nat → Nat → Int, MF I I' → I' 103 7 = 1 → Q (.inl (some (iV 0))) (I', Z)) (h2 : isR R a → ¬ (0 ≤ x ∧ x ≤ 99 ∧ 0 ≤ y ∧ y ≤ 99) → ∀ I' : Nat → Nat → Int, MF I I' → I' 103 7 = 2 → Q (.inl (some (iV 0))) (I', Z)) : T G dp 4 24 M9_need [rV (some 103), iV a, iV x, iV y] (I, Z) Q := by
  have nn : ∀ k : Int, ¬ k ≤ 0 → ¬ (u2 (I, Z).1 103 7 k) 103 7 ≤ 0 := fun k hk => by rw [u2_at]; exact hk
  have n0 : (u2 (I, Z).1 103 7 0) 103 7 ≤ 0 := by rw [u2_at]; exact Int.le_refl _
  have hf := hR.2.2.2.1
  refine T9_need (s9_need_0 (by omega) (am_ow hM.1) fun Q' hK => md_isRace (m := (I, Z)) (by omega) hM hv hR (fun c => hK _ _ ?_) (fun c => hK _ _ ?_))
  · obtain ⟨r, er, hr, hr3⟩ := c.n hR
    subst er
    refine s9_need_6 (by omega) hM.1 (am_ow hM.1) (fun _ Q' hK => md_areMistakes (by omega) (fun i j ei ej hi hj => hK _ _ ?_) (fun q => hK _ _ ?_)) (fun c => absurd c (by decide)) (fun c => absurd c (by decide))
    · subst ei
      subst ej
      refine s9_need_18 (by omega) hM.1 (am_ow hM.1) (fun _ _ Q' hK => ?_) (fun _ c => absurd n0 c) (fun c => absurd c (by decide)) (fun c => absurd c (by decide))
      refine md_layRaces (I := u2 I 103 7 0) (by omega) hM (MF.code.row hv) hR (fun I1 g1 g2 => hK _ ?_)
      have hfm : MF I I1 := MF.code.tr ⟨fun x a b => g1 x (by omega), fun j _ _ _ => by rw [g1 103 (by omega)]⟩
      have hc0 : I1 103 7 = 0 := by rw [g1 103 (by omega)]; exact u2_at
      have hv1 := hfm.row hv
      have e3 : I1 104 3 = R 3 := hv1 3 (by omega)
      refine s9_need_42 (n_p1 := 1514) (by omega) (am_ow hM.1) hM.row.1 (am_rw hM.row.2) fun Q' hK => ?_
      dsimp only
      rw [show (3 : Int).toNat = 3 from rfl, e3]
      refine md_needOf (by omega) hM hv1 hR g2 hr hf.1 hf.2 hi hj (fun I2 k1 => hK _ _ (s9_need_55 (h0 r i j rfl hr rfl rfl hi hj I2 (hfm.tr ⟨fun x a b => k1 x (by omega) (by omega), fun j _ _ _ => by rw [k1 103 (by omega) (by omega)]⟩) (by rw [k1 103 (by omega) (by omega)]; exact hc0))))
    · exact s9_need_18 (by omega) hM.1 (am_ow hM.1) (fun c => absurd rfl c) (fun c => absurd rfl c) (fun _ c => absurd c (nn 2 (by omega))) (fun _ _ => h2 c q _ MF.code u2_at)
  · exact s9_need_6 (by omega) hM.1 (am_ow hM.1) (fun c => absurd rfl c) (fun _ c => absurd c (nn 1 (by omega))) (fun _ _ => h1 c _ MF.code u2_at)
theorem lp_rbest {I0 : Nat → Nat → Int} {r i j : Nat} {a b : Nat} (hd : 8 ≤ dp) (hM : Md (I0, Z)) (hv : RowV I0 R) (hR : RV R) (hL : LdV I0 R) (hr : r < rC R) (hi : i ≤ 99) (hj : j ≤ 99) (h : ∀ I' : Nat → Nat → Int, (∀ x, x ≠ 115 → x ≠ 116 → I' x = I0 x) → Q (.inl (some (iV (rbo (fun n => neD R r ((101 + n : Nat) : Int) i j 5000) 200).1))) (I', Z)) : ∀ (t k : Nat) (I : Nat → Nat → Int) (o7 : Option am_V), k + t = 200 → (∀ x, x ≠ 115 → x ≠ 116 → I x = I0 x) → X G dp a b M9_bestFactor 52 [some (rV (some 103)), some (iV r), some (iV i), some (iV j), some (iV (rbo (fun n => neD R r ((101 + n : Nat) : Int) i j 5000) k).1), some (iV (rbo (fun n => neD R r ((101 + n : Nat) : Int) i j 5000) k).2), some (iV ((101 + k : Nat) : Int)), o7] [] (I, Z) Q := by
  intro t
  induction t with
  | zero =>
    intro k I o7 ht hf
    have e : k = 200 := by omega
    subst e
    exact s9_bestFactor_52 (by omega) (am_ow hM.1) (fun _ => h I hf) (fun c => absurd (by omega) c)
  | succ t ih =>
    intro k I o7 ht hf
    have hvI : RowV I R := fun j hj => by rw [hf 104 (by omega) (by omega)]; exact hv j hj
    have hLI : LdV I R := hL.same fun x a b => hf x (by omega) (by omega)
    have ih := fun I o7 => ih (k + 1) I o7 (by omega)
    have e2 : rbo (fun n => neD R r ((101 + n : Nat) : Int) i j 5000) (k + 1) = if neD R r ((101 + k : Nat) : Int) i j 5000 = -1 then rbo (fun n => neD R r ((101 + n : Nat) : Int) i j 5000) k else if (rbo (fun n => neD R r ((101 + n : Nat) : Int) i j 5000) k).1 = -1 ∨ neD R r ((101 + k : Nat) : Int) i j 5000 < (rbo (fun n => neD R r ((101 + n : Nat) : Int) i j 5000) k).2 then (((101 + k : Nat) : Int), neD R r ((101 + k : Nat) : Int) i j 5000) else rbo (fun n => neD R r ((101 + n : Nat) : Int) i j 5000) k := rfl
    rw [e2] at ih
    clear e2
    refine s9_bestFactor_52 (by omega) (am_ow hM.1) (fun c => absurd c (by omega)) (fun _ Q' hK => md_needOf (by omega) hM hvI hR hLI hr (by omega) (by omega) hi hj (fun I1 g1 => hK _ _ ?_))
    have hf1 : ∀ x, x ≠ 115 → x ≠ 116 → I1 x = I0 x := fun x p q => by rw [g1 x p q]; exact hf x p q
    have ew : wr (((101 + k : Nat) : Int) + 1) = ((101 + (k + 1) : Nat) : Int) := by rw [wrs (by omega)]; rfl
    refine s9_bestFactor_69 (fun c => ?_) (fun c c2 => ?_) (fun c c2 c3 => ?_) (fun c c2 c3 => ?_)
    · rw [if_pos c] at ih
      rw [ew]; exact ih I1 _ hf1
    · rw [if_neg c, if_pos (Or.inl c2)] at ih
      rw [ew]; exact ih I1 _ hf1
    · rw [if_neg c, if_pos (Or.inr c3)] at ih
      rw [ew]; exact ih I1 _ hf1
    · rw [if_neg c, if_neg (fun z => z.elim c2 c3)] at ih
      rw [ew]; exact ih I1 _ hf1
theorem r_bestFactor {I : Nat → Nat → Int} {a x y : Int} (hd : 8 ≤ dp) (hM : Md (I, Z)) (hv : RowV I R) (hR : RV R) (h0 : ∀ r i j : Nat, a = r → r < rC R → x = i → y = j → i ≤ 99 → j ≤ 99 → ∀ I' : Nat → Nat → Int, MF I I' → I' 103 7 = 0 → Q (.inl (some (iV (bfo R r i j (bfN R r)).1))) (I', Z)) (h1 : ¬ isR R a → ∀ I' : Nat → Nat → Int, MF I I' → I' 103 7 = 1 → Q (.inl (some (iV 0))) (I', Z)) (h2 : isR R a → ¬ (0 ≤ x ∧ x ≤ 99 ∧ 0 ≤ y ∧ y ≤ 99) → ∀ I' : Nat → Nat → Int, MF I I' → I' 103 7 = 2 → Q (.inl (some (iV 0))) (I', Z)) : T G dp 4 24 M9_bestFactor [rV (some 103), iV a, iV x, iV y] (I, Z) Q := by
  have nn : ∀ k : Int, ¬ k ≤ 0 → ¬ (u2 (I, Z).1 103 7 k) 103 7 ≤ 0 := fun k hk => by rw [u2_at]; exact hk
  have n0 : (u2 (I, Z).1 103 7 0) 103 7 ≤ 0 := by rw [u2_at]; exact Int.le_refl _
  refine T9_bestFactor (s9_bestFactor_0 (by omega) (am_ow hM.1) fun Q' hK => md_isRace (m := (I, Z)) (by omega) hM hv hR (fun c => hK _ _ ?_) (fun c => hK _ _ ?_))
  · obtain ⟨r, er, hr, hr3⟩ := c.n hR
    subst er
    refine s9_bestFactor_6 (by omega) hM.1 (am_ow hM.1) (fun _ Q' hK => md_areMistakes (by omega) (fun i j ei ej hi hj => hK _ _ ?_) (fun q => hK _ _ ?_)) (fun c => absurd c (by decide)) (fun c => absurd c (by decide))
    · subst ei
      subst ej
      refine s9_bestFactor_18 (by omega) hM.1 (am_ow hM.1) (fun _ _ Q' hK => ?_) (fun _ c => absurd n0 c) (fun c => absurd c (by decide)) (fun c => absurd c (by decide))
      refine md_layRaces (I := u2 I 103 7 0) (by omega) hM (MF.code.row hv) hR (fun I1 g1 g2 => hK _ (s9_bestFactor_42 ?_))
      have hfm : MF I I1 := MF.code.tr ⟨fun x a b => g1 x (by omega), fun j _ _ _ => by rw [g1 103 (by omega)]⟩
      have hc0 : I1 103 7 = 0 := by rw [g1 103 (by omega)]; exact u2_at
      refine lp_rbest (I0 := I1) (by omega) hM (hfm.row hv) hR g2 hr hi hj (fun I2 k1 => ?_) 200 0 I1 _ rfl (fun _ _ _ => rfl)
      rw [best_same hR hr hi hj]
      exact h0 r i j rfl hr rfl rfl hi hj I2 (hfm.tr ⟨fun x a b => k1 x (by omega) (by omega), fun j _ _ _ => by rw [k1 103 (by omega) (by omega)]⟩) (by rw [k1 103 (by omega) (by omega)]; exact hc0)
    · exact s9_bestFactor_18 (by omega) hM.1 (am_ow hM.1) (fun c => absurd rfl c) (fun c => absurd rfl c) (fun _ c => absurd c (nn 2 (by omega))) (fun _ _ => h2 c q _ MF.code u2_at)
  · exact s9_bestFactor_6 (by omega) hM.1 (am_ow hM.1) (fun c => absurd rfl c) (fun _ c => absurd c (nn 1 (by omega))) (fun _ _ => h1 c _ MF.code u2_at)
end
