/-! THE CLASS: need, bestFactor, more -/
theorem neD_rng {R : Nat → Int} {r i j : Nat} {f N : Int} (hN : N ≤ 5000) (hi : i ≤ 99) (hj : j ≤ 99) (hR : RV R) (hr : r < rC R) : -1 ≤ neD R r f i j N ∧ neD R r f i j N ≤ 5198 := by
  have h0 : -1 ≤ neD0 R r f i j N ∧ neD0 R r f i j N ≤ 5000 := by
    unfold neD0
    split
    · exact ndF_rng hN 0
    · exact ngo_rng (fun k => ndF_rng hN k) _
  unfold neD
  split <;> omega
/-- the best factor so far, of the first n, and what is left to be below -/
def bfo (R : Nat → Int) (r i j : Nat) : Nat → Int × Int
  | 0 => (-1, 5000)
  | n + 1 => if neD R r ((101 + n : Nat) : Int) i j (bfo R r i j n).2 = -1 then bfo R r i j n else (((101 + n : Nat) : Int), neD R r ((101 + n : Nat) : Int) i j (bfo R r i j n).2 - 1)
def bfN (R : Nat → Int) (r : Nat) : Nat := if rY R r = 0 then 200 else 1
theorem neD_ge {R : Nat → Int} {r i j : Nat} {f N : Int} : neD R r f i j N = -1 ∨ (0 ≤ neD R r f i j N) := by
  have h0 : neD0 R r f i j N = -1 ∨ 0 ≤ neD0 R r f i j N := by
    unfold neD0
    split
    · unfold ndF cD dd
      have := ddn_rng (t := tB R r f 0) (b := bC R r f) (v := sR R r f 0 i j) (g := goal R) ((N - i - j).toNat + 1) 0
      omega
    · generalize rK R r = n
      cases n with
      | zero => exact Or.inr (by unfold ngo; omega)
      | succ n =>
        have key : ∀ n, ngo (ndF R r f i j N) (rW R r) n = -1 ∨ 0 ≤ ngo (ndF R r f i j N) (rW R r) n := fun n => by
          induction n with
          | zero => exact Or.inr (by unfold ngo; omega)
          | succ n ih =>
            unfold ngo
            repeat' split
            all_goals omega
        exact key (n + 1)
  unfold neD
  split <;> omega
theorem bfo_rng {R : Nat → Int} {r i j : Nat} (hi : i ≤ 99) (hj : j ≤ 99) (hR : RV R) (hr : r < rC R) : ∀ n, -1 ≤ (bfo R r i j n).2 ∧ (bfo R r i j n).2 ≤ 5000 ∧ -1 ≤ (bfo R r i j n).1 ∧ (bfo R r i j n).1 ≤ 101 + n
  | 0 => by unfold bfo; dsimp only; omega
  | n + 1 => by
    have ih := bfo_rng hi hj hR hr n
    have h1 := neD_ge (R := R) (r := r) (i := i) (j := j) (f := ((101 + n : Nat) : Int)) (N := (bfo R r i j n).2)
    unfold bfo
    split
    · omega
    · rename_i q
      have h2 : neD R r ((101 + n : Nat) : Int) i j (bfo R r i j n).2 ≤ 5000 + 1 := by
        have h0 : neD0 R r ((101 + n : Nat) : Int) i j (bfo R r i j n).2 ≤ max 0 ((bfo R r i j n).2 - i - j) := by
          have hF : ∀ k, ndF R r ((101 + n : Nat) : Int) i j (bfo R r i j n).2 k ≤ max 0 ((bfo R r i j n).2 - i - j) := fun k => by
            unfold ndF cD dd
            have := ddn_rng (t := tB R r ((101 + n : Nat) : Int) k) (b := bC R r ((101 + n : Nat) : Int)) (v := sR R r ((101 + n : Nat) : Int) k i j) (g := goal R) (((bfo R r i j n).2 - i - j).toNat + 1) 0
            omega
          unfold neD0
          split
          · exact hF 0
          · generalize rK R r = K
            induction K with
            | zero => unfold ngo; omega
            | succ K ihK =>
              have := hF K
              unfold ngo
              repeat' split
              all_goals omega
        unfold neD at q ⊢
        split
        · omega
        · rename_i q2
          omega
      dsimp only
      omega
section
variable {G : am_G} {dp : Nat} {Q : am_Q} {w s : Nat} {R : Nat → Int} {Z : (Nat → Nat → Option Nat) × (Nat → Nat × Nat) × Nat × Bool} {I : Nat → Nat → Int}
theorem ct_seekSupposed {m : am_M} {x y : Int} (hC : Cl m w s) (h0 : ∀ i j : Nat, x = i → y = j → i ≤ 99 → j ≤ 99 → Q (.inl none) m) (h1 : ¬ (0 ≤ x ∧ x ≤ 99 ∧ 0 ≤ y ∧ y ≤ 99) → Q (.inr 0) m) : T G dp 1 6 M8_seekSupposed [iV x, iV y] m Q := by
  refine T8_seekSupposed (s8_seekSupposed_0 (by omega) (by omega) (fun _ => hC.nx0 (h1 (by omega))) (fun _ _ => hC.nx0 (h1 (by omega))) (fun _ _ _ => hC.nx0 (h1 (by omega))) (fun _ _ _ _ => h0 x.toNat y.toNat (by omega) (by omega) (by omega) (by omega)) (fun _ _ _ _ => hC.nx0 (h1 (by omega))))
theorem q_need {a x y : Int} (hd : 5 ≤ dp) (hC : Cl (I, Z) w s) (hI : CI I w R) (h0 : ∀ r i j : Nat, a = r → r < rC R → r < 3 → x = i → y = j → i ≤ 99 → j ≤ 99 → Q (.inl (some (iV (neD R r (R 3) i j 5000)))) (I, Z)) (h1 : ¬ isR R a → Q (.inr 1) (I, Z)) (h2 : isR R a → ¬ (0 ≤ x ∧ x ≤ 99 ∧ 0 ≤ y ∧ y ≤ 99) → Q (.inr 0) (I, Z)) : T G dp 4 24 M8_need [rV (some 1), iV a, iV x, iV y] (I, Z) Q := by
  have e3 : I (w + 2) 1 = R 3 := hI.2.1.2.2.2.2.1.2.1
  have hf := hI.1.2.2.2.1
  have hcc := hI.1.c
  refine T8_need (s8_need_0 (by omega) (by omega) (by omega) (am_ow hC.o) fun Q' hK hE => ct_contestOf hC hI (fun r er hr hr3 => hK _ _ ?_) (fun q => hE _ _ (h1 q)))
  subst er
  refine s8_need_5 (by omega) (by omega) (by omega) fun Q' hK hE => ct_seekSupposed hC (fun i j ei ej hi hj => hK _ ?_) (fun q => hE _ _ (h2 ⟨by omega, by omega⟩ q))
  subst ei
  subst ej
  refine s8_need_12 (n_p2 := 3) (by omega) (am_ow hC.o) hC.p4 (am_ow hC.now.1) hC.now.2.1.2 (am_rw hC.now.2.2.1.2) fun Q' hK => ?_
  dsimp only
  rw [show (1 : Int).toNat = 1 from rfl, e3]
  exact ct_needed (by omega) hC hI hr hf.1 hf.2 hi hj (by omega) (by omega) (hK _ _ (s8_need_32 (h0 r i j rfl hr hr3 rfl rfl hi hj)))
theorem lp_best {r i j : Nat} {a : Int} (hd : 5 ≤ dp) (hC : Cl (I, Z) w s) (hI : CI I w R) (hr : r < rC R) (hi : i ≤ 99) (hj : j ≤ 99) (h : Q (.inl (some (iV (bfo R r i j (bfN R r)).1))) (I, Z)) : ∀ (t k : Nat) (o9 : Option am_V) {b c : Nat}, bfN R r - k = t → k ≤ bfN R r → X G dp b c M8_bestFactor 42 [some (rV (some 1)), some (iV a), some (iV i), some (iV j), some (rV (some (ec w r))), some (iV ((100 + bfN R r : Nat) : Int)), some (iV (bfo R r i j k).1), some (iV (bfo R r i j k).2), some (iV ((101 + k : Nat) : Int)), o9] [] (I, Z) Q := by
  have hB : bfN R r ≤ 200 := by unfold bfN; split <;> omega
  intro t
  induction t with
  | zero =>
    intro k o9 b c ht hk
    have e : k = bfN R r := by omega
    rw [← e] at h
    exact s8_bestFactor_42 (by omega) (am_ow hC.o) (fun _ => h) (fun c => absurd (by omega) c)
  | succ t ih =>
    intro k o9 b c ht hk
    have ih := fun o9 => ih (k + 1) o9 (b := b) (c := c) (by omega) (by omega)
    have hb := bfo_rng hi hj hI.1 hr k
    unfold bfo at ih
    refine s8_bestFactor_42 (by omega) (am_ow hC.o) (fun c => absurd c (by omega)) (fun _ Q' hK => ct_needed (by omega) hC hI hr (by omega) (by omega) hi hj hb.2.1 hb.1 (hK _ _ ?_))
    have hn := neD_rng (R := R) (r := r) (f := ((101 + k : Nat) : Int)) hb.2.1 hi hj hI.1 hr
    have ew : wr (((101 + k : Nat) : Int) + 1) = ((101 + (k + 1) : Nat) : Int) := by rw [wrs (by omega)]; rfl
    refine s8_bestFactor_61 (fun c1 => ?_) (fun c1 => ?_)
    · rw [if_pos c1] at ih
      rw [ew]
      exact ih _
    · rw [if_neg c1] at ih
      rw [ew, wr_of (z := neD R r ((101 + k : Nat) : Int) i j (bfo R r i j k).2 - 1) (by omega) (by omega)]
      exact ih _
theorem q_bestFactor {a x y : Int} (hd : 5 ≤ dp) (hC : Cl (I, Z) w s) (hI : CI I w R) (h0 : ∀ r i j : Nat, a = r → r < rC R → r < 3 → x = i → y = j → i ≤ 99 → j ≤ 99 → Q (.inl (some (iV (bfo R r i j (bfN R r)).1))) (I, Z)) (h1 : ¬ isR R a → Q (.inr 1) (I, Z)) (h2 : isR R a → ¬ (0 ≤ x ∧ x ≤ 99 ∧ 0 ≤ y ∧ y ≤ 99) → Q (.inr 0) (I, Z)) : T G dp 4 24 M8_bestFactor [rV (some 1), iV a, iV x, iV y] (I, Z) Q := by
  have hcc := hI.1.c
  refine T8_bestFactor (s8_bestFactor_0 (by omega) (by omega) (by omega) (am_ow hC.o) fun Q' hK hE => ct_contestOf hC hI (fun r er hr hr3 => hK _ _ ?_) (fun q => hE _ _ (h1 q)))
  subst er
  have b6 : I (ec w r) 6 = rY R r := (hI.2.1.2.2.2.2.2 r hr).2.1
  refine s8_bestFactor_5 (by omega) (by omega) (by omega) fun Q' hK hE => ct_seekSupposed hC (fun i j ei ej hi hj => hK _ ?_) (fun q => hE _ _ (h2 ⟨by omega, by omega⟩ q))
  subst ei
  subst ej
  have key := fun b c => lp_best (G := G) (dp := dp) (a := r) hd hC hI hr hi hj (h0 r i j rfl hr hr3 rfl rfl hi hj) (bfN R r) 0 none (b := b) (c := c) rfl (by omega)
  have key2 := fun o9 b c => lp_best (G := G) (dp := dp) (a := r) hd hC hI hr hi hj (h0 r i j rfl hr hr3 rfl rfl hi hj) (bfN R r) 0 o9 (b := b) (c := c) rfl (by omega)
  refine s8_bestFactor_12 (am_ow (hC.now.2.2.2 r hr3).2.1) (fun c1 => ?_) (fun c1 => ?_)
  · dsimp only at c1
    rw [b6] at c1
    have e : bfN R r = 1 := by unfold bfN; rw [if_neg c1]
    rw [e] at key2
    exact key2 _ _ _
  · dsimp only at c1
    rw [b6] at c1
    have e : bfN R r = 200 := by unfold bfN; rw [if_pos c1]
    rw [e] at key2
    exact key2 _ _ _
/-- how many clean draws more -/
def moF (R : Nat → Int) (r k : Nat) : Int := cD R r (R 3) k ((rq R r).1 k) 5000
def mo (R : Nat → Int) (r : Nat) : Int := if (rq R r).2.2 = -1 then (if rY R r = 0 then cD R r (R 3) 0 (rq R r).2.1 5000 else ngo (moF R r) (rW R r) (rK R r)) else 0
theorem lp_more {r : Nat} (hd : 4 ≤ dp) (hC : Cl (I, Z) w s) (hI : CI I w R) (hr : r < rC R) (hy : rY R r ≠ 0) (h : Q (.inl (some (iV (ngo (moF R r) (rW R r) (rK R r))))) (I, Z)) : ∀ (t k : Nat) (o6 : Option am_V) {a b : Nat}, rK R r - k = t → k ≤ rK R r → X G dp a b M8_more 61 [some (rV (some 1)), some (iV r), some (rV (some (ec w r))), some (iV (R 3)), some (iV (ngo (moF R r) (rW R r) k)), some (iV k), o6] [] (I, Z) Q := by
  have hc := hI.1.c
  have hct := (hC.now.2.2.2 r (by omega)).2
  obtain ⟨b5, b6, b7, b8, b9, b10, b11⟩ := hI.2.1.2.2.2.2.2 r hr
  have hW := hI.1.w hr
  have hK := hI.1.k hr
  have hf := hI.1.2.2.2.1
  have ha := hC.audit
  have har := ha.2.2.2 r (by omega)
  have e5 : (I, Z).1 (ec w r) 5 = (rK R r : Int) := by dsimp only; rw [b5]; omega
  intro t
  induction t with
  | zero =>
    intro k o6 a b ht hk
    have e : k = rK R r := by omega
    rw [← e] at h
    have hx : (I, Z).1 (ec w r) 5 ≤ (k : Int) := by omega
    exact s8_more_61 (p3 := 49 + r) (n_p2 := 3) (n_p3 := 4) (by omega) (am_ow hct.1) (am_ow hC.o) hC.p6 (am_ow ha.1) ha.2.1.1 (Or.inr rfl) (am_rw ha.2.2.1.1) (fun c => absurd hx c) (fun c => absurd hx c) (fun _ => h) (fun _ _ => h) (fun _ _ _ => h) (fun c => absurd hx c) (fun c => absurd hx c) (h8 := fun c => absurd hx c) (h9 := fun c => absurd hx c) (h12 := fun c => absurd hx c) (h13 := fun c => absurd hx c)
  | succ t ih =>
    intro k o6 a b ht hk
    have ih := fun o6 => ih (k + 1) o6 (a := a) (b := b) (by omega) (by omega)
    have hx : ¬ (I, Z).1 (ec w r) 5 ≤ (k : Int) := by omega
    have hq := rq_rng R r
    unfold ngo at ih
    refine s8_more_61 (p3 := 49 + r) (n_p2 := 3) (n_p3 := 4) (by omega) (am_ow hct.1) (am_ow hC.o) hC.p6 (am_ow ha.1) ha.2.1.1 (Or.inr rfl) (am_rw ha.2.2.1.1) (fun _ _ _ _ => by rw [tnc]; exact har.1.1) (fun _ _ _ _ => am_rw har.2.1) (fun c => absurd c hx) (fun _ c => absurd c (by omega)) (fun _ _ c => ?_) (fun _ _ c c2 => ?_) (fun _ _ c c2 Q' hK' => ?_) (h8 := fun _ _ _ _ => by omega) (h9 := fun _ _ _ _ => by omega) (h12 := fun _ _ _ _ => by omega) (h13 := fun _ _ _ _ => by omega)
    · have := ngo_none (F := moF R r) (w := rW R r) (k := k) c (rK R r - k)
      rw [show k + (rK R r - k) = rK R r by omega, ← c] at this
      rw [← this]; exact h
    · dsimp only at c2
      rw [b7] at c2
      rw [if_neg c, if_pos (by omega)] at ih
      rw [wrs (by omega)]
      exact ih _
    · dsimp only at c2 ⊢
      rw [b7] at c2
      rw [if_neg c, if_neg (by omega)] at ih
      have e9 : I (49 + r) k = (rq R r).1 k := hI.ow hr (by omega)
      rw [tnc, e9]
      refine ct_cleanDraws (by omega) hC hI hr (by omega) hf.1 hf.2 (hq.1 k).1 (hq.1 k).2 (by omega) (hK' _ _ ?_)
      have eF : cD R r (R 3) k ((rq R r).1 k) 5000 = moF R r k := rfl
      rw [eF]
      refine s8_more_114 (fun c3 => ?_) (fun c3 => ?_)
      · rw [if_neg c3] at ih
        rw [wrs (by omega)]
        exact ih _
      · rw [if_pos c3] at ih
        rw [wrs (by omega)]
        exact ih _
theorem q_more {x : Int} (hd : 5 ≤ dp) (hC : Cl (I, Z) w s) (hI : CI I w R) (h0 : ∀ r : Nat, x = r → r < rC R → r < 3 → Q (.inl (some (iV (mo R r)))) (I, Z)) (h1 : ¬ isR R x → Q (.inr 1) (I, Z)) : T G dp 4 24 M8_more [rV (some 1), iV x] (I, Z) Q := by
  have e3 : I (w + 2) 1 = R 3 := hI.2.1.2.2.2.2.1.2.1
  have hf := hI.1.2.2.2.1
  have hcc := hI.1.c
  have hk3 := kN_le R
  refine T8_more (s8_more_0 (by omega) (by omega) (by omega) (am_ow hC.o) fun Q' hK hE => ct_contestOf hC hI (fun r er hr hr3 => hK _ _ ?_) (fun q => hE _ _ (h1 q)))
  subst er
  have hct := (hC.now.2.2.2 r hr3).2
  have b6 : I (ec w r) 6 = rY R r := (hI.2.1.2.2.2.2.2 r hr).2.1
  have hq := rq_rng R r
  have h := h0 r rfl hr hr3
  unfold mo at h
  refine s8_more_5 (by omega) (am_ow hC.o) hC.p6 (am_ow hC.audit.1) fun Q' hK => ct_isDoneV hC.audit hr3 (hI.dn hr) (hK _ _ ?_)
  refine s8_more_14 (n_p2 := 3) (by omega) (am_ow hC.o) hC.p4 (am_ow hC.now.1) hC.now.2.1.2 (am_rw hC.now.2.2.1.2) (am_ow hct.1) hC.p6 (am_ow hC.audit.1) (fun c1 c2 => ?_) (fun c1 c2 Q' hK => ?_) (fun c1 => ?_)
  · have q : (rq R r).2.2 = -1 := by by_cases q : (rq R r).2.2 = -1; exact q; rw [if_neg q] at c1; omega
    dsimp only at c2 ⊢
    rw [b6] at c2
    rw [if_pos q, if_neg c2] at h
    rw [show (1 : Int).toNat = 1 from rfl, e3]
    exact lp_more (by omega) hC hI hr c2 h (rK R r) 0 _ rfl (by omega)
  · have q : (rq R r).2.2 = -1 := by by_cases q : (rq R r).2.2 = -1; exact q; rw [if_neg q] at c1; omega
    dsimp only at c2 hK ⊢
    rw [b6] at c2
    rw [if_pos q, if_pos c2] at h
    rw [show (1 : Int).toNat = 1 from rfl, e3] at hK
    refine ct_latestRisk (k := kN R) hC.audit hr3 hI.k5 hk3 (hK _ _ ?_)
    dsimp only
    have ec2 : I (47 + 6 + r) (kN R) = (rq R r).2.1 := hI.cu hr
    rw [ec2]
    exact s8_more_48 (by omega) (am_ow hC.o) fun Q' hK => ct_cleanDraws (k := 0) (by omega) hC hI hr (by omega) hf.1 hf.2 hq.2.1 hq.2.2 (by omega) (hK _ _ (s8_more_54 h))
  · have q : ¬ (rq R r).2.2 = -1 := fun q => c1 (by rw [if_pos q])
    rw [if_neg q] at h
    exact h
end
