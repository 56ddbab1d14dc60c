/-! THE CLASS: chance, enough, flips, fault, said -/
def chs (n wo c : Int) : Int := if n ≤ 0 then c else (c * wo + n - 1) / n
def chn (n wo : Int) : Nat → Int
  | 0 => 1000000000
  | k + 1 => chs n wo (chn n wo k)
theorem chs_rng {n wo c : Int} (h1 : 0 ≤ wo) (h2 : wo ≤ n) (h3 : 0 ≤ c) : 0 ≤ chs n wo c ∧ chs n wo c ≤ c := by
  unfold chs
  split
  · omega
  · rename_i q
    have hm := Int.mul_nonneg h3 h1
    have hm2 : c * wo ≤ c * n := Int.mul_le_mul_of_nonneg_left h2 h3
    refine ⟨Int.ediv_nonneg (by omega) (by omega), ?_⟩
    have h : (c * wo + n - 1) / n < c + 1 := Int.ediv_lt_of_lt_mul (by omega) (by rw [Int.add_mul]; omega)
    omega
theorem chn_rng {n wo : Int} (h1 : 0 ≤ wo) (h2 : wo ≤ n) : ∀ k, 0 ≤ chn n wo k ∧ chn n wo k ≤ 1000000000
  | 0 => by unfold chn; omega
  | k + 1 => by
    have ih := chn_rng h1 h2 k
    have := chs_rng h1 h2 ih.1
    unfold chn
    omega
/-- how many ballots have no mistake above 0 -/
def wo (R : Nat → Int) (r : Nat) : Int := R 1 - mky (rM R r) (rN R)
theorem wo_rng {R : Nat → Int} (hR : RV R) (r : Nat) : 0 ≤ wo R r ∧ wo R r ≤ R 1 ∧ wo R r ≤ 200 := by
  have h1 := mky_rng (rM R r) (rN R)
  have h2 := hR.n
  unfold wo
  omega
theorem mky_congr {f g : Nat → Int} : ∀ n : Nat, (∀ j, j < n → f j = g j) → mky f n = mky g n
  | 0, _ => rfl
  | n + 1, h => by
    unfold mky
    rw [mky_congr n (fun j hj => h j (by omega)), h n (by omega)]
/-- the first k from k on at which it is at most g -/
def engo (n w g : Int) : Nat → Nat → Int
  | 0, _ => -1
  | t + 1, k => if chn n w k ≤ g then k else engo n w g t (k + 1)
theorem chn_stuck {n w : Int} {k : Nat} (h : chn n w (k + 1) = chn n w k) : ∀ j, chn n w (k + j) = chn n w k
  | 0 => rfl
  | j + 1 => by
    have ih := chn_stuck h j
    show chs n w (chn n w (k + j)) = _
    rw [ih]; exact h
theorem engo_stuck {n w g c : Int} (hg : ¬ c ≤ g) : ∀ t k : Nat, (∀ j, k ≤ j → chn n w j = c) → engo n w g t k = -1
  | 0, _, _ => rfl
  | t + 1, k, h => by
    unfold engo
    rw [h k (Nat.le_refl _), if_neg hg]
    exact engo_stuck hg t (k + 1) (fun j hj => h j (by omega))
def fgo (T : Nat → Int) (w : Nat) : Nat → Int × Int
  | 0 => (-1, -1)
  | n + 1 => if n = w then fgo T w n else if (fgo T w n).1 = -1 ∨ flp T w n < (fgo T w n).2 then (n, flp T w n) else fgo T w n
theorem fgo_rng {T : Nat → Int} {w : Nat} (h : ∀ j, 0 ≤ T j ∧ T j ≤ 200) : ∀ n : Nat, -1 ≤ (fgo T w n).1 ∧ (fgo T w n).1 < n ∧ -1000 ≤ (fgo T w n).2 ∧ (fgo T w n).2 ≤ 1000
  | 0 => by unfold fgo; dsimp only; omega
  | n + 1 => by
    have ih := fgo_rng (w := w) h n
    have h1 := h w
    have h2 := h n
    have hf : -1000 ≤ flp T w n ∧ flp T w n ≤ 1000 := by unfold flp; split <;> omega
    unfold fgo
    split
    · omega
    · split
      · dsimp only; omega
      · omega
section
variable {G : am_G} {dp : Nat} {Q : am_Q} {w s : Nat} {R : Nat → Int} {Z : (Nat → Nat → Option Nat) × (Nat → Nat × Nat) × Nat × Bool} {I : Nat → Nat → Int}
theorem ct_rarer {v u : Int} (hC : Cl (I, Z) w s) (hI : CI I w R) (h1 : 0 ≤ v) (h2 : v ≤ 1000000000) (h3 : 0 ≤ u) (h4 : u ≤ 200) (h : Q (.inl (some (lV (chs (R 1) u v)))) (I, Z)) : T G dp 0 0 M8_rarer [rV (some 1), lV v, iV u] (I, Z) Q := by
  have e3 : I w 3 = R 1 := hI.2.1.2.1
  have hN := hI.1.n
  have hm := mul_bd h1 h2 h3 h4
  unfold chs at h
  refine T8_rarer (s8_rarer_0 (am_ow hC.o) hC.p4 (am_ow hC.now.1) (fun c => ?_) (fun c => ?_))
  all_goals dsimp only at c ⊢
  · rw [e3] at c ⊢
    rw [if_neg (by omega)] at h
    have hq := div_bd (x := v * u + R 1 - 1) (b := R 1) (by omega) (by omega)
    rw [wrl_of (z := v * u) (by omega) (by omega), wrl_of (z := v * u + R 1) (by omega) (by omega), wrl_of (z := v * u + R 1 - 1) (by omega) (by omega), Int.tdiv_eq_ediv_of_nonneg (by omega), wrl_of (by omega) (by omega)]
    exact h
  · rw [e3] at c
    rw [if_pos (by omega)] at h
    exact h
theorem ct_mk {r : Nat} (hC : Cl (I, Z) w s) (hI : CI I w R) (hr : r < rC R) (h : Q (.inl (some (iV (mky (rM R r) (rN R))))) (I, Z)) : T G dp 0 0 M2_mistaken [rV (some (ec w r)), iV (I w 3)] (I, Z) Q := by
  have hN := hI.1.n
  have hc := hI.1.c
  have e3 : I w 3 = R 1 := hI.2.1.2.1
  have hcv := (hI.2.1.2.2.2.2.2 r hr).2.2.2.2.2.2
  rw [e3, hN.1]
  refine ct_mistaken (hC.now.2.2.2 r (by omega)).2 hN.2 ?_
  dsimp only
  rw [mky_congr (f := I (ec w r + 3)) (g := rM R r) (rN R) (fun j hj => (hcv j hj).2.2)]
  exact h
theorem lp_chance {r n : Nat} {j : Int} (hd : 1 ≤ dp) (hC : Cl (I, Z) w s) (hI : CI I w R) (hj : j = n) (hn : n ≤ 300) (h : Q (.inl (some (lV (chn (R 1) (wo R r) n)))) (I, Z)) : ∀ (t k : Nat) {a b : Nat}, n - k = t → k ≤ n → X G dp a b M8_chance 56 [some (rV (some 1)), some (iV r), some (iV j), some (rV (some (ec w r))), some (iV (wo R r)), some (lV (chn (R 1) (wo R r) k)), none, some (iV k)] [] (I, Z) Q := by
  have hw := wo_rng hI.1 r
  intro t
  induction t with
  | zero =>
    intro k a b ht hk
    have e : k = n := by omega
    subst e
    exact s8_chance_56 hd (am_ow hC.o) (fun _ => h) (fun c1 => absurd (by omega) c1)
  | succ t ih =>
    intro k a b ht hk
    have hr := chn_rng (n := R 1) (wo := wo R r) hw.1 hw.2.1 k
    refine s8_chance_56 hd (am_ow hC.o) (fun c1 => absurd c1 (by omega)) (fun c1 Q' hK => ct_rarer hC hI hr.1 hr.2 hw.1 hw.2.2 (hK _ _ (s8_chance_70 ?_)))
    rw [wrs (by omega)]
    exact ih (k + 1) (by omega) (by omega)
theorem q_chance {i j : Int} (hd : 2 ≤ dp) (hC : Cl (I, Z) w s) (hI : CI I w R) (h0 : ∀ r n : Nat, i = r → r < rC R → r < 3 → j = n → n ≤ 300 → Q (.inl (some (lV (chn (R 1) (wo R r) n)))) (I, Z)) (h1 : ¬ isR R i → Q (.inr 1) (I, Z)) (h2 : ∀ r : Nat, i = r → r < rC R → ¬ (0 ≤ j ∧ j ≤ 300) → Q (.inr 0) (I, Z)) : T G dp 4 24 M8_chance [rV (some 1), iV i, iV j] (I, Z) Q := by
  refine T8_chance (s8_chance_0 (by omega) (by omega) (by omega) (am_ow hC.o) fun Q' hK hE => ct_contestOf hC hI (fun r er hr hr3 => hK _ _ ?_) (fun q => hE _ _ (h1 q)))
  subst er
  have hct := (hC.now.2.2.2 r hr3).2
  have hm := mky_rng (rM R r) (rN R)
  have hN := hI.1.n
  have e3 : I w 3 = R 1 := hI.2.1.2.1
  refine s8_chance_5 (by omega) (by omega) (by omega) (am_ow hC.o) hC.p4 (am_ow hC.now.1) (am_ow hct.1) (fun c1 => hC.nx0 (h2 r rfl hr (by omega))) (fun c1 c2 Q' hK => ct_mk hC hI hr (hK _ _ (s8_chance_45 ?_))) (fun c1 c2 => hC.nx0 (h2 r rfl hr (by omega)))
  dsimp only
  rw [e3, wr_of (by omega) (by omega)]
  exact lp_chance (n := j.toNat) (by omega) hC hI (by omega) (by omega) (h0 r j.toNat rfl hr hr3 (by omega) (by omega)) _ 0 rfl (by omega)
theorem lp_enough {r : Nat} (hd : 1 ≤ dp) (hC : Cl (I, Z) w s) (hI : CI I w R) : ∀ (t k : Nat) (o9 o10 : Option am_V) {a b : Nat}, k + t = 5000 → Q (.inl (some (iV (engo (R 1) (wo R r) (goal R) t (k + 1))))) (I, Z) → X G dp a b M8_enough 43 [some (rV (some 1)), some (iV r), some (rV (some (ec w r))), some (iV (wo R r)), some (lV (goal R)), none, some (lV (chn (R 1) (wo R r) k)), none, some (iV ((k + 1 : Nat) : Int)), o9, o10] [] (I, Z) Q := by
  have hw := wo_rng hI.1 r
  intro t
  induction t with
  | zero =>
    intro k o9 o10 a b ht h
    exact s8_enough_43 hd (am_ow hC.o) (fun _ => h) (fun c1 => absurd (by omega) c1)
  | succ t ih =>
    intro k o9 o10 a b ht h
    have hr := chn_rng (n := R 1) (wo := wo R r) hw.1 hw.2.1 k
    unfold engo at h
    refine s8_enough_43 hd (am_ow hC.o) (fun c1 => absurd c1 (by omega)) (fun c1 Q' hK => ct_rarer hC hI hr.1 hr.2 hw.1 hw.2.2 (hK _ _ (s8_enough_58 (fun c2 c3 => ?_) (fun c2 c3 => ?_) (fun c2 => ?_))))
    · have c4 := (lc_gt _ _).mp c2
      rw [if_neg (show ¬ chn (R 1) (wo R r) (k + 1) ≤ goal R by show ¬ chs (R 1) (wo R r) (chn (R 1) (wo R r) k) ≤ goal R; omega)] at h
      rw [wrs (by omega)]
      exact ih (k + 1) _ _ (by omega) h
    · have c4 := (lc_gt _ _).mp c2
      have c5 := (lc_eq _ _).mp c3
      have e1 : ¬ chn (R 1) (wo R r) (k + 1) ≤ goal R := by show ¬ chs (R 1) (wo R r) (chn (R 1) (wo R r) k) ≤ goal R; omega
      rw [if_neg e1, engo_stuck (c := chn (R 1) (wo R r) k) (by rw [← show chn (R 1) (wo R r) (k + 1) = chn (R 1) (wo R r) k from c5]; exact e1) t (k + 1 + 1) (fun j hj => by
        have := chn_stuck (n := R 1) (w := wo R r) (k := k) c5 (j - k)
        rwa [show k + (j - k) = j by omega] at this)] at h
      exact h
    · have c4 := n_gt c2
      rw [if_pos (show chn (R 1) (wo R r) (k + 1) ≤ goal R from c4)] at h
      exact h
theorem q_enough {i : Int} (hd : 2 ≤ dp) (hC : Cl (I, Z) w s) (hI : CI I w R) (h0 : ∀ r : Nat, i = r → r < rC R → r < 3 → Q (.inl (some (iV (engo (R 1) (wo R r) (goal R) 5000 1)))) (I, Z)) (h1 : ¬ isR R i → Q (.inr 1) (I, Z)) : T G dp 4 24 M8_enough [rV (some 1), iV i] (I, Z) Q := by
  refine T8_enough (s8_enough_0 (by omega) (by omega) (by omega) (am_ow hC.o) fun Q' hK hE => ct_contestOf hC hI (fun r er hr hr3 => hK _ _ ?_) (fun q => hE _ _ (h1 q)))
  subst er
  have hct := (hC.now.2.2.2 r hr3).2
  have hm := mky_rng (rM R r) (rN R)
  have hN := hI.1.n
  have e3 : I w 3 = R 1 := hI.2.1.2.1
  refine s8_enough_5 (by omega) (am_ow hC.o) hC.p4 (am_ow hC.now.1) (am_ow hct.1) (fun Q' hK => ct_mk hC hI hr (hK _ _ (s8_enough_24 (by omega) (am_ow hC.o) hC.p4 (am_ow hC.now.1) fun Q' hK => ct_goal hC.now hI.2.1 hI.1 (hK _ _ (s8_enough_33 ?_)))))
  dsimp only
  rw [e3, wr_of (by omega) (by omega)]
  exact lp_enough (by omega) hC hI 5000 0 _ _ rfl (h0 r rfl hr hr3)
theorem flp_congr {T T' : Nat → Int} {u k : Nat} (h1 : T u = T' u) (h2 : T k = T' k) : flp T u k = flp T' u k := by unfold flp; rw [h1, h2]
theorem lp_flips {r : Nat} {j : Int} (hd : 1 ≤ dp) (hC : Cl (I, Z) w s) (hI : CI I w R) (hr : r < rC R) (h : Q (.inl (some (iV (if j = 0 then (fgo (rH R r) (rO R r) (rK R r)).2 else (fgo (rH R r) (rO R r) (rK R r)).1)))) (I, Z)) : ∀ (t k : Nat) (o7 : Option am_V) {a b : Nat}, rK R r - k = t → k ≤ rK R r → X G dp a b M8_flips 34 [some (rV (some 1)), some (iV r), some (iV j), some (rV (some (ec w r))), some (iV (fgo (rH R r) (rO R r) k).2), some (iV (fgo (rH R r) (rO R r) k).1), some (iV k), o7] [] (I, Z) Q := by
  have hc := hI.1.c
  have hct := (hC.now.2.2.2 r (by omega)).2
  have hcv := hI.2.1.2.2.2.2.2 r hr
  have hK := hI.1.k hr
  have hO := hI.1.o hr
  have e5 : I (ec w r) 5 = rK R r := hcv.1.trans hK.1
  have e8 : I (ec w r) 8 = rO R r := hcv.2.2.2.1
  intro t
  induction t with
  | zero =>
    intro k o7 a b ht hk
    have e : k = rK R r := by omega
    rw [← e] at h
    refine s8_flips_34 hd (am_ow hct.1) (fun _ c2 => ?_) (fun _ c2 => ?_) (fun _ _ c2 => ?_) (fun _ _ c2 => ?_) (fun c1 => absurd (by dsimp only; rw [e5]; omega) c1) (fun c1 => absurd (by dsimp only; rw [e5]; omega) c1)
    · rw [if_neg c2] at h; exact h
    · rw [if_pos c2] at h; exact h
    · rw [if_neg c2] at h; exact h
    · rw [if_pos c2] at h; exact h
  | succ t ih =>
    intro k o7 a b ht hk
    have ih := fun o7 => ih (k + 1) o7 (a := a) (b := b) (by omega) (by omega)
    unfold fgo at ih
    refine s8_flips_34 hd (am_ow hct.1) (fun c1 => absurd c1 (by dsimp only; rw [e5]; omega)) (fun c1 => absurd c1 (by dsimp only; rw [e5]; omega)) (fun _ c1 => absurd c1 (by omega)) (fun _ c1 => absurd c1 (by omega)) (fun c1 _ c2 Q' hK' => ?_) (fun c1 _ c2 => ?_)
    · dsimp only at c2
      rw [e8] at c2
      have ek : k ≠ rO R r := by omega
      have v1 : I (ec w r + 5) k = rH R r k := (hcv.2.2.2.2.2.1 k (by omega)).2
      have v2 : I (ec w r + 5) (rO R r) = rH R r (rO R r) := (hcv.2.2.2.2.2.1 _ (by omega)).2
      have b1 := hI.1.h r k
      have b2 := hI.1.h r (rO R r)
      have b3 := hI.1.ho (r := r) (j := k) (by omega)
      rw [if_neg ek] at ih
      refine ct_flipsFor (w := rO R r) hct e8 (by omega) (by omega) (by dsimp only; rw [v1]; omega) (by dsimp only; rw [v1, v2]; omega) (by dsimp only; rw [v2]; omega) (hK' _ _ ?_)
      dsimp only
      rw [flp_congr (T' := rH R r) v2 v1]
      refine s8_flips_67 (fun c3 => ?_) (fun c3 c4 => ?_) (fun c3 c4 => ?_)
      · rw [if_pos (Or.inl c3)] at ih; rw [wrs (by omega)]; exact ih _
      · rw [if_neg (by omega)] at ih; rw [wrs (by omega)]; exact ih _
      · rw [if_pos (Or.inr (by omega))] at ih; rw [wrs (by omega)]; exact ih _
    · dsimp only at c2
      rw [e8] at c2
      rw [if_pos (show k = rO R r by omega)] at ih
      rw [wrs (by omega)]; exact ih _
theorem q_flips {i j : Int} (hd : 2 ≤ dp) (hC : Cl (I, Z) w s) (hI : CI I w R) (h0 : ∀ r : Nat, i = r → r < rC R → r < 3 → 0 ≤ j → j ≤ 1 → Q (.inl (some (iV (if j = 0 then (fgo (rH R r) (rO R r) (rK R r)).2 else (fgo (rH R r) (rO R r) (rK R r)).1)))) (I, Z)) (h1 : (¬ isR R i ∨ ¬ (0 ≤ j ∧ j ≤ 1)) → Q (.inr 1) (I, Z)) : T G dp 4 24 M8_flips [rV (some 1), iV i, iV j] (I, Z) Q := by
  refine T8_flips (s8_flips_0 (by omega) (by omega) (by omega) (am_ow hC.o) fun Q' hK hE => ct_contestOf hC hI (fun r er hr hr3 => hK _ _ ?_) (fun q => hE _ _ (h1 (Or.inl q))))
  subst er
  exact s8_flips_5 (by omega) (by omega) (fun c1 => hC.nx (h1 (Or.inr (by omega)))) (fun c1 c2 => lp_flips (by omega) hC hI hr (h0 r rfl hr hr3 (by omega) c2) _ 0 _ rfl (by omega)) (fun c1 c2 => hC.nx (h1 (Or.inr (by omega))))
theorem q_fault (hC : Cl (I, Z) w s) (h : Q (.inl (some (iV (I 1 2)))) (I, Z)) : T G dp 4 24 M8_fault [rV (some 1)] (I, Z) Q := T8_fault (s8_fault_0 (am_ow hC.o) h)
end
