/-! CONTESTS: counting, mistakes, reckoning -/
/-- the first n places of a row become g -/
def stR (I : Nat → Nat → Int) (r n : Nat) (g : Nat → Int) : Nat → Nat → Int := fun a b => if a = r ∧ b < n then g b else I a b
theorem stR_at {I : Nat → Nat → Int} {r n : Nat} {g : Nat → Int} {b : Nat} (h : b < n) : stR I r n g r b = g b := if_pos ⟨rfl, h⟩
theorem stR_row {I : Nat → Nat → Int} {r n : Nat} {g : Nat → Int} {a : Nat} (h : a ≠ r) : stR I r n g a = I a := funext fun _ => if_neg fun q => h q.1
theorem stR_0 {I : Nat → Nat → Int} {r : Nat} {g : Nat → Int} : stR I r 0 g = I := funext fun a => funext fun b => if_neg fun q => Nat.not_lt_zero _ q.2
theorem stR_next {I : Nat → Nat → Int} {r n : Nat} {g : Nat → Int} : u2 (stR I r n g) r n (g n) = stR I r (n + 1) g := by
  funext a b
  unfold u2 stR
  by_cases h : a = r ∧ b = n
  · rw [if_pos h, if_pos ⟨h.1, by omega⟩, h.2]
  · rw [if_neg h]
    by_cases h2 : a = r ∧ b < n
    · rw [if_pos h2, if_pos ⟨h2.1, by omega⟩]
    · rw [if_neg h2, if_neg (fun q => by rcases q with ⟨q1, q2⟩; by_cases hb : b = n; exact h ⟨q1, hb⟩; exact h2 ⟨q1, by omega⟩)]
theorem stR_u2 {I : Nat → Nat → Int} {r n k : Nat} {g : Nat → Int} {z : Int} (h : k < n) : u2 (stR I r n g) r k z = stR I r n (fun b => if b = k then z else g b) := by
  funext a b
  unfold u2 stR
  by_cases h1 : a = r ∧ b = k
  · rw [if_pos h1, if_pos ⟨h1.1, by omega⟩]
    exact (if_pos h1.2).symm
  · rw [if_neg h1]
    by_cases h2 : a = r ∧ b < n
    · rw [if_pos h2, if_pos h2]
      exact (if_neg (fun q => h1 ⟨h2.1, q⟩)).symm
    · rw [if_neg h2, if_neg h2]
theorem stR_congr {I : Nat → Nat → Int} {r n : Nat} {g g' : Nat → Int} (h : ∀ b, b < n → g b = g' b) : stR I r n g = stR I r n g' := by
  funext a b
  unfold stR
  by_cases h2 : a = r ∧ b < n
  · rw [if_pos h2, if_pos h2, h b h2.2]
  · rw [if_neg h2, if_neg h2]
/-- Arrays.fill over ints, over longs -/
theorem lp_fillI {G : am_G} {dp : Nat} {m : am_M} {Q : am_Q} {r n : Nat} {v : Int} (hr : am_arw m r 100 n) (hn : n < 2147483647) (h : Q (.inl none) (stR m.1 r n (fun _ => v), m.2)) : ∀ t k : Nat, n - k = t → k ≤ n → X G dp 0 0 MJ7_fill_53178 5 [some (rV (some r)), some (iV v), some (iV k), some (iV n)] [] (stR m.1 r k (fun _ => v), m.2) Q
  | 0, k, ht, hk => by
    refine sJ7_fill_53178_5 (n_r0 := n) hr (fun _ => ?_) (fun c => ?_)
    · rw [show k = n by omega]; exact h
    · omega
  | t + 1, k, ht, hk => by
    have ih := lp_fillI (G := G) (dp := dp) hr hn h t (k + 1) (by omega) (by omega)
    refine sJ7_fill_53178_5 (n_r0 := n) hr (fun c => ?_) (fun c => ?_)
    · omega
    · rw [wrs (by omega)]
      have e := stR_next (I := m.1) (r := r) (n := k) (g := fun _ => v)
      rw [← e] at ih
      exact ih
theorem ct_fillI {G : am_G} {dp : Nat} {m : am_M} {Q : am_Q} {r n : Nat} {v : Int} (hr : am_arw m r 100 n) (hn : n < 2147483647) (h : Q (.inl none) (stR m.1 r n (fun _ => v), m.2)) : T G dp 0 0 MJ7_fill_53178 [rV (some r), iV v] m Q := by
  refine TJ7_fill_53178 (sJ7_fill_53178_0 (am_rw hr) (by decide) ?_)
  have h9 := lp_fillI (G := G) (dp := dp) hr hn h n 0 rfl (by omega)
  rw [stR_0] at h9
  exact h9
theorem lp_fillL {G : am_G} {dp : Nat} {m : am_M} {Q : am_Q} {r n : Nat} {v : Int} (hr : am_arw m r 101 n) (hn : n < 2147483647) (h : Q (.inl none) (stR m.1 r n (fun _ => v), m.2)) : ∀ t k : Nat, n - k = t → k ≤ n → X G dp 0 0 MJ7_fill_d0a16 6 [some (rV (some r)), some (lV v), none, some (iV k), some (iV n)] [] (stR m.1 r k (fun _ => v), m.2) Q
  | 0, k, ht, hk => by
    refine sJ7_fill_d0a16_6 (n_r0 := n) hr (fun _ => ?_) (fun c => ?_)
    · rw [show k = n by omega]; exact h
    · omega
  | t + 1, k, ht, hk => by
    have ih := lp_fillL (G := G) (dp := dp) hr hn h t (k + 1) (by omega) (by omega)
    refine sJ7_fill_d0a16_6 (n_r0 := n) hr (fun c => ?_) (fun c => ?_)
    · omega
    · rw [wrs (by omega)]
      have e := stR_next (I := m.1) (r := r) (n := k) (g := fun _ => v)
      rw [← e] at ih
      exact ih
theorem ct_fillL {G : am_G} {dp : Nat} {m : am_M} {Q : am_Q} {r n : Nat} {v : Int} (hr : am_arw m r 101 n) (hn : n < 2147483647) (h : Q (.inl none) (stR m.1 r n (fun _ => v), m.2)) : T G dp 0 0 MJ7_fill_d0a16 [rV (some r), lV v] m Q := by
  refine TJ7_fill_d0a16 (sJ7_fill_d0a16_0 (am_rw hr) (by decide) ?_)
  have h9 := lp_fillL (G := G) (dp := dp) hr hn h n 0 rfl (by omega)
  rw [stR_0] at h9
  exact h9
/-- how many of the first n are c -/
def cnt (f : Nat → Int) : Nat → Int → Int
  | 0, _ => 0
  | n + 1, c => cnt f n c + if f n = c then 1 else 0
theorem cnt_rng (f : Nat → Int) (c : Int) : ∀ n : Nat, 0 ≤ cnt f n c ∧ cnt f n c ≤ n
  | 0 => by unfold cnt; omega
  | n + 1 => by
    have h := cnt_rng f c n
    unfold cnt
    split <;> omega
theorem lp_tally {G : am_G} {dp : Nat} {m : am_M} {Q : am_Q} {c r s n : Nat} (hr : am_ar m r 100 200) (hs : am_arw m s 100 4) (hrs : r ≠ s) (hn : n ≤ 200) (h : Q (.inl none) (stR m.1 s 4 (fun b => cnt (m.1 r) n b), m.2)) : ∀ (t k : Nat) (o5 : Option am_V), n - k = t → k ≤ n → X G dp 0 0 M2_tally 8 [some (rV (some c)), some (rV (some r)), some (rV (some s)), some (iV n), some (iV k), o5] [] (stR m.1 s 4 (fun b => cnt (m.1 r) k b), m.2) Q
  | 0, k, o5, ht, hk => by
    have e : k = n := by omega
    subst e
    refine s2_tally_8 (n_r1 := 200) (n_r2 := 4) hr hs (fun _ => h) (fun _ _ => h) (fun c1 => ?_) (fun c1 => ?_) (fun c1 => ?_) <;> exact absurd (by omega) c1
  | t + 1, k, o5, ht, hk => by
    have ih := fun o5 => lp_tally (G := G) (dp := dp) (c := c) hr hs hrs hn h t (k + 1) o5 (by omega) (by omega)
    have hrow : stR m.1 s 4 (fun b => cnt (m.1 r) k b) r = m.1 r := stR_row hrs
    have hc : ∀ b : Int, cnt (m.1 r) (k + 1) b = cnt (m.1 r) k b + if m.1 r k = b then 1 else 0 := fun _ => rfl
    refine s2_tally_8 (n_r1 := 200) (n_r2 := 4) hr hs (fun c1 => ?_) (fun c1 c2 => ?_) (fun c1 c2 c3 => ?_) (fun c1 c2 c3 c4 => ?_) (fun c1 c2 c3 c4 => ?_)
    · omega
    · omega
    · rw [wrs (by omega)]
      simp only [hrow, tnc] at c3 ⊢
      have e : (fun b : Nat => cnt (m.1 r) (k + 1) b) = fun b : Nat => cnt (m.1 r) k b := by
        funext b
        rw [hc, if_neg (by omega), Int.add_zero]
      rw [e] at ih
      exact ih _
    · rw [wrs (by omega)]
      simp only [hrow, tnc] at c3 c4 ⊢
      have e : stR m.1 s 4 (fun b : Nat => cnt (m.1 r) (k + 1) b) = stR m.1 s 4 (fun b : Nat => cnt (m.1 r) k b) := stR_congr fun b hb => by
        rw [hc, if_neg (by omega), Int.add_zero]
      rw [e] at ih
      exact ih _
    · rw [wrs (by omega)]
      simp only [hrow, tnc] at c3 c4 ⊢
      have h1 := cnt_rng (m.1 r) (m.1 r k) k
      have hz : (m.1 r k).toNat < 4 := by omega
      have hz2 : ((m.1 r k).toNat : Int) = m.1 r k := by omega
      rw [stR_at hz, hz2, wr_of (by omega) (by omega), stR_u2 hz]
      have e : stR m.1 s 4 (fun b : Nat => cnt (m.1 r) (k + 1) b) = stR m.1 s 4 (fun b : Nat => if b = (m.1 r k).toNat then cnt (m.1 r) k (m.1 r k) + 1 else cnt (m.1 r) k b) := stR_congr fun b hb => by
        rw [hc]
        by_cases hq : b = (m.1 r k).toNat
        · rw [if_pos hq, hq, hz2, if_pos rfl]
        · rw [if_neg hq, if_neg (by omega), Int.add_zero]
      rw [e] at ih
      exact ih _
theorem ct_tally {G : am_G} {dp : Nat} {m : am_M} {Q : am_Q} {c r s n : Nat} (hd : 1 ≤ dp) (hr : am_ar m r 100 200) (hs : am_arw m s 100 4) (hrs : r ≠ s) (hn : n ≤ 200) (h : Q (.inl none) (stR m.1 s 4 (fun b => cnt (m.1 r) n b), m.2)) : T G dp 0 0 M2_tally [rV (some c), rV (some r), rV (some s), iV n] m Q := by
  refine T2_tally (s2_tally_0 hd (fun Q' hK => ct_fillI hs (by omega) (hK _ (s2_tally_5 ?_))))
  exact lp_tally hr hs hrs hn h n 0 none rfl (by omega)
/-- a mistake: over the first n candidates -/
def slp (w x y : Int) : Nat → Int
  | 0 => -2
  | n + 1 => if (n : Int) = w then slp w x y n else max (slp w x y n) (sg w x n - sg w y n)
theorem sg_rng (w x y : Int) : -1 ≤ sg w x y ∧ sg w x y ≤ 1 := by unfold sg; split <;> (try split) <;> omega
theorem slp_rng (w x y : Int) : ∀ n, -2 ≤ slp w x y n ∧ slp w x y n ≤ 2
  | 0 => by unfold slp; omega
  | n + 1 => by
    have h := slp_rng w x y n
    have h1 := sg_rng w x n
    have h2 := sg_rng w y n
    unfold slp
    split <;> omega
theorem lp_slip {G : am_G} {dp : Nat} {m : am_M} {Q : am_Q} {c n : Nat} {x y : Int} (hd : 1 ≤ dp) (hc : Ct m c) (hn : m.1 c 5 = n) (h4 : n ≤ 4) (h : Q (.inl (some (iV (slp (m.1 c 7) x y n)))) m) : ∀ (t k : Nat), n - k = t → k ≤ n → X G dp 0 0 M2_slip 6 [some (rV (some c)), some (iV x), some (iV y), some (iV (slp (m.1 c 7) x y k)), some (iV k)] [] m Q
  | 0, k, ht, hk => by
    have e : k = n := by omega
    subst e
    refine s2_slip_6 hd (am_ow hc.1) (fun _ => h) (fun c1 => ?_) (fun c1 => ?_) <;> exact absurd (by omega) c1
  | t + 1, k, ht, hk => by
    have ih := lp_slip (G := G) hd hc hn h4 h t (k + 1) (by omega) (by omega)
    unfold slp at ih
    refine s2_slip_6 hd (am_ow hc.1) (fun c1 => ?_) (fun c1 c2 => ?_) (fun c1 c2 Q' hK => ct_lead hc (hK _ _ (s2_slip_32 hd (am_ow hc.1) (fun Q' hK => ct_lead hc (hK _ _ (s2_slip_39 ?_))))))
    · omega
    · rw [wrs (by omega)]
      rw [if_pos c2] at ih
      exact ih
    · rw [wrs (by omega)]
      rw [if_neg c2] at ih
      have h1 := sg_rng (m.1 c 7) x k
      have h2 := sg_rng (m.1 c 7) y k
      rw [wr_of (by omega) (by omega)]
      exact ih
theorem ct_slip {G : am_G} {dp : Nat} {m : am_M} {Q : am_Q} {c n : Nat} {x y : Int} (hd : 1 ≤ dp) (hc : Ct m c) (hn : m.1 c 5 = n) (h4 : n ≤ 4) (h : Q (.inl (some (iV (slp (m.1 c 7) x y n)))) m) : T G dp 0 0 M2_slip [rV (some c), iV x, iV y] m Q :=
  T2_slip (s2_slip_0 (lp_slip hd hc hn h4 h n 0 rfl (by omega)))
