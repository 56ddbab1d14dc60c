/-! ROUNDED PRODUCTS -/
theorem n_gt {x y : Int} (h : ¬ 0 < lc x y) : x ≤ y := by have h' : ¬ y < x := fun q => h ((lc_gt x y).mpr q); omega
theorem n_le {x y : Int} (h : ¬ lc x y ≤ 0) : y < x := by have h' : ¬ x ≤ y := fun q => h ((lc_le x y).mpr q); omega
theorem n_ge {x y : Int} (h : ¬ 0 ≤ lc x y) : x < y := by have h' : ¬ y ≤ x := fun q => h ((lc_ge x y).mpr q); omega
theorem n_lt {x y : Int} (h : ¬ lc x y < 0) : y ≤ x := by have h' : ¬ x < y := fun q => h ((lc_lt x y).mpr q); omega
theorem n_eq {x y : Int} (h : ¬ lc x y = 0) : x ≠ y := fun q => h ((lc_eq x y).mpr q)
/-- one times another by a third, rounded up, within what a risk can be -/
def sc (v t b : Int) : Int := if b ≤ 0 then 10000000000000 else max 1 (min 10000000000000 ((v * t + b - 1) / b))
theorem sc_rng (v t b : Int) : 1 ≤ sc v t b ∧ sc v t b ≤ 10000000000000 := by unfold sc; split <;> omega
theorem mul_bd {v t A B : Int} (h1 : 0 ≤ v) (h2 : v ≤ A) (h3 : 0 ≤ t) (h4 : t ≤ B) : 0 ≤ v * t ∧ v * t ≤ A * B :=
  ⟨Int.mul_nonneg h1 h3, Int.mul_le_mul h2 h4 h3 (by omega)⟩
theorem div_bd {x b : Int} (h1 : 0 ≤ x) (h2 : 0 < b) : 0 ≤ x / b ∧ x / b ≤ x :=
  ⟨Int.ediv_nonneg h1 (by omega), Int.ediv_le_self _ h1⟩
theorem ct_scaled {G : am_G} {dp : Nat} {m : am_M} {Q : am_Q} {v t b : Int} (h1 : 0 ≤ v) (h2 : v ≤ 10000000000000) (h3 : 0 ≤ t) (h4 : t ≤ 100000) (h5 : -1000000000 ≤ b) (h6 : b ≤ 1000000000) (h : Q (.inl (some (lV (sc v t b)))) m) : T G dp 0 0 M8_scaled [lV v, lV t, lV b] m Q := by
  have hm := mul_bd h1 h2 h3 h4
  unfold sc at h
  refine T8_scaled (s8_scaled_0 (fun c => ?_) (fun c => ?_) (h1 := fun c => by have := (lc_gt b 0).mp c; omega))
  · have hb := (lc_gt b 0).mp c
    have hq := div_bd (x := v * t + b - 1) (b := b) (by omega) hb
    rw [if_neg (by omega)] at h
    rw [wrl_of (z := v * t) (by omega) (by omega), wrl_of (z := v * t + b) (by omega) (by omega), wrl_of (z := v * t + b - 1) (by omega) (by omega), Int.tdiv_eq_ediv_of_nonneg (by omega), wrl_of (by omega) (by omega)]
    exact h
  · have hb := n_gt c
    rw [if_pos (by omega)] at h
    exact h
theorem kp {z : Int} : (if z < 1 then 1 else if 10000000000000 < z then 10000000000000 else z) = max 1 (min 10000000000000 z) := by split <;> (try split) <;> omega
theorem ct_kept {G : am_G} {dp : Nat} {m : am_M} {Q : am_Q} {v : Int} (h : Q (.inl (some (lV (max 1 (min 10000000000000 v))))) m) : T G dp 0 0 M9_kept [lV v] m Q := by
  rw [← kp] at h
  refine T9_kept (s9_kept_0 (fun c1 c2 => ?_) (fun c1 c2 => ?_) (fun c1 => ?_))
  · rw [if_neg (by have := (lc_ge v 1).mp c1; omega), if_neg (by have := (lc_le v 10000000000000).mp c2; omega)] at h; exact h
  · rw [if_neg (by have := (lc_ge v 1).mp c1; omega), if_pos (by have := n_le c2; omega)] at h; exact h
  · rw [if_pos (by have := n_ge c1; omega)] at h; exact h
theorem sc_parts {v t b : Int} (hb : 0 < b) : (v / b) * t + ((v % b) * t + b - 1) / b = (v * t + b - 1) / b := by
  have e : v * t + b - 1 = (v % b * t + b - 1) + (v / b * t) * b := by
    have h1 := Int.mul_ediv_add_emod v b
    have h2 : v * t = (b * (v / b) + v % b) * t := by rw [h1]
    rw [Int.add_mul] at h2
    have h3 : b * (v / b) * t = v / b * t * b := by rw [Int.mul_comm b, Int.mul_assoc, Int.mul_comm b t, ← Int.mul_assoc]
    omega
  rw [e, Int.add_mul_ediv_right _ _ (by omega)]
  omega
theorem ct_times {G : am_G} {dp : Nat} {m : am_M} {Q : am_Q} {v t b : Int} (hd : 1 ≤ dp) (h1 : 0 ≤ v) (h2 : v ≤ 10000000000000) (h3 : 0 ≤ t) (h4 : t ≤ 100000) (h5 : -1000000000 ≤ b) (h6 : b ≤ 1000000000) (h : Q (.inl (some (lV (sc v t b)))) m) : T G dp 0 0 M9_times [lV v, lV t, lV b] m Q := by
  unfold sc at h
  refine T9_times (s9_times_0 hd (fun c1 c2 c3 Q' hK => ?_) (fun c1 c2 c3 => ?_) (fun c1 c2 => ?_) (fun c1 => ?_) (h1 := fun c _ => by have := (lc_gt b 0).mp c; omega) (h2 := fun _ c => by have := (lc_gt t 0).mp c; omega))
  · have hb := (lc_gt b 0).mp c1
    have ht := (lc_gt t 0).mp c2
    have hq := div_bd (x := v) (b := b) (by omega) hb
    have hr := Int.emod_nonneg v (show b ≠ 0 by omega)
    have hr2 := Int.emod_lt_of_pos v hb
    have hT := div_bd (x := 10000000000000) (b := t) (by omega) ht
    have hm := mul_bd (v := v % b) (A := 1000000000) hr (by omega) h3 h4
    have hm2 := mul_bd (v := v / b) (A := 10000000000000) hq.1 (by omega) h3 h4
    have hq2 := div_bd (x := v % b * t + b - 1) (b := b) (by omega) hb
    rw [if_neg (by omega)] at h
    rw [Int.tdiv_eq_ediv_of_nonneg (a := v) (by omega), Int.tmod_eq_emod_of_nonneg (a := v) (by omega)] at *
    rw [wrl_of (z := v / b) (by omega) (by omega)] at *
    rw [wrl_of (z := v / b * t) (by omega) (by omega), wrl_of (z := v % b * t) (by omega) (by omega), wrl_of (z := v % b * t + b) (by omega) (by omega), wrl_of (z := v % b * t + b - 1) (by omega) (by omega), Int.tdiv_eq_ediv_of_nonneg (by omega), wrl_of (z := (v % b * t + b - 1) / b) (by omega) (by omega), wrl_of (by omega) (by omega), sc_parts hb]
    exact ct_kept (hK _ _ (s9_times_66 h))
  · have hb := (lc_gt b 0).mp c1
    have ht := (lc_gt t 0).mp c2
    have hq := div_bd (x := v) (b := b) (by omega) hb
    have hT := div_bd (x := 10000000000000) (b := t) (by omega) ht
    rw [Int.tdiv_eq_ediv_of_nonneg (a := v) (by omega), Int.tdiv_eq_ediv_of_nonneg (by omega), wrl_of (z := v / b) (by omega) (by omega), wrl_of (by omega) (by omega)] at c3
    have c4 : 10000000000000 / t < v / b := n_le c3
    rw [if_neg (by omega)] at h
    have e : 10000000000000 < v / b * t := by
      have k1 : 10000000000000 < (10000000000000 / t + 1) * t := Int.lt_mul_of_ediv_lt ht (by omega)
      have k2 := Int.mul_le_mul_of_nonneg_right (show 10000000000000 / t + 1 ≤ v / b by omega) (show 0 ≤ t by omega)
      omega
    have hr := Int.emod_nonneg v (show b ≠ 0 by omega)
    have hm := Int.mul_nonneg hr (show 0 ≤ t by omega)
    have hq2 := div_bd (x := v % b * t + b - 1) (b := b) (by omega) hb
    have p := sc_parts (v := v) (t := t) hb
    rw [show max 1 (min 10000000000000 ((v * t + b - 1) / b)) = 10000000000000 by omega] at h
    exact h
  · have hb := (lc_gt b 0).mp c1
    have ht := n_gt c2
    have e : t = 0 := by omega
    rw [if_neg (by omega), e, Int.mul_zero, Int.ediv_eq_zero_of_lt (by omega) (by omega)] at h
    exact h
  · have hb := n_gt c1
    rw [if_pos (by omega)] at h
    exact h
