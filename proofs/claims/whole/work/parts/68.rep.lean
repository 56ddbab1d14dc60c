/-! SCALING again and again -/
def scn (t b v : Int) : Nat → Int
  | 0 => v
  | k + 1 => sc (scn t b v k) t b
theorem scn_rng {t b v : Int} (h1 : 1 ≤ v) (h2 : v ≤ 10000000000000) : ∀ k, 1 ≤ scn t b v k ∧ scn t b v k ≤ 10000000000000
  | 0 => ⟨h1, h2⟩
  | k + 1 => sc_rng _ _ _
theorem scn_stuck {t b v : Int} {k : Nat} (h : scn t b v (k + 1) = scn t b v k) : ∀ j, scn t b v (k + j) = scn t b v k
  | 0 => rfl
  | j + 1 => by
    have ih := scn_stuck h j
    show sc (scn t b v (k + j)) t b = _
    rw [ih]; exact h
/-- the first k from k on, at most t more, at which it is at most g -/
def ddn (t b v g : Int) : Nat → Nat → Int
  | 0, _ => -1
  | f + 1, k => if scn t b v k ≤ g then k else ddn t b v g f (k + 1)
theorem ddn_none {t b v g : Int} : ∀ f k : Nat, (∀ j, k ≤ j → j < k + f → g < scn t b v j) → ddn t b v g f k = -1
  | 0, _, _ => rfl
  | f + 1, k, h => by
    unfold ddn
    rw [if_neg (by have := h k (by omega) (by omega); omega)]
    exact ddn_none f (k + 1) (fun j h1 h2 => h j (by omega) (by omega))
section
variable {G : am_G} {dp : Nat} {Q : am_Q} {m : am_M}
theorem lp_repeated {t b v N : Int} {n : Nat} (hd : 1 ≤ dp) (h1 : 1 ≤ v) (h2 : v ≤ 10000000000000) (h3 : 0 ≤ t) (h4 : t ≤ 100000) (h5 : -1000000000 ≤ b) (h6 : b ≤ 1000000000) (hN : N = n) (hn : n ≤ 5000) (h : Q (.inl (some (lV (scn t b v n)))) m) : ∀ (f k : Nat) (o10 o11 : Option am_V), n - k = f → k ≤ n → X G dp 0 0 M8_repeated 6 [some (lV v), none, some (lV t), none, some (lV b), none, some (iV N), some (lV (scn t b v k)), none, some (iV k), o10, o11] [] m Q := by
  intro f
  induction f with
  | zero =>
    intro k o10 o11 ht hk
    have e : k = n := by omega
    subst e
    exact s8_repeated_6 hd (fun _ => h) (fun c => absurd (by omega) c)
  | succ f ih =>
    intro k o10 o11 ht hk
    have hr := scn_rng (t := t) (b := b) h1 h2 k
    refine s8_repeated_6 hd (fun c => absurd c (by omega)) (fun c Q' hK => ct_scaled (by omega) hr.2 h3 h4 h5 h6 (hK _ _ (s8_repeated_25 (fun c2 => ?_) (fun c2 => ?_))))
    · rw [wrs (by omega)]
      exact ih (k + 1) _ _ (by omega) (by omega)
    · have e := (lc_eq _ _).mp c2
      have st := scn_stuck (t := t) (b := b) (v := v) (k := k) e (n - k)
      rw [show k + (n - k) = n by omega] at st
      rw [st, ← e] at h
      exact h
theorem ct_repeated {t b v N : Int} {n : Nat} (hd : 1 ≤ dp) (h1 : 1 ≤ v) (h2 : v ≤ 10000000000000) (h3 : 0 ≤ t) (h4 : t ≤ 100000) (h5 : -1000000000 ≤ b) (h6 : b ≤ 1000000000) (hN : N = n) (hn : n ≤ 5000) (h : Q (.inl (some (lV (scn t b v n)))) m) : T G dp 0 0 M8_repeated [lV v, lV t, lV b, iV N] m Q :=
  T8_repeated (s8_repeated_0 (lp_repeated hd h1 h2 h3 h4 h5 h6 hN hn h n 0 _ _ rfl (by omega)))
theorem lp_drawsDown {t b v g N : Int} {n : Nat} (hd : 1 ≤ dp) (h1 : 1 ≤ v) (h2 : v ≤ 10000000000000) (h3 : 0 ≤ t) (h4 : t ≤ 100000) (h5 : -1000000000 ≤ b) (h6 : b ≤ 1000000000) (hN : N = n) (hn : n ≤ 5000) : ∀ (f k : Nat), k + f = n → Q (.inl (some (iV (ddn t b v g f (k + 1))))) m → X G dp 0 0 M8_drawsDown 45 [some (lV v), none, some (lV t), none, some (lV b), none, some (lV g), none, some (iV N), some (lV (scn t b v k)), none, some (iV ((k + 1 : Nat) : Int))] [] m Q := by
  intro f
  induction f with
  | zero =>
    intro k ht h
    exact s8_drawsDown_45 hd (fun _ => h) (fun c => absurd (by omega) c)
  | succ f ih =>
    intro k ht h
    have hr := scn_rng (t := t) (b := b) h1 h2 k
    unfold ddn at h
    refine s8_drawsDown_45 hd (fun c => absurd c (by omega)) (fun c Q' hK => ct_scaled (by omega) hr.2 h3 h4 h5 h6 (hK _ _ (s8_drawsDown_60 (fun c2 => ?_) (fun c2 => ?_))))
    · have e := (lc_gt _ _).mp c2
      rw [if_neg (show ¬ scn t b v (k + 1) ≤ g by show ¬ sc (scn t b v k) t b ≤ g; omega)] at h
      rw [wrs (by omega)]
      exact ih (k + 1) (by omega) h
    · have e := n_gt c2
      rw [if_pos (show scn t b v (k + 1) ≤ g from e)] at h
      exact h
/-- by a divisor that is no more than the factor it never comes down -/
theorem sc_up {v t b : Int} (h1 : 1 ≤ v) (h2 : v ≤ 10000000000000) (h : b ≤ 0 ∨ b ≤ t) : v ≤ sc v t b := by
  unfold sc
  split
  · exact h2
  · rename_i q
    have hm : v * b ≤ v * t := Int.mul_le_mul_of_nonneg_left (by omega) (by omega)
    have hd : v ≤ (v * t + b - 1) / b := (Int.le_ediv_iff_mul_le (by omega)).mpr (by omega)
    omega
theorem scn_up {v t b : Int} (h1 : 1 ≤ v) (h2 : v ≤ 10000000000000) (h : b ≤ 0 ∨ b ≤ t) : ∀ k, v ≤ scn t b v k
  | 0 => Int.le_refl _
  | k + 1 => by
    have ih := scn_up h1 h2 h k
    have hr := scn_rng (t := t) (b := b) h1 h2 k
    have := sc_up (t := t) (b := b) hr.1 hr.2 h
    show v ≤ sc (scn t b v k) t b
    omega
/-- the exact chain is a lower bound: what is v t^k is at most what comes out times b^k -/
theorem scn_low {v t b : Int} (h1 : 1 ≤ v) (h2 : v ≤ 10000000000000) (h3 : 0 ≤ t) (h4 : t < b) : ∀ k : Nat, v * t ^ k ≤ scn t b v k * b ^ k
  | 0 => by rw [Int.pow_zero, Int.pow_zero]; exact Int.le_refl _
  | k + 1 => by
    have ih := scn_low h1 h2 h3 h4 k
    have hr := scn_rng (t := t) (b := b) h1 h2 k
    have e : scn t b v (k + 1) = sc (scn t b v k) t b := rfl
    have hs : scn t b v k * t ≤ sc (scn t b v k) t b * b := by
      unfold sc
      rw [if_neg (by omega)]
      have hm := Int.mul_nonneg (show 0 ≤ scn t b v k by omega) h3
      have hm2 : scn t b v k * t ≤ 10000000000000 * b := Int.mul_le_mul (by omega) (by omega) h3 (by omega)
      have hq := Int.mul_ediv_add_emod (scn t b v k * t + b - 1) b
      have hq2 := Int.emod_lt_of_pos (scn t b v k * t + b - 1) (show 0 < b by omega)
      generalize (scn t b v k * t + b - 1) / b = D at hq ⊢
      have hD : scn t b v k * t ≤ D * b := by rw [Int.mul_comm D b]; omega
      rcases (show max 1 (min 10000000000000 D) = D ∨ (max 1 (min 10000000000000 D) = 10000000000000) ∨ (max 1 (min 10000000000000 D) = 1 ∧ D ≤ 1) by omega) with q | q | q
      · rw [q]; exact hD
      · rw [q]; exact hm2
      · rw [q.1]
        have : D * b ≤ 1 * b := Int.mul_le_mul_of_nonneg_right q.2 (by omega)
        omega
    have hb : 0 ≤ b ^ k := Int.pow_nonneg (by omega)
    rw [e, Int.pow_succ, Int.pow_succ, ← Int.mul_assoc, ← Int.mul_assoc]
    have s1 : v * t ^ k * t ≤ scn t b v k * b ^ k * t := Int.mul_le_mul_of_nonneg_right ih h3
    have s2 : scn t b v k * t * b ^ k ≤ sc (scn t b v k) t b * b * b ^ k := Int.mul_le_mul_of_nonneg_right hs hb
    have s3 : scn t b v k * b ^ k * t = scn t b v k * t * b ^ k := Int.mul_right_comm _ _ _
    have s4 : sc (scn t b v k) t b * b * b ^ k = sc (scn t b v k) t b * b ^ k * b := Int.mul_right_comm _ _ _
    omega
end
