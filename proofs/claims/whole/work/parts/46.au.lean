/-! AUDITS: one step -/
theorem stR_ge {I : Nat → Nat → Int} {r n b : Nat} {g : Nat → Int} (h : n ≤ b) : stR I r n g r b = I r b := if_neg fun q => by omega
theorem stR_skip {I : Nat → Nat → Int} {r n : Nat} {g : Nat → Int} (h : g n = I r n) : stR I r (n + 1) g = stR I r n g := by
  funext a b
  unfold stR
  by_cases q : a = r ∧ b < n
  · rw [if_pos q, if_pos ⟨q.1, by omega⟩]
  · rw [if_neg q]
    by_cases q2 : a = r ∧ b < n + 1
    · have e : b = n := by have : ¬ b < n := fun z => q ⟨q2.1, z⟩; omega
      rw [if_pos q2, e, h, q2.1]
    · rw [if_neg q2]
theorem pol_congr {T T' : Nat → Int} {w k : Nat} {own ch : Int} (h : ∀ j, j < 4 → T j = T' j) (hw : w < 4) (hk : k < 4) : pol T w k own ch = pol T' w k own ch := by
  unfold pol
  split
  · rename_i q
    rw [h w hw, h k hk, h ch.toNat (by rcases q with q | q <;> omega)]
  · rfl
theorem ct_goal {G : am_G} {dp : Nat} {m : am_M} {Q : am_Q} {e : Nat} {R : Nat → Int} (he : El m e) (hv : ElV m.1 e R) (hR : RV R) (h : Q (.inl (some (lV (goal R)))) m) : T G dp 0 0 M3_goal [rV (some e)] m Q := by
  refine T3_goal (s3_goal_0 (n_p1 := 3) (am_ow he.1) he.2.1.2 (am_rw he.2.2.1.2) ?_)
  rw [show m.1 (e + 2) (0 : Int).toNat = R 2 from hv.2.2.2.2.1.1]
  have := hR.2.2.1
  rw [wrl_of (by omega) (by omega)]
  exact h
theorem ct_isOver {G : am_G} {dp : Nat} {m : am_M} {Q : am_Q} {a : Nat} (ha : Au m a) (h : Q (.inl (some (iV (if m.1 a 7 = 0 then 1 else 0)))) m) : T G dp 0 0 M1_isOver [rV (some a)] m Q := by
  refine T1_isOver (s1_isOver_0 (am_ow ha.1) (fun c => ?_) (fun c => ?_))
  · rw [if_neg c] at h; exact h
  · rw [if_pos c] at h; exact h
theorem ct_isDone {G : am_G} {dp : Nat} {m : am_M} {Q : am_Q} {a r : Nat} (ha : Au m a) (hr : r < 3) (h : Q (.inl (some (iV (if m.1 (a + 9) r = -1 then 0 else 1)))) m) : T G dp 0 0 M1_isDone [rV (some a), iV r] m Q := by
  refine T1_isDone (s1_isDone_0 (n_p1 := 3) (am_ow ha.1) ha.2.1.2.2.1 (am_rw ha.2.2.1.2.2.1) (fun c => ?_) (fun c => ?_))
  · rw [tnc] at c; rw [if_pos c] at h; exact h
  · rw [tnc] at c; rw [if_neg c] at h; exact h
theorem ct_latestRisk {G : am_G} {dp : Nat} {m : am_M} {Q : am_Q} {a r k : Nat} (ha : Au m a) (hr : r < 3) (hk : m.1 a 5 = k) (hk3 : k ≤ 300) (h : Q (.inl (some (lV (m.1 (a + 6 + r) k)))) m) : T G dp 0 0 M1_latestRisk [rV (some a), iV r] m Q := by
  have hr2 := ha.2.2.2 r hr
  refine T1_latestRisk (s1_latestRisk_0 (n_p1 := 3) (n_p2 := 301) (am_ow ha.1) ha.2.1.2.1 (Or.inr rfl) (am_rw ha.2.2.1.2.1) hr2.1.2 (am_rw hr2.2.2) ?_)
  rw [hk, tnc]
  exact h
/-- the memory behind k candidates of a step, kept or not -/
def stM (I : Nat → Nat → Int) (a r : Nat) (R : Nat → Int) (own : Nat → Int) (ch : Int) (keep : Int) (k : Nat) : Nat → Nat → Int := stR I (a + 2 + r) (if keep = 0 then 0 else k) (stO R r own ch)
theorem lp_stepped {G : am_G} {dp : Nat} {m : am_M} {Q : am_Q} {a e c r b : Nat} {R : Nat → Int} {keep : Int} (hd : 2 ≤ dp) (ha : Au m a) (hc : Ct m c) (hv : CtV m.1 c R r) (hR : RV R) (hs : c + 6 ≤ a ∨ a + 12 ≤ c) (hr : r < rC R) (hb : b < rN R) (ho : ∀ j, j < 4 → 1 ≤ m.1 (a + 2 + r) j ∧ m.1 (a + 2 + r) j ≤ 10000000000000) (h : Q (.inl (some (lV (grt 1 (rW R r) (stO R r (m.1 (a + 2 + r)) (rP_ R r b)) (rK R r))))) (stM m.1 a r R (m.1 (a + 2 + r)) (rP_ R r b) keep (rK R r), m.2)) : ∀ (t k : Nat) (o9 o10 : Option am_V), rK R r - k = t → k ≤ rK R r → X G dp 0 0 M1_stepped 74 [some (rV (some a)), some (rV (some e)), some (iV r), some (iV b), some (iV keep), some (rV (some c)), some (lV (grt 1 (rW R r) (stO R r (m.1 (a + 2 + r)) (rP_ R r b)) k)), none, some (iV k), o9, o10] [] (stM m.1 a r R (m.1 (a + 2 + r)) (rP_ R r b) keep k, m.2) Q := by
  have hr3 : r < 3 := by have := hR.c; omega
  have hra := ha.2.2.2 r hr3
  have hK := hR.k hr
  have hW := hR.w hr
  have hN := hR.n
  intro t
  induction t with
  | zero =>
    intro k o9 o10 ht hk
    have e0 : k = rK R r := by omega
    have ec5 : stM m.1 a r R (m.1 (a + 2 + r)) (rP_ R r b) keep k c 5 = rK R r := by unfold stM; rw [stR_row (by omega), hv.1]; exact hK.1
    rw [← e0] at h
    refine s1_stepped_74 (n_p1 := 3) (n_p2 := 4) (n_p3 := 200) (by omega) (am_ow hc.1) (am_ow ha.1) ha.2.1.1 (Or.inr rfl) (am_rw ha.2.2.1.1) (fun _ _ _ => hra.1.1) (fun _ _ _ => am_rw hra.2.1) hc.2.1.2.1 (am_rw hc.2.2.2.1) (fun _ => h) (fun _ _ => h) (fun c1 _ _ => ?_) (fun c1 _ _ => ?_) <;> exact absurd (by dsimp only; rw [ec5]; omega) c1
  | succ t ih =>
    intro k o9 o10 ht hk
    have ih := fun o9 o10 => ih (k + 1) o9 o10 (by omega) (by omega)
    have rowM : ∀ x, x ≠ a + 2 + r → stM m.1 a r R (m.1 (a + 2 + r)) (rP_ R r b) keep k x = m.1 x := fun x hx => by unfold stM; exact stR_row hx
    have ec5 : stM m.1 a r R (m.1 (a + 2 + r)) (rP_ R r b) keep k c 5 = rK R r := by rw [rowM c (by omega), hv.1]; exact hK.1
    have ec7 : stM m.1 a r R (m.1 (a + 2 + r)) (rP_ R r b) keep k c 7 = rW R r := by rw [rowM c (by omega)]; exact hv.2.2.1
    have eow : stM m.1 a r R (m.1 (a + 2 + r)) (rP_ R r b) keep k (a + 2 + r) k = m.1 (a + 2 + r) k := by unfold stM; exact stR_ge (by split <;> omega)
    have esh : stM m.1 a r R (m.1 (a + 2 + r)) (rP_ R r b) keep k (c + 2) b = rP_ R r b := by rw [rowM (c + 2) (by omega)]; exact (hv.2.2.2.2.2.2 b hb).2.1
    have hg : grt 1 (rW R r) (stO R r (m.1 (a + 2 + r)) (rP_ R r b)) (k + 1) = if k = rW R r then grt 1 (rW R r) (stO R r (m.1 (a + 2 + r)) (rP_ R r b)) k else max (grt 1 (rW R r) (stO R r (m.1 (a + 2 + r)) (rP_ R r b)) k) (stO R r (m.1 (a + 2 + r)) (rP_ R r b) k) := rfl
    refine s1_stepped_74 (n_p1 := 3) (n_p2 := 4) (n_p3 := 200) (by omega) (am_ow hc.1) (am_ow ha.1) ha.2.1.1 (Or.inr rfl) (am_rw ha.2.2.1.1) (fun _ _ _ => hra.1.1) (fun _ _ _ => am_rw hra.2.1) hc.2.1.2.1 (am_rw hc.2.2.2.1) (fun c1 => ?_) (fun _ c1 => ?_) (fun c1 _ c2 => ?_) (fun c1 _ c2 Q' hK' => ?_)
    · exact absurd c1 (by dsimp only; rw [ec5]; omega)
    · exact absurd c1 (by omega)
    · dsimp only at c2
      rw [ec7] at c2
      have ek : k = rW R r := by omega
      rw [wrs (by omega)]
      rw [hg, if_pos ek] at ih
      have em : stM m.1 a r R (m.1 (a + 2 + r)) (rP_ R r b) keep (k + 1) = stM m.1 a r R (m.1 (a + 2 + r)) (rP_ R r b) keep k := by
        unfold stM
        by_cases hk0 : keep = 0
        · rw [if_pos hk0, if_pos hk0]
        · rw [if_neg hk0, if_neg hk0]
          exact stR_skip (by unfold stO; rw [if_neg (fun q => q.2 ek)])
      rw [em] at ih
      exact ih _ _
    · dsimp only at c2 ⊢
      rw [ec7] at c2
      have ek : k ≠ rW R r := by omega
      simp only [tnc, eow, esh]
      have hok := ho k (by omega)
      refine ct_polled (w := rW R r) (by omega) hc ec7 (by omega) (by omega) (fun j hj => ?_) (by omega) (by omega) (hK' _ _ ?_)
      · dsimp only
        rw [rowM (c + 4) (by omega), (hv.2.2.2.2.2.1 j hj).1]
        exact hR.t r j
      · have ep : pol (stM m.1 a r R (m.1 (a + 2 + r)) (rP_ R r b) keep k (c + 4)) (rW R r) k (m.1 (a + 2 + r) k) (rP_ R r b) = stO R r (m.1 (a + 2 + r)) (rP_ R r b) k := by
          unfold stO
          rw [if_pos ⟨by omega, ek⟩]
          exact pol_congr (fun j hj => by rw [rowM (c + 4) (by omega), (hv.2.2.2.2.2.1 j hj).1]) (by omega) (by omega)
        dsimp only
        rw [ep]
        rw [hg, if_neg ek] at ih
        refine s1_stepped_123 (n_p1 := 3) (n_p2 := 4) (am_ow ha.1) ha.2.1.1 (Or.inr rfl) (am_rw ha.2.2.1.1) (fun _ => hra.1.1) (fun _ => hra.2.1) (fun q => ?_) (fun q => ?_)
        · rw [wrs (by omega)]
          have em : stM m.1 a r R (m.1 (a + 2 + r)) (rP_ R r b) keep (k + 1) = stM m.1 a r R (m.1 (a + 2 + r)) (rP_ R r b) keep k := by unfold stM; rw [if_pos q, if_pos q]
          rw [em] at ih
          exact ih _ _
        · rw [wrs (by omega)]
          have em : stM m.1 a r R (m.1 (a + 2 + r)) (rP_ R r b) keep (k + 1) = u2 (stM m.1 a r R (m.1 (a + 2 + r)) (rP_ R r b) keep k) (a + 2 + r) k (stO R r (m.1 (a + 2 + r)) (rP_ R r b) k) := by unfold stM; rw [if_neg q, if_neg q]; exact stR_next.symm
          rw [em] at ih
          exact ih _ _
