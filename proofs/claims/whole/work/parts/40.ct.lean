/-! CONTESTS -/
theorem wrs {k : Nat} (h : k < 2147483647) : wr ((k : Int) + 1) = ((k + 1 : Nat) : Int) := by
  rw [wr_of (by omega) (by omega)]; push_cast; rfl
theorem tnc (k : Nat) : ((k : Int)).toNat = k := rfl
/-- a contest at c, as the tables have it: its five rows behind it -/
def Ct (m : am_M) (c : Nat) : Prop := am_obw m c 2 ∧ (m.2.1 c 0 = some (c + 1) ∧ m.2.1 c 1 = some (c + 2) ∧ m.2.1 c 2 = some (c + 3) ∧ m.2.1 c 3 = some (c + 4) ∧ m.2.1 c 4 = some (c + 5)) ∧ (am_arw m (c + 1) 100 200 ∧ am_arw m (c + 2) 100 200 ∧ am_arw m (c + 3) 100 200 ∧ am_arw m (c + 4) 100 4 ∧ am_arw m (c + 5) 100 4)
def sg (w x y : Int) : Int := if x = w then 1 else if x = y then -1 else 0
theorem ct_lead {G : am_G} {dp : Nat} {m : am_M} {Q : am_Q} {c : Nat} {x y : Int} (hc : Ct m c) (h : Q (.inl (some (iV (sg (m.1 c 7) x y)))) m) : T G dp 0 0 M2_lead [rV (some c), iV x, iV y] m Q := by
  unfold sg at h
  refine T2_lead (s2_lead_0 (am_ow hc.1) (fun c1 c2 => ?_) (fun c1 c2 => ?_) (fun c1 => ?_))
  · rw [if_neg c1, if_neg c2] at h; exact h
  · rw [if_neg c1, if_pos c2] at h; exact h
  · rw [if_pos c1] at h; exact h
/-- the first with the greatest sum but one -/
def ldgGo (s : Nat → Int) (but : Int) : Nat → Nat → Nat → Nat
  | 0, _, f => f
  | t + 1, k, f => ldgGo s but t (k + 1) (if (k : Int) ≠ but ∧ s f < s k then k else f)
def ldg (s : Nat → Int) (but : Int) (n : Nat) : Nat := if but = 0 then ldgGo s but (n - 2) 2 1 else ldgGo s but (n - 1) 1 0
theorem lp_leading {G : am_G} {dp : Nat} {m : am_M} {Q : am_Q} {c s n : Nat} {but : Int} (hc : Ct m c) (hs : am_ar m s 100 4) (hn : m.1 c 5 = n) (h4 : n ≤ 4) : ∀ (t k f : Nat), n - k = t → f < 4 → k < 2147483647 → Q (.inl (some (iV (ldgGo (m.1 s) but t k f)))) m → X G dp 0 0 M2_leading 15 [some (rV (some c)), some (rV (some s)), some (iV but), some (iV f), some (iV k)] [] m Q
  | 0, k, f, ht, hf, hk, h => by
    refine s2_leading_15 (am_ow hc.1) hs (fun _ => h) (fun c1 => ?_) (fun c1 => ?_) (fun c1 => ?_) (fun c1 => ?_) <;> exact absurd (by omega) c1
  | t + 1, k, f, ht, hf, hk, h => by
    unfold ldgGo at h
    have ih := lp_leading hc hs hn h4 (G := G) (dp := dp) (Q := Q) (but := but) t (k + 1)
    refine s2_leading_15 (am_ow hc.1) hs (fun c1 => ?_) (fun c1 c2 => ?_) (fun c1 c2 c3 => ?_) (fun c1 c2 c3 c4 => ?_) (fun c1 c2 c3 c4 => ?_)
    · rw [hn] at c1; omega
    · omega
    · rw [if_neg (fun q => q.1 c3)] at h
      rw [wrs (by omega)]
      exact ih f (by omega) hf (by omega) h
    · rw [tnc, tnc] at c4
      rw [if_neg (fun q => by omega)] at h
      rw [wrs (by omega)]
      exact ih f (by omega) hf (by omega) h
    · rw [tnc, tnc] at c4
      rw [if_pos ⟨c3, by omega⟩] at h
      rw [wrs (by omega)]
      exact ih k (by omega) (by omega) (by omega) h
theorem ct_leading {G : am_G} {dp : Nat} {m : am_M} {Q : am_Q} {c s n : Nat} {but : Int} (hc : Ct m c) (hs : am_ar m s 100 4) (hn : m.1 c 5 = n) (h4 : n ≤ 4) (h : Q (.inl (some (iV (ldg (m.1 s) but n)))) m) : T G dp 0 0 M2_leading [rV (some c), rV (some s), iV but] m Q := by
  unfold ldg at h
  refine T2_leading (s2_leading_0 (fun c1 => ?_) (fun c1 => ?_))
  · rw [if_neg c1] at h
    exact lp_leading hc hs hn h4 (n - 1) 1 0 rfl (by omega) (by omega) h
  · rw [if_pos c1] at h
    exact lp_leading hc hs hn h4 (n - 2) 2 1 rfl (by omega) (by omega) h
