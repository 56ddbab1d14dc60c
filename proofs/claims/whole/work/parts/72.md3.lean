/-! THE REFERENCE: counting -/
/-- row q holds, four a race, how many of the first fv r choices are for each -/
def Vt (I : Nat → Nat → Int) (q : Nat) (g : Nat → Nat → Int) (N : Nat) (fv : Nat → Nat) : Prop := ∀ r, r < N → ∀ c : Nat, c < 4 → I q (4 * r + c) = cnt (g r) (fv r) c
theorem Vt.same {I I' : Nat → Nat → Int} {q N : Nat} {g : Nat → Nat → Int} {fv : Nat → Nat} (h : Vt I q g N fv) (hs : I' q = I q) : Vt I' q g N fv := fun r hr c hc => by rw [hs]; exact h r hr c hc
section
variable {G : am_G} {dp : Nat} {Q : am_Q} {R : Nat → Int} {Z : (Nat → Nat → Option Nat) × (Nat → Nat × Nat) × Nat × Bool}
theorem md_counts {I : Nat → Nat → Int} {q i N : Nat} {ch : Int} {g : Nat → Nat → Int} {fv : Nat → Nat} (hq : am_arw (I, Z) q 100 12) (hi : i < N) (hN : N ≤ 3) (hch : -2 ≤ ch) (hch4 : ch < 4) (hv : Vt I q g N fv) (hf : fv i ≤ 200) (hg : g i (fv i) = ch) (h : ∀ I' : Nat → Nat → Int, (∀ x, x ≠ q → I' x = I x) → Vt I' q g N (fun r => if r = i then fv r + 1 else fv r) → Q (.inl none) (I', Z)) : T G dp 0 0 M9_counts [rV (some q), iV i, iV ch] (I, Z) Q := by
  refine T9_counts (s9_counts_0 (n_r0 := 12) hq (fun c1 => h I (fun _ _ => rfl) (fun r hr c hc => ?_)) (fun c1 => ?_) (h2 := fun c1 => ?_) (h3 := fun c1 => ?_))
  · dsimp only
    by_cases e : r = i
    · subst e
      rw [if_pos rfl, cnt_s, hg, if_neg (by omega), Int.add_zero]
      exact hv r hr c hc
    · rw [if_neg e]; exact hv r hr c hc
  · obtain ⟨k, rfl⟩ : ∃ k : Nat, ch = k := ⟨ch.toNat, by omega⟩
    have hk : k < 4 := by omega
    have hvk := hv i hi k hk
    have hcr := cnt_rng (g i) k (fv i)
    dsimp only
    rw [ix4 (by omega) (by omega), tnc, hvk, wr_of (by omega) (by omega)]
    refine h _ (fun x hx => u2r hx) (fun r hr c hc => ?_)
    dsimp only
    by_cases e : r = i
    · subst e
      rw [if_pos rfl, cnt_s, hg]
      by_cases ec : c = k
      · subst ec; rw [u2_at, if_pos rfl]
      · rw [u2n (by omega), if_neg (by omega), Int.add_zero]; exact hv r hr c hc
    · rw [if_neg e, u2n (by omega)]; exact hv r hr c hc
  · obtain ⟨k, rfl⟩ : ∃ k : Nat, ch = k := ⟨ch.toNat, by omega⟩
    rw [ix4 (by omega) (by omega)]; omega
  · obtain ⟨k, rfl⟩ : ∃ k : Nat, ch = k := ⟨ch.toNat, by omega⟩
    rw [ix4 (by omega) (by omega)]; omega
theorem lv_races {I0 : Nat → Nat → Int} {b : Nat} (hd : 2 ≤ dp) (hM : Md (I0, Z)) (hv : RowV I0 R) (hR : RV R) (hb : b < rN R) (h : ∀ I' : Nat → Nat → Int, (∀ x, x ≠ 109 → x ≠ 110 → I' x = I0 x) → Vt I' 109 (rV_ R) (rC R) (fun _ => b + 1) → Vt I' 110 (rP_ R) (rC R) (fun _ => b + 1) → ∀ z, X G dp 0 0 M9_layVotes 30 [some (rV (some 103)), some (iV ((b + 1 : Nat) : Int)), z] [] (I', Z) Q) : ∀ (t i : Nat) (I : Nat → Nat → Int), rC R - i = t → i ≤ rC R → (∀ x, x ≠ 109 → x ≠ 110 → I x = I0 x) → Vt I 109 (rV_ R) (rC R) (fun r => if r < i then b + 1 else b) → Vt I 110 (rP_ R) (rC R) (fun r => if r < i then b + 1 else b) → X G dp 0 0 M9_layVotes 40 [some (rV (some 103)), some (iV b), some (iV i)] [] (I, Z) Q := by
  have hc := hR.c
  have hn := hR.n
  intro t
  induction t with
  | zero =>
    intro i I ht hi hf h1 h2
    have hvI : RowV I R := fun j hj => by rw [hf 104 (by omega) (by omega)]; exact hv j hj
    have e : i = rC R := by omega
    refine s9_layVotes_40 (by omega) (am_ow hM.1) fun Q' hK => md_races (m := (I, Z)) hM hvI (hK _ _ ?_)
    refine s9_layVotes_45 (by omega) (am_ow hM.1) hM.votes.1 (fun _ => ?_) (fun c1 => absurd (by omega) c1)
    rw [wrs (by omega)]
    exact h I hf (fun r hr c hc => by have := h1 r hr c hc; dsimp only at this; rw [if_pos (by omega)] at this; exact this) (fun r hr c hc => by have := h2 r hr c hc; dsimp only at this; rw [if_pos (by omega)] at this; exact this) _
  | succ t ih =>
    intro i I ht hi hf h1 h2
    have hir : i < rC R := by omega
    have hvI : RowV I R := fun j hj => by rw [hf 104 (by omega) (by omega)]; exact hv j hj
    have hK4 := hR.k hir
    have hch := (hR.2.2.2.2.2.2.2 i hir).2.2 b hb
    refine s9_layVotes_40 (by omega) (am_ow hM.1) fun Q' hK => md_races (m := (I, Z)) hM hvI (hK _ _ ?_)
    refine s9_layVotes_45 (by omega) (am_ow hM.1) hM.votes.1 (fun c1 => absurd c1 (by omega)) (fun c1 Q' hK => md_recorded (m := (I, Z)) (by omega) hM hvI (by omega) (by omega) (hK _ _ ?_))
    refine s9_layVotes_59 (by omega) fun Q' hK => md_counts (I := I) (g := rV_ R) (fv := fun r => if r < i then b + 1 else b) hM.votes.2 hir hc.2 hch.1.1 (by omega) h1 (by rw [if_neg (by omega)]; omega) (by rw [if_neg (by omega)]) (fun I1 g1 g2 => hK _ ?_)
    have hf1 : ∀ x, x ≠ 109 → x ≠ 110 → I1 x = I0 x := fun x a b => by rw [g1 x a]; exact hf x a b
    have hvI1 : RowV I1 R := fun j hj => by rw [hf1 104 (by omega) (by omega)]; exact hv j hj
    refine s9_layVotes_62 (by omega) (am_ow hM.1) hM.hands.1 fun Q' hK => md_shown (m := (I1, Z)) (by omega) hM hvI1 (by omega) (by omega) (hK _ _ ?_)
    refine s9_layVotes_73 (by omega) fun Q' hK => md_counts (I := I1) (g := rP_ R) (fv := fun r => if r < i then b + 1 else b) hM.hands.2 hir hc.2 hch.2.1 (by omega) (h2.same (g1 110 (by omega))) (by rw [if_neg (by omega)]; omega) (by rw [if_neg (by omega)]) (fun I2 k1 k2 => hK _ (s9_layVotes_76 ?_))
    rw [wrs (by omega)]
    have cv : ∀ (J : Nat → Nat → Int) (q : Nat) (g : Nat → Nat → Int), Vt J q g (rC R) (fun r => if r = i then (if r < i then b + 1 else b) + 1 else if r < i then b + 1 else b) → Vt J q g (rC R) (fun r => if r < i + 1 then b + 1 else b) := fun J q g hJ r hr c hc => by
      have := hJ r hr c hc
      dsimp only at this ⊢
      by_cases e : r = i
      · rw [if_pos e, if_neg (by omega)] at this; rw [if_pos (by omega)]; exact this
      · rw [if_neg e] at this
        by_cases e2 : r < i
        · rw [if_pos e2] at this; rw [if_pos (by omega)]; exact this
        · rw [if_neg e2] at this; rw [if_neg (by omega)]; exact this
    exact ih (i + 1) I2 (by omega) (by omega) (fun x a b => by rw [k1 x b]; exact hf1 x a b) ((cv _ _ _ g2).same (k1 109 (by omega))) (cv _ _ _ k2)
theorem lv_ballots {I0 : Nat → Nat → Int} (hd : 2 ≤ dp) (hM : Md (I0, Z)) (hv : RowV I0 R) (hR : RV R) (h : ∀ I' : Nat → Nat → Int, (∀ x, x ≠ 109 → x ≠ 110 → I' x = I0 x) → Vt I' 109 (rV_ R) (rC R) (fun _ => rN R) → Vt I' 110 (rP_ R) (rC R) (fun _ => rN R) → Q (.inl none) (I', Z)) : ∀ (t b : Nat) (I : Nat → Nat → Int) (z : Option am_V), rN R - b = t → b ≤ rN R → (∀ x, x ≠ 109 → x ≠ 110 → I x = I0 x) → Vt I 109 (rV_ R) (rC R) (fun _ => b) → Vt I 110 (rP_ R) (rC R) (fun _ => b) → X G dp 0 0 M9_layVotes 30 [some (rV (some 103)), some (iV b), z] [] (I, Z) Q := by
  have hn := hR.n
  intro t
  induction t with
  | zero =>
    intro b I z ht hb hf h1 h2
    have hvI : RowV I R := fun j hj => by rw [hf 104 (by omega) (by omega)]; exact hv j hj
    have e : b = rN R := by omega
    subst e
    refine s9_layVotes_30 (by omega) (am_ow hM.1) fun Q' hK => md_ballots (m := (I, Z)) hM hvI (hK _ _ ?_)
    exact s9_layVotes_35 (fun _ => h I hf h1 h2) (fun c1 => absurd (by omega) c1)
  | succ t ih =>
    intro b I z ht hb hf h1 h2
    have hvI : RowV I R := fun j hj => by rw [hf 104 (by omega) (by omega)]; exact hv j hj
    refine s9_layVotes_30 (by omega) (am_ow hM.1) fun Q' hK => md_ballots (m := (I, Z)) hM hvI (hK _ _ ?_)
    refine s9_layVotes_35 (fun c1 => absurd c1 (by omega)) (fun c1 => ?_)
    exact lv_races (I0 := I) hd hM hvI hR (by omega) (fun I' g1 g2 g3 z => ih (b + 1) I' z (by omega) (by omega) (fun x a c => by rw [g1 x a c]; exact hf x a c) g2 g3) _ 0 I rfl (by omega) (fun _ _ _ => rfl) (fun r hr c hc => by dsimp only; rw [if_neg (by omega)]; exact h1 r hr c hc) (fun r hr c hc => by dsimp only; rw [if_neg (by omega)]; exact h2 r hr c hc)
theorem lv_zero {I0 : Nat → Nat → Int} {z : Option am_V} (hM : Md (I0, Z)) (h : ∀ I' : Nat → Nat → Int, (∀ x, x ≠ 109 → x ≠ 110 → I' x = I0 x) → (∀ j, j < 12 → I' 109 j = 0 ∧ I' 110 j = 0) → X G dp 0 0 M9_layVotes 30 [some (rV (some 103)), some (iV 0), z] [] (I', Z) Q) : ∀ (t k : Nat) (I : Nat → Nat → Int), k + t = 12 → (∀ x, x ≠ 109 → x ≠ 110 → I x = I0 x) → (∀ j, j < k → I 109 j = 0 ∧ I 110 j = 0) → X G dp 0 0 M9_layVotes 2 [some (rV (some 103)), some (iV k), z] [] (I, Z) Q := by
  intro t
  induction t with
  | zero =>
    intro k I ht hf h1
    exact s9_layVotes_2 (n_p1 := 12) (n_p2 := 12) (am_ow hM.1) hM.votes.1 hM.votes.2 hM.hands.1 hM.hands.2 (fun _ => h I hf (fun j hj => h1 j (by omega))) (fun c1 => absurd (by omega) c1)
  | succ t ih =>
    intro k I ht hf h1
    refine s9_layVotes_2 (n_p1 := 12) (n_p2 := 12) (am_ow hM.1) hM.votes.1 hM.votes.2 hM.hands.1 hM.hands.2 (fun c1 => absurd c1 (by omega)) (fun c1 => ?_)
    rw [wrs (by omega)]
    dsimp only
    rw [tnc]
    refine ih (k + 1) _ (by omega) (fun x a b => by rw [u2r b, u2r a]; exact hf x a b) (fun j hj => ?_)
    by_cases e : j = k
    · subst e; exact ⟨by rw [u2r (by omega), u2_at], u2_at⟩
    · exact ⟨by rw [u2r (by omega), u2n e]; exact (h1 j (by omega)).1, by rw [u2n e, u2r (by omega)]; exact (h1 j (by omega)).2⟩
theorem md_layVotes {I : Nat → Nat → Int} (hd : 2 ≤ dp) (hM : Md (I, Z)) (hv : RowV I R) (hR : RV R) (h : ∀ I' : Nat → Nat → Int, (∀ x, x ≠ 109 → x ≠ 110 → I' x = I x) → (∀ r, r < rC R → ∀ c, c < 4 → I' 109 (4 * r + c) = rT R r c ∧ I' 110 (4 * r + c) = rH R r c) → Q (.inl none) (I', Z)) : T G dp 0 0 M9_layVotes [rV (some 103)] (I, Z) Q := by
  have hc := hR.c
  refine T9_layVotes (s9_layVotes_0 (lv_zero hM (fun I1 g1 g2 => ?_) 12 0 I rfl (fun _ _ _ => rfl) (fun j hj => absurd hj (by omega))))
  exact lv_ballots (I0 := I1) hd hM (fun j hj => by rw [g1 104 (by omega) (by omega)]; exact hv j hj) hR (fun I2 k1 k2 k3 => h I2 (fun x a b => by rw [k1 x a b]; exact g1 x a b) (fun r hr c hc => ⟨k2 r hr c hc, k3 r hr c hc⟩)) (rN R) 0 I1 _ rfl (by omega) (fun _ _ _ => rfl) (fun r hr c hc => (g2 _ (by omega)).1) (fun r hr c hc => (g2 _ (by omega)).2)
end
