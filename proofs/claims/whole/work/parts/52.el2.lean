/-! ELECTIONS: the whole of one -/
def CtD (I : Nat → Nat → Int) (c : Nat) (R : Nat → Int) (r : Nat) : Prop := I c 5 = R (8 + 2 * r) ∧ I c 6 = rY R r ∧ ∀ b, b < rN R → I (c + 1) b = rV_ R r b ∧ I (c + 2) b = rP_ R r b
def ElH (I : Nat → Nat → Int) (e : Nat) (R : Nat → Int) : Prop := I e 2 = R 0 ∧ I e 3 = R 1 ∧ I e 4 = R 5 ∧ I e 5 = R 6 ∧ (I (e + 2) 0 = R 2 ∧ I (e + 2) 1 = R 3 ∧ I (e + 2) 2 = R 4)
theorem ElH.of {I : Nat → Nat → Int} {e : Nat} {R : Nat → Int} (h : ElV I e R) : ElH I e R := ⟨h.1, h.2.1, h.2.2.1, h.2.2.2.1, h.2.2.2.2.1⟩
theorem ElH.to {I : Nat → Nat → Int} {e : Nat} {R : Nat → Int} (h : ElH I e R) (k : ∀ r, r < rC R → CtV I (ec e r) R r) : ElV I e R := ⟨h.1, h.2.1, h.2.2.1, h.2.2.2.1, h.2.2.2.2, k⟩
theorem ElH.same {I I' : Nat → Nat → Int} {e : Nat} {R : Nat → Int} (h : ElH I e R) (h1 : I' e = I e) (h2 : I' (e + 2) = I (e + 2)) : ElH I' e R := by
  unfold ElH at h ⊢
  rw [h1, h2]
  exact h
theorem CtD.same {I I' : Nat → Nat → Int} {c : Nat} {R : Nat → Int} {r : Nat} (h : CtD I c R r) (hs : ∀ x, c ≤ x → x < c + 3 → I' x = I x) : CtD I' c R r := by
  unfold CtD at h ⊢
  rw [hs c (by omega) (by omega), hs (c + 1) (by omega) (by omega), hs (c + 2) (by omega) (by omega)]
  exact h
theorem lp_reckonAll {G : am_G} {dp : Nat} {Q : am_Q} {e : Nat} {R : Nat → Int} {Z : (Nat → Nat → Option Nat) × (Nat → Nat × Nat) × Nat × Bool} {I0 : Nat → Nat → Int} (hd : 4 ≤ dp) (he : El (I0, Z) e) (hR : RV R) (h : ∀ I' : Nat → Nat → Int, (∀ x, x < e + 3 ∨ e + 21 ≤ x → I' x = I0 x) → ElV I' e R → Q (.inl none) (I', Z)) : ∀ (t i : Nat) (I : Nat → Nat → Int), rC R - i = t → i ≤ rC R → (∀ x, x < e + 3 ∨ e + 21 ≤ x → I x = I0 x) → ElH I e R → (∀ r, r < i → CtV I (ec e r) R r) → (∀ r, i ≤ r → r < rC R → CtD I (ec e r) R r) → X G dp 0 0 M3_reckonAll 2 [some (rV (some e)), some (iV i)] [] (I, Z) Q := by
  intro t
  induction t with
  | zero =>
    intro i I ht hi h1 hH h2 h3
    have e0 : i = rC R := by omega
    subst e0
    have hc := hR.c
    have hf := h I h1 (hH.to h2)
    refine s3_reckonAll_2 (n_p1 := 3) (p2 := 0) (by omega) (am_ow he.1) he.2.1.1 (Or.inl rfl) (am_rw he.2.2.1.1) (fun c1 => ?_) (fun c1 => ?_) (fun _ => hf) (fun _ _ => hf) (fun c1 => ?_) <;> exact absurd (by dsimp only; rw [hH.1]; omega) c1
  | succ t ih =>
    intro i I ht hi h1 hH h2 h3
    have hir : i < rC R := by omega
    have hc := hR.c
    have hN := hR.n
    have hK := hR.k hir
    have hei := he.2.2.2 i (by omega)
    have hD := h3 i (Nat.le_refl _) hir
    refine s3_reckonAll_2 (n_p1 := 3) (by omega) (am_ow he.1) he.2.1.1 (Or.inl rfl) (am_rw he.2.2.1.1) (fun _ _ => hei.1) (fun _ _ => am_ow hei.2.1) (fun c1 => absurd c1 (by dsimp only; rw [hH.1]; omega)) (fun c1 c2 => absurd c2 (by omega)) (fun c1 c2 Q' hK' => ?_)
    dsimp only
    rw [hH.2.1, hN.1]
    refine ct_reckon (K := rK R i) (by omega) hei.2 (by dsimp only; rw [hD.1]; exact hK.1) hK.2.1 hK.2.2 hN.2 (fun I' g1 g2 g3 => hK' _ (s3_reckonAll_28 ?_))
    rw [wrs (by omega)]
    dsimp only at g1 g2
    have fr : ∀ x, x < ec e i ∨ ec e i + 6 ≤ x → I' x = I x := fun x hx => g1 x (by omega) (by omega) (by omega) (by omega)
    refine ih (i + 1) I' (by omega) (by omega) (fun x hx => ?_) (hH.same (fr _ (by unfold ec; omega)) (fr _ (by unfold ec; omega))) (fun r hr => ?_) (fun r hr hr2 => (h3 r (by omega) hr2).same fun x hx1 hx2 => fr x (by unfold ec at *; omega))
    · rw [fr x (by unfold ec; omega)]; exact h1 x hx
    · by_cases q : r = i
      · subst q
        exact CtV.of hR hir (by rw [g2 5 (by omega)]; exact hD.1) (by rw [g2 6 (by omega)]; exact hD.2.1) (fun b hb => by rw [g1 (ec e r + 1) (by omega) (by omega) (by omega) (by omega), g1 (ec e r + 2) (by omega) (by omega) (by omega) (by omega)]; exact hD.2.2 b hb) g3
      · exact (h2 r (by omega)).same fun x hx1 hx2 => fr x (by unfold ec at *; omega)
theorem ct_reckonAll {G : am_G} {dp : Nat} {Q : am_Q} {e : Nat} {R : Nat → Int} {Z : (Nat → Nat → Option Nat) × (Nat → Nat × Nat) × Nat × Bool} {I : Nat → Nat → Int} (hd : 4 ≤ dp) (he : El (I, Z) e) (hR : RV R) (hH : ElH I e R) (hD : ∀ r, r < rC R → CtD I (ec e r) R r) (h : ∀ I' : Nat → Nat → Int, (∀ x, x < e + 3 ∨ e + 21 ≤ x → I' x = I x) → ElV I' e R → Q (.inl none) (I', Z)) : T G dp 0 0 M3_reckonAll [rV (some e)] (I, Z) Q :=
  T3_reckonAll (s3_reckonAll_0 (lp_reckonAll hd he hR h _ 0 I rfl (by omega) (fun _ _ => rfl) hH (fun r hr => absurd hr (by omega)) (fun r _ hr => hD r hr)))
theorem lp_copyE {G : am_G} {dp : Nat} {Q : am_Q} {e o : Nat} {R : Nat → Int} {Z : (Nat → Nat → Option Nat) × (Nat → Nat × Nat) × Nat × Bool} {I0 : Nat → Nat → Int} (hd : 5 ≤ dp) (hz : Z.2.2.2 = false) (he : El (I0, Z) e) (ho : El (I0, Z) o) (hs : e + 21 ≤ o ∨ o + 21 ≤ e) (hR : RV R) (hv : ElV I0 o R) (h : ∀ I' : Nat → Nat → Int, (∀ x, x < e ∨ e + 21 ≤ x → I' x = I0 x) → ElV I' e R → Q (.inl none) (I', Z)) : ∀ (t i : Nat) (I : Nat → Nat → Int), rC R - i = t → i ≤ rC R → (∀ x, x < e ∨ e + 21 ≤ x → I x = I0 x) → ElH I e R → (∀ r, r < i → CtV I (ec e r) R r) → X G dp 0 0 M3_copy 52 [some (rV (some e)), some (rV (some o)), some (iV i)] [] (I, Z) Q := by
  intro t
  induction t with
  | zero =>
    intro i I ht hi h1 hH h2
    have e0 : i = rC R := by omega
    subst e0
    have hc := hR.c
    have hf := h I h1 (hH.to h2)
    refine s3_copy_52 (n_p1 := 3) (n_p3 := 3) (p2 := 0) (p4 := 0) (by omega) (am_ow he.1) he.2.1.1 (Or.inl rfl) (am_rw he.2.2.1.1) (fun c1 => ?_) (am_ow ho.1) ho.2.1.1 (Or.inl rfl) (am_rw ho.2.2.1.1) (fun c1 => ?_) (fun c1 => ?_) (fun _ => hf) (fun _ _ => hf) (fun c1 => ?_) <;> exact absurd (by dsimp only; rw [hH.1]; omega) c1
  | succ t ih =>
    intro i I ht hi h1 hH h2
    have hir : i < rC R := by omega
    have hc := hR.c
    have hN := hR.n
    have hei := he.2.2.2 i (by omega)
    have hoi := ho.2.2.2 i (by omega)
    refine s3_copy_52 (n_p1 := 3) (n_p3 := 3) (by omega) (am_ow he.1) he.2.1.1 (Or.inl rfl) (am_rw he.2.2.1.1) (fun _ _ => hei.1) (am_ow ho.1) ho.2.1.1 (Or.inl rfl) (am_rw ho.2.2.1.1) (fun _ _ => hoi.1) (fun _ _ => am_ow hei.2.1) (fun c1 => absurd c1 (by dsimp only; rw [hH.1]; omega)) (fun c1 c2 => absurd c2 (by omega)) (fun c1 c2 Q' hK' => ?_)
    dsimp only
    rw [hH.2.1, hN.1]
    have hvi := (hv.2.2.2.2.2 i hir).same (I' := I) fun x hx1 hx2 => h1 x (by unfold ec at *; omega)
    refine ct_copyC (R := R) (r := i) (by omega) hz hei.2 hoi.2 (by unfold ec; omega) hvi hR hir (fun I' g1 g2 => hK' _ (s3_copy_84 ?_))
    rw [wrs (by omega)]
    refine ih (i + 1) I' (by omega) (by omega) (fun x hx => ?_) (hH.same (g1 _ (by unfold ec; omega)) (g1 _ (by unfold ec; omega))) (fun r hr => ?_)
    · rw [g1 x (by unfold ec; omega)]; exact h1 x hx
    · by_cases q : r = i
      · subst q; exact g2
      · exact (h2 r (by omega)).same fun x hx1 hx2 => g1 x (by unfold ec at *; omega)
theorem ct_copyE {G : am_G} {dp : Nat} {Q : am_Q} {e o : Nat} {R : Nat → Int} {Z : (Nat → Nat → Option Nat) × (Nat → Nat × Nat) × Nat × Bool} {I : Nat → Nat → Int} (hd : 5 ≤ dp) (hz : Z.2.2.2 = false) (he : El (I, Z) e) (ho : El (I, Z) o) (hs : e + 21 ≤ o ∨ o + 21 ≤ e) (hR : RV R) (hv : ElV I o R) (h : ∀ I' : Nat → Nat → Int, (∀ x, x < e ∨ e + 21 ≤ x → I' x = I x) → ElV I' e R → Q (.inl none) (I', Z)) : T G dp 0 0 M3_copy [rV (some e), rV (some o)] (I, Z) Q := by
  refine T3_copy (s3_copy_0 (n_p1 := 3) (n_p2 := 3) (am_ow ho.1) he.1 ho.2.1.2 he.2.1.2 hz (am_rw ho.2.2.1.2) he.2.2.1.2 (by omega) ?_)
  dsimp only
  generalize hJ : cpI (u2 (u2 (u2 (u2 I e 2 _) e 3 _) e 4 _) e 5 _) (o + 2) _ (e + 2) _ _ = J
  have e1 : ∀ x, x ≠ e → x ≠ e + 2 → J x = I x := fun x q1 q2 => by rw [← hJ, cpI_row q2, u2r q1, u2r q1, u2r q1, u2r q1]
  have vr : ∀ b, b < 3 → J (e + 2) b = I (o + 2) b := fun b hb => by
    rw [← hJ]
    refine (cpI_at hb).trans ?_
    rw [u2r (by omega), u2r (by omega), u2r (by omega), u2r (by omega)]
  have f2 : J e 2 = I o 2 := by rw [← hJ, cpI_row (by omega), u2n (by omega), u2n (by omega), u2n (by omega), u2_at]
  have f3 : J e 3 = I o 3 := by rw [← hJ, cpI_row (by omega), u2n (by omega), u2n (by omega), u2_at, u2r (by omega)]
  have f4 : J e 4 = I o 4 := by rw [← hJ, cpI_row (by omega), u2n (by omega), u2_at, u2r (by omega), u2r (by omega)]
  have f5 : J e 5 = I o 5 := by rw [← hJ, cpI_row (by omega), u2_at, u2r (by omega), u2r (by omega), u2r (by omega)]
  refine lp_copyE (I0 := J) hd hz he ho hs hR (hv.same hR fun x hx1 hx2 => e1 x (by omega) (by omega)) (fun I' g1 g2 => h I' (fun x hx => ?_) g2) _ 0 J rfl (by omega) (fun _ _ => rfl) ⟨?_, ?_, ?_, ?_, ?_, ?_, ?_⟩ (fun r hr => absurd hr (by omega))
  · rw [g1 x hx]; exact e1 x (by omega) (by omega)
  · rw [f2]; exact hv.1
  · rw [f3]; exact hv.2.1
  · rw [f4]; exact hv.2.2.1
  · rw [f5]; exact hv.2.2.2.1
  · rw [vr 0 (by omega)]; exact hv.2.2.2.2.1.1
  · rw [vr 1 (by omega)]; exact hv.2.2.2.2.1.2.1
  · rw [vr 2 (by omega)]; exact hv.2.2.2.2.1.2.2
