/-! THE REFERENCE: changes -/
def PaV (I : Nat → Nat → Int) (n : Nat) (P : Nat → Nat → Int) : Prop := I 103 6 = n ∧ n ≤ 12 ∧ ∀ j, j < n → ∀ i, i < 1514 → I 108 (1514 * j + i) = P j i
/-- what a change may change -/
def MU (I I' : Nat → Nat → Int) : Prop := (∀ x, x < 103 ∨ x = 107 ∨ 120 ≤ x → I' x = I x) ∧ ∀ j, j = 5 ∨ j = 22 ∨ j = 24 ∨ j = 32 → I' 103 j = I 103 j
theorem MF.mu {I I' : Nat → Nat → Int} (h : MF I I') : MU I I' := ⟨fun x hx => h.1 x (by omega) (by omega), fun j hj => h.2 j (by omega) (by omega) (by omega)⟩
theorem MU.tr {I I1 I2 : Nat → Nat → Int} (h : MU I I1) (h2 : MU I1 I2) : MU I I2 := ⟨fun x a => by rw [h2.1 x a]; exact h.1 x a, fun j a => by rw [h2.2 j a]; exact h.2 j a⟩
theorem MF.pa {I I' : Nat → Nat → Int} {n : Nat} {P : Nat → Nat → Int} (h : MF I I') (hp : PaV I n P) : PaV I' n P := ⟨by rw [h.2 6 (by omega) (by omega) (by omega)]; exact hp.1, hp.2.1, fun j hj i hi => by rw [h.1 108 (by omega) (by omega)]; exact hp.2.2 j hj i hi⟩
theorem ix1514 {a k : Nat} (h : a ≤ 12) (h2 : k ≤ 1514) : wr (wr (1514 * (a : Int)) + (k : Int)) = ((1514 * a + k : Nat) : Int) := by
  rw [wr_of (z := 1514 * (a : Int)) (by omega) (by omega), wr_of (by omega) (by omega)]; omega
theorem DR.pl {R : Nat → Int} {k : Nat} {v : Int} (h : DR R) (h1 : k ≠ 1) (h5 : k ≠ 5) (h6 : k ≠ 6) (hk : k < 1214) : DR (rs1 R k v) := by
  have e : ∀ z, dw (rs1 R k v) z = dw R z := fun z => by
    funext j
    unfold dw
    rw [rs1_ne (fun q => h1 q.symm)]
  unfold DR
  rw [rs1_ne (fun q => h6 q.symm), rs1_ne (fun q => h1 q.symm), rs1_ne (fun q => h5 q.symm), e]
  exact ⟨h.1, fun j hj => by rw [rs1_ne (by omega)]; exact h.2 j hj⟩
theorem MaV.s6 {I : Nat → Nat → Int} {R R' d : Nat → Int} {k : Nat} (h : MaV I R d k) (hs : Rs6 R R') (hR : RV R) (hd : ∀ j, j < k → 0 ≤ d j ∧ d j < R 1) : MaV I R' d k := by
  have hc := hR.c
  obtain ⟨h1, ⟨h2, h3⟩, h4, h5⟩ := h
  refine ⟨h1, ⟨fun r hr c hc4 => ?_, fun r hr => ?_⟩, fun r hr => ?_, fun j hj r hr => ?_⟩
  all_goals rw [hs.cc] at hr
  all_goals have ha := hs.all hR hr
  · rw [ha.1, ha.2.1]; exact h2 r hr c hc4
  · obtain ⟨b1, b2, b3, b4⟩ := h3 r hr
    refine ⟨by rw [ha.2.2.1]; exact b1, by rw [ha.2.2.2.1]; exact b2, by rw [ha.2.2.2.2.1]; exact b3, fun b hb => ?_⟩
    rw [hs.nn] at hb
    rw [ha.2.2.2.2.2 b hb]; exact b4 b hb
  · rw [hs.rs_ hR hr k hd]
    obtain ⟨⟨b1, b2⟩, b3⟩ := h4 r hr
    refine ⟨⟨fun q => b1 (by rw [← hs.yy (by omega)]; exact q), fun q => ?_⟩, b3⟩
    rw [ha.2.2.1, hs.kk (by omega)]
    exact b2 (by rw [← hs.yy (by omega)]; exact q)
  · rw [hs.rs_ hR hr j (fun i hi => hd i (by omega))]; exact h5 j hj r hr
section
variable {G : am_G} {dp : Nat} {Q : am_Q} {R : Nat → Int} {P : Nat → Nat → Int} {n : Nat} {Z : (Nat → Nat → Option Nat) × (Nat → Nat × Nat) × Nat × Bool}
theorem Md.past {m : am_M} (h : Md m) : m.2.1 103 4 = some 108 ∧ am_arw m 108 100 18168 := h.2 (4, 108, 100, 18168) (by decide)
theorem Md.image {m : am_M} (h : Md m) : m.2.1 103 3 = some 107 ∧ am_arw m 107 100 1514 := h.2 (3, 107, 100, 1514) (by decide)
theorem Md.read {m : am_M} (h : Md m) : m.2.1 103 1 = some 105 ∧ am_arw m 105 100 1514 := h.2 (1, 105, 100, 1514) (by decide)
theorem lp_kcopy {I0 : Nat → Nat → Int} {a : Nat} (hM : Md (I0, Z)) (hv : RowV I0 R) (ha : I0 103 6 = a) (ha2 : a < 12) (h : ∀ I' : Nat → Nat → Int, (∀ x, x ≠ 103 → x ≠ 108 → I' x = I0 x) → (∀ j, j ≠ 6 → I' 103 j = I0 103 j) → I' 103 6 = ((a + 1 : Nat) : Int) → (∀ i, i < 1514 → I' 108 (1514 * a + i) = R i) → (∀ j, j < 1514 * a ∨ 1514 * a + 1514 ≤ j → I' 108 j = I0 108 j) → Q (.inl none) (I', Z)) : ∀ (t k : Nat) (I : Nat → Nat → Int), k + t = 1514 → (∀ x, x ≠ 108 → I x = I0 x) → (∀ i, i < k → I 108 (1514 * a + i) = R i) → (∀ j, j < 1514 * a ∨ 1514 * a + 1514 ≤ j → I 108 j = I0 108 j) → X G dp 0 0 M9_keep 54 [some (rV (some 103)), some (iV k)] [] (I, Z) Q := by
  intro t
  induction t with
  | zero =>
    intro k I ht hf h1 h2
    have e6 : (I, Z).1 103 6 = a := by dsimp only; rw [hf 103 (by omega)]; exact ha
    refine s9_keep_54 (n_p1 := 18168) (n_p2 := 1514) hM.1 hM.past.1 hM.row.1 (am_rw hM.row.2) hM.past.2 (fun _ => ?_) (fun c => absurd (by omega) c) (h9 := fun c => absurd (by omega) c) (h10 := fun c => absurd (by omega) c)
    rw [e6, wrs (by omega)]
    dsimp only
    refine h _ (fun x p q => by rw [u2r p]; exact hf x q) (fun j hj => by rw [u2n hj, hf 103 (by omega)]) u2_at (fun i hi => by rw [u2r (by omega)]; exact h1 i (by omega)) (fun j hj => by rw [u2r (by omega)]; exact h2 j hj)
  | succ t ih =>
    intro k I ht hf h1 h2
    have e6 : (I, Z).1 103 6 = a := by dsimp only; rw [hf 103 (by omega)]; exact ha
    refine s9_keep_54 (n_p1 := 18168) (n_p2 := 1514) hM.1 hM.past.1 hM.row.1 (am_rw hM.row.2) hM.past.2 (fun c => absurd c (by omega)) (fun _ => ?_) (h9 := fun _ => by rw [e6, ix1514 (by omega) (by omega)]; omega) (h10 := fun _ => by rw [e6, ix1514 (by omega) (by omega)]; omega)
    rw [e6, ix1514 (by omega) (by omega), tnc, tnc, wrs (by omega)]
    dsimp only
    rw [hf 104 (by omega), hv k (by omega)]
    refine ih (k + 1) _ (by omega) (fun x hx => by rw [u2r hx]; exact hf x hx) (fun i hi => ?_) (fun j hj => by rw [u2n (by omega)]; exact h2 j hj)
    by_cases e : i = k
    · subst e; exact u2_at
    · rw [u2n (by omega)]; exact h1 i (by omega)
theorem lp_kshift {I0 : Nat → Nat → Int} (hM : Md (I0, Z)) (ha : I0 103 6 = 12) (h : ∀ I' : Nat → Nat → Int, (∀ x, x ≠ 103 → x ≠ 108 → I' x = I0 x) → (∀ j, j ≠ 6 → I' 103 j = I0 103 j) → I' 103 6 = 11 → (∀ j, j < 16654 → I' 108 j = I0 108 (j + 1514)) → X G dp 0 0 M9_keep 54 [some (rV (some 103)), some (iV 0)] [] (I', Z) Q) : ∀ (t k : Nat) (I : Nat → Nat → Int), k + t = 18168 → 1514 ≤ k → (∀ x, x ≠ 108 → I x = I0 x) → (∀ j, j + 1514 < k → I 108 j = I0 108 (j + 1514)) → (∀ j, k ≤ j + 1514 → I 108 j = I0 108 j) → X G dp 0 0 M9_keep 13 [some (rV (some 103)), some (iV k)] [] (I, Z) Q := by
  intro t
  induction t with
  | zero =>
    intro k I ht hk hf h1 h2
    have e6 : (I, Z).1 103 6 = 12 := by dsimp only; rw [hf 103 (by omega)]; exact ha
    refine s9_keep_13 (n_p1 := 18168) hM.1 hM.past.1 hM.past.2 (fun _ => ?_) (fun c => absurd (by omega) c) (h8 := fun c => absurd (by omega) c) (h9 := fun c => absurd (by omega) c)
    rw [e6, show wr (12 - 1) = 11 by decide]
    dsimp only
    exact h _ (fun x p q => by rw [u2r p]; exact hf x q) (fun j hj => by rw [u2n hj, hf 103 (by omega)]) u2_at (fun j hj => by rw [u2r (by omega)]; exact h1 j (by omega))
  | succ t ih =>
    intro k I ht hk hf h1 h2
    have ei : wr ((k : Int) - 1514) = ((k - 1514 : Nat) : Int) := by rw [wr_of (by omega) (by omega)]; omega
    refine s9_keep_13 (n_p1 := 18168) hM.1 hM.past.1 hM.past.2 (fun c => absurd c (by omega)) (fun _ => ?_) (h8 := fun _ => by rw [wr_of (by omega) (by omega)]; omega) (h9 := fun _ => by rw [wr_of (by omega) (by omega)]; omega)
    rw [ei, tnc, tnc, wrs (by omega)]
    clear ei
    dsimp only
    rw [h2 k (by omega)]
    refine ih (k + 1) _ (by omega) (by omega) (fun x hx => by rw [u2r hx]; exact hf x hx) (fun j hj => ?_) (fun j hj => by rw [u2n (by omega)]; exact h2 j (by omega))
    by_cases e : j = k - 1514
    · have e2 : k = j + 1514 := by omega
      rw [← e, u2_at, e2]
    · rw [u2n e]; exact h1 j (by omega)
theorem md_keep {I : Nat → Nat → Int} (hM : Md (I, Z)) (hv : RowV I R) (hp : PaV I n P) (h : ∀ I' : Nat → Nat → Int, (∀ x, x ≠ 103 → x ≠ 108 → I' x = I x) → (∀ j, j ≠ 6 → I' 103 j = I 103 j) → PaV I' (psn n) (psh P n R) → Q (.inl none) (I', Z)) : T G dp 0 0 M9_keep [rV (some 103)] (I, Z) Q := by
  obtain ⟨p1, p2, p3⟩ := hp
  refine T9_keep (s9_keep_0 (am_ow hM.1) (fun c => ?_) (fun c => ?_))
  · dsimp only at c
    rw [p1] at c
    have hn : n < 12 := by omega
    refine lp_kcopy (I0 := I) hM hv p1 hn (fun I1 g1 g2 g3 g4 g5 => h I1 g1 g2 ?_) 1514 0 I rfl (fun _ _ => rfl) (fun i hi => absurd hi (by omega)) (fun _ _ => rfl)
    unfold PaV psn psh
    rw [if_pos hn, if_pos hn]
    refine ⟨g3, by omega, fun j hj i hi => ?_⟩
    by_cases e : j = n
    · subst e; rw [if_pos rfl]; exact g4 i hi
    · rw [if_neg e, g5 _ (by omega)]; exact p3 j (by omega) i hi
  · dsimp only at c
    rw [p1] at c
    have hn : n = 12 := by omega
    subst hn
    refine lp_kshift (I0 := I) hM p1 (fun I1 g1 g2 g3 g4 => ?_) 16654 1514 I rfl (by omega) (fun _ _ => rfl) (fun j hj => absurd hj (by omega)) (fun _ _ => rfl)
    refine lp_kcopy (R := R) (I0 := I1) (a := 11) hM (fun j hj => by rw [g1 104 (by omega) (by omega)]; exact hv j hj) g3 (by omega) (fun I2 k1 k2 k3 k4 k5 => h I2 (fun x a b => by rw [k1 x a b]; exact g1 x a b) (fun j hj => by rw [k2 j hj]; exact g2 j hj) ?_) 1514 0 I1 rfl (fun _ _ => rfl) (fun i hi => absurd hi (by omega)) (fun _ _ => rfl)
    unfold PaV psn psh
    rw [if_neg (by omega), if_neg (by omega)]
    refine ⟨k3, by omega, fun j hj i hi => ?_⟩
    by_cases e : j = 11
    · subst e; rw [if_pos rfl]; exact k4 i hi
    · rw [if_neg e, k5 _ (by omega), g4 _ (by omega), show 1514 * j + i + 1514 = 1514 * (j + 1) + i by omega]; exact p3 (j + 1) (by omega) i hi
theorem md_becomes {I : Nat → Nat → Int} {p : Nat} {v : Int} (hd : 1 ≤ dp) (hM : Md (I, Z)) (hv : RowV I R) (hp : PaV I n P) (hp2 : p < 1514) (h : ∀ I' : Nat → Nat → Int, (∀ x, x ≠ 103 → x ≠ 104 → x ≠ 108 → I' x = I x) → (∀ j, j ≠ 6 → I' 103 j = I 103 j) → RowV I' (rs1 R p v) → PaV I' (psn n) (psh P n R) → Q (.inl (some (iV (R p)))) (I', Z)) : T G dp 0 0 M9_becomes [rV (some 103), iV p, iV v] (I, Z) Q := by
  refine T9_becomes (s9_becomes_0 hd (am_ow hM.1) fun Q' hK => md_keep hM hv hp (fun I1 g1 g2 g3 => hK _ ?_))
  refine s9_becomes_4 (n_p1 := 1514) (am_ow hM.1) hM.row.1 hM.row.2 ?_
  dsimp only
  rw [tnc, g1 104 (by omega) (by omega), hv p hp2]
  refine h _ (fun x a b c => by rw [u2r b]; exact g1 x a c) (fun j hj => by rw [u2r (by omega)]; exact g2 j hj) (fun j hj => ?_) ⟨by rw [u2r (by omega)]; exact g3.1, g3.2.1, fun j hj i hi => by rw [u2r (by omega)]; exact g3.2.2 j hj i hi⟩
  by_cases e : j = p
  · subst e; rw [u2_at, rs1_at]
  · rw [u2n e, rs1_ne e, g1 104 (by omega) (by omega)]; exact hv j hj
/-- a change at a place, behind a cleared code -/
theorem md_becomes0 {I : Nat → Nat → Int} {p : Nat} {v : Int} (hd : 1 ≤ dp) (hM : Md (I, Z)) (hv : RowV I R) (hp : PaV I n P) (hp2 : p < 1514) (h : ∀ I' : Nat → Nat → Int, MU I I' → I' 103 7 = 0 → RowV I' (rs1 R p v) → PaV I' (psn n) (psh P n R) → Q (.inl (some (iV (R p)))) (I', Z)) : T G dp 0 0 M9_becomes [rV (some 103), iV p, iV v] (u2 I 103 7 0, Z) Q :=
  md_becomes hd hM (MF.code.row hv) (MF.code.pa hp) hp2 (fun I1 g1 g2 g3 g4 => h I1 (MF.code.mu.tr ⟨fun x hx => g1 x (by omega) (by omega) (by omega), fun j hj => g2 j (by omega)⟩) (by rw [g2 7 (by omega)]; exact u2_at) g3 g4)
theorem r_paper {I : Nat → Nat → Int} {i j v : Int} (hd : 8 ≤ dp) (hM : Md (I, Z)) (hv : RowV I R) (hR : RV R) (hp : PaV I n P) (h1 : (¬ isR R j ∨ ¬ isB R i) → ∀ I' : Nat → Nat → Int, MF I I' → I' 103 7 = 1 → Q (.inl (some (iV 0))) (I', Z)) (h2 : ∀ r : Nat, j = r → r < rC R → isB R i → ¬ (-2 ≤ v ∧ v < R (8 + 2 * r)) → ∀ I' : Nat → Nat → Int, MF I I' → I' 103 7 = 2 → Q (.inl (some (iV 0))) (I', Z)) (h0 : ∀ r b : Nat, j = r → r < rC R → i = b → b < rN R → -2 ≤ v → v < R (8 + 2 * r) → ∀ I' : Nat → Nat → Int, MU I I' → I' 103 7 = 0 → RowV I' (rs1 R (614 + 3 * b + r) v) → PaV I' (psn n) (psh P n R) → Q (.inl (some (iV (rP_ R r b)))) (I', Z)) : T G dp 4 24 M9_paper [rV (some 103), iV i, iV j, iV v] (I, Z) Q := by
  have nn : ∀ k : Int, ¬ k ≤ 0 → ¬ (u2 (I, Z).1 103 7 k) 103 7 ≤ 0 := fun k hk => by rw [u2_at]; exact hk
  have n0 : (u2 (I, Z).1 103 7 0) 103 7 ≤ 0 := by rw [u2_at]; exact Int.le_refl _
  refine T9_paper (s9_paper_0 (by omega) (am_ow hM.1) fun Q' hK => md_isBallot (m := (I, Z)) (by omega) hM hv hR (fun c => hK _ _ ?_) (fun c => hK _ _ ?_))
  · obtain ⟨b, eb, hb, hb2⟩ := c.n hR
    subst eb
    refine s9_paper_6 (by omega) hM.1 (am_ow hM.1) (fun c => absurd c (by decide)) (fun c => absurd c (by decide)) (fun _ Q' hK => md_isRace (m := (I, Z)) (by omega) hM hv hR (fun cc => hK _ _ ?_) (fun cc => hK _ _ ?_))
    · obtain ⟨r, er, hr, hr3⟩ := cc.n hR
      subst er
      have hK4 := hR.k hr
      refine s9_paper_14 (by omega) (am_ow hM.1) hM.1 (fun _ Q' hK => md_candidates (m := (I, Z)) hM hv hr3 (hK _ _ ?_)) (fun c => absurd c (by decide)) (fun c => absurd c (by decide))
      refine s9_paper_29 (by omega) fun Q' hK => md_isIn (hK _ _ ?_)
      rw [wr_of (by omega) (by omega)]
      by_cases q : -2 ≤ v ∧ v ≤ R (8 + 2 * r) - 1
      · rw [if_pos q]
        refine s9_paper_34 (by omega) hM.1 (am_ow hM.1) (fun _ _ Q' hK => md_at (f := 614) (by omega) hb2 hr3 (hK _ _ ?_)) (fun _ c => absurd n0 c) (fun c => absurd c (by decide)) (fun c => absurd c (by decide))
        exact s9_paper_65 (by omega) (am_ow hM.1) fun Q' hK => md_becomes0 (by omega) hM hv hp (by omega) (fun I1 g1 g2 g3 g4 => hK _ _ (s9_paper_69 (h0 r b rfl hr rfl hb q.1 (by omega) I1 g1 g2 g3 g4)))
      · rw [if_neg q]
        exact s9_paper_34 (by omega) hM.1 (am_ow hM.1) (fun c => absurd rfl c) (fun c => absurd rfl c) (fun _ c => absurd c (nn 2 (by omega))) (fun _ _ => s9_paper_69 (h2 r rfl hr c (fun z => q ⟨z.1, by omega⟩) _ MF.code u2_at))
    · exact s9_paper_14 (by omega) (am_ow hM.1) hM.1 (fun c => absurd rfl c) (fun _ c => absurd c (nn 1 (by omega))) (fun _ _ => s9_paper_69 (h1 (Or.inl cc) _ MF.code u2_at))
  · exact s9_paper_6 (by omega) hM.1 (am_ow hM.1) (fun _ c => absurd c (nn 1 (by omega))) (fun _ _ => s9_paper_69 (h1 (Or.inr c) _ MF.code u2_at)) (fun c => absurd rfl c)
theorem ixw {r : Nat} (h : r < 3) : wr (wr (8 + wr (2 * (r : Int))) + 1) = ((8 + 2 * r + 1 : Nat) : Int) := by rw [wr_of (z := 2 * (r : Int)) (by omega) (by omega), wr_of (z := 8 + 2 * (r : Int)) (by omega) (by omega), wr_of (by omega) (by omega)]; omega
theorem r_way {I : Nat → Nat → Int} {i v : Int} (hd : 8 ≤ dp) (hM : Md (I, Z)) (hv : RowV I R) (hR : RV R) (hp : PaV I n P) (h1 : ¬ isR R i → ∀ I' : Nat → Nat → Int, MF I I' → I' 103 7 = 1 → Q (.inl (some (iV 0))) (I', Z)) (h2 : isR R i → ¬ (v = 0 ∨ v = 1) → ∀ I' : Nat → Nat → Int, MF I I' → I' 103 7 = 2 → Q (.inl (some (iV 0))) (I', Z)) (h0 : ∀ r : Nat, i = r → r < rC R → v = 0 ∨ v = 1 → ∀ I' : Nat → Nat → Int, MU I I' → I' 103 7 = 0 → RowV I' (rs1 R (8 + 2 * r + 1) v) → PaV I' (psn n) (psh P n R) → Q (.inl (some (iV (rY R r)))) (I', Z)) : T G dp 4 24 M9_way [rV (some 103), iV i, iV v] (I, Z) Q := by
  have nn : ∀ k : Int, ¬ k ≤ 0 → ¬ (u2 (I, Z).1 103 7 k) 103 7 ≤ 0 := fun k hk => by rw [u2_at]; exact hk
  have n0 : (u2 (I, Z).1 103 7 0) 103 7 ≤ 0 := by rw [u2_at]; exact Int.le_refl _
  refine T9_way (s9_way_0 (by omega) (am_ow hM.1) fun Q' hK => md_isRace (m := (I, Z)) (by omega) hM hv hR (fun c => hK _ _ ?_) (fun c => hK _ _ ?_))
  · obtain ⟨r, er, hr, hr3⟩ := c.n hR
    subst er
    refine s9_way_6 (by omega) (fun _ Q' hK => md_isIn (hK _ _ ?_)) (fun c => absurd c (by decide))
    by_cases q : 0 ≤ v ∧ v ≤ 1
    · rw [if_pos q]
      refine s9_way_19 (fun _ => ?_) (fun c => absurd c (by decide))
      refine s9_way_27 (by omega) hM.1 (am_ow hM.1) (fun _ Q' hK => ?_) (fun c => absurd n0 c)
      rw [ixw hr3]
      exact md_becomes0 (by omega) hM hv hp (by omega) (fun I1 g1 g2 g3 g4 => hK _ _ (s9_way_54 (h0 r rfl hr (by omega) I1 g1 g2 g3 g4)))
    · rw [if_neg q]
      refine s9_way_19 (fun c => absurd rfl c) (fun _ => ?_)
      exact s9_way_27 (by omega) hM.1 (am_ow hM.1) (fun c => absurd c (nn 2 (by omega))) (fun _ => s9_way_54 (h2 c (by omega) _ MF.code u2_at))
  · refine s9_way_6 (by omega) (fun c => absurd rfl c) (fun _ => ?_)
    exact s9_way_27 (by omega) hM.1 (am_ow hM.1) (fun c => absurd c (nn 1 (by omega))) (fun _ => s9_way_54 (h1 c _ MF.code u2_at))
theorem md_isRule {m : am_M} {i v : Int} (hd : 1 ≤ dp) (hi : 0 ≤ i) (hi2 : i ≤ 2) (h : Q (.inl (some (iV (if lea i ≤ v ∧ v ≤ mos i then 1 else 0)))) m) : T G dp 0 0 M9_isRule [iV i, iV v] m Q := by
  refine T9_isRule (X_iload_n dX9_isRule_0 rfl rfl ?_)
  have hz : ∀ a b : Int, (if a ≤ v ∧ v ≤ b then (1 : Int) else 0) = 0 ∨ (if a ≤ v ∧ v ≤ b then (1 : Int) else 0) = 1 := fun a b => by
    by_cases q : a ≤ v ∧ v ≤ b
    · rw [if_pos q]; exact Or.inr rfl
    · rw [if_neg q]; exact Or.inl rfl
  by_cases c0 : i = 0
  · subst c0
    refine X_lookup (tgt := 28) dX9_isRule_1 (by decide) rfl (by decide) ?_
    refine X_iload_n dX9_isRule_28 rfl rfl ?_
    refine Y_iconst dX9_isRule_29 (by unfold i32; omega) ?_
    refine Y_sipush dX9_isRule_30 (by omega) ?_
    exact X_callS (As := [iV v, iV 1, iV 500]) (rest := []) (a' := 0) (b' := 0) dX9_isRule_33 t9_isIn ml_9_80 rfl rfl (Nat.le_of_ble_eq_true rfl) rfl hd (Nat.zero_le _) (Nat.zero_le _) (md_isIn (X_zret dX9_isRule_36 rfl (hz _ _) h))
  · by_cases c1 : i = 1
    · subst c1
      refine X_lookup (tgt := 37) dX9_isRule_1 (by decide) rfl (by decide) ?_
      refine X_iload_n dX9_isRule_37 rfl rfl ?_
      refine Y_bipush dX9_isRule_38 (by omega) ?_
      refine Y_sipush dX9_isRule_40 (by omega) ?_
      exact X_callS (As := [iV v, iV 101, iV 300]) (rest := []) (a' := 0) (b' := 0) dX9_isRule_43 t9_isIn ml_9_80 rfl rfl (Nat.le_of_ble_eq_true rfl) rfl hd (Nat.zero_le _) (Nat.zero_le _) (md_isIn (X_zret dX9_isRule_46 rfl (hz _ _) h))
    · have c2 : i = 2 := by omega
      subst c2
      refine X_lookup (tgt := 47) dX9_isRule_1 (by decide) rfl (by decide) ?_
      refine X_iload_n dX9_isRule_47 rfl rfl ?_
      refine Y_iconst dX9_isRule_48 (by unfold i32; omega) ?_
      refine Y_sipush dX9_isRule_49 (by omega) ?_
      exact X_callS (As := [iV v, iV 1, iV 300]) (rest := []) (a' := 0) (b' := 0) dX9_isRule_52 t9_isIn ml_9_80 rfl rfl (Nat.le_of_ble_eq_true rfl) rfl hd (Nat.zero_le _) (Nat.zero_le _) (md_isIn (X_zret dX9_isRule_55 rfl (hz _ _) h))
theorem r_rule {I : Nat → Nat → Int} {i v : Int} (hd : 8 ≤ dp) (hM : Md (I, Z)) (hv : RowV I R) (hp : PaV I n P) (h1 : ¬ (0 ≤ i ∧ i ≤ 2) → ∀ I' : Nat → Nat → Int, MF I I' → I' 103 7 = 1 → Q (.inl (some (iV 0))) (I', Z)) (h2 : 0 ≤ i → i ≤ 2 → ¬ (lea i ≤ v ∧ v ≤ mos i) → ∀ I' : Nat → Nat → Int, MF I I' → I' 103 7 = 2 → Q (.inl (some (iV 0))) (I', Z)) (h0 : ∀ q : Nat, i = q → q < 3 → lea i ≤ v → v ≤ mos i → ∀ I' : Nat → Nat → Int, MU I I' → I' 103 7 = 0 → RowV I' (rs1 R (2 + q) v) → PaV I' (psn n) (psh P n R) → Q (.inl (some (iV (R (2 + q))))) (I', Z)) : T G dp 4 24 M9_rule [rV (some 103), iV i, iV v] (I, Z) Q := by
  have nn : ∀ k : Int, ¬ k ≤ 0 → ¬ (u2 (I, Z).1 103 7 k) 103 7 ≤ 0 := fun k hk => by rw [u2_at]; exact hk
  have n0 : (u2 (I, Z).1 103 7 0) 103 7 ≤ 0 := by rw [u2_at]; exact Int.le_refl _
  refine T9_rule (s9_rule_0 (by omega) fun Q' hK => md_isIn (hK _ _ ?_))
  by_cases c : 0 ≤ i ∧ i ≤ 2
  · rw [if_pos c]
    refine s9_rule_7 (by omega) hM.1 (am_ow hM.1) (fun _ Q' hK => md_isRule (by omega) c.1 c.2 (hK _ _ ?_)) (fun c => absurd c (by decide)) (fun c => absurd c (by decide))
    by_cases q : lea i ≤ v ∧ v ≤ mos i
    · rw [if_pos q]
      obtain ⟨k, ek⟩ : ∃ k : Nat, i = k := ⟨i.toNat, by omega⟩
      subst ek
      refine s9_rule_19 (by omega) hM.1 (am_ow hM.1) (fun _ _ Q' hK => ?_) (fun _ c => absurd n0 c) (fun c => absurd c (by decide)) (fun c => absurd c (by decide))
      rw [wr_of (z := 2 + (k : Int)) (by omega) (by omega), show 2 + (k : Int) = ((2 + k : Nat) : Int) by omega]
      exact md_becomes0 (by omega) hM hv hp (by omega) (fun I1 g1 g2 g3 g4 => hK _ _ (s9_rule_49 (h0 k rfl (by omega) q.1 q.2 I1 g1 g2 g3 g4)))
    · rw [if_neg q]
      exact s9_rule_19 (by omega) hM.1 (am_ow hM.1) (fun c => absurd rfl c) (fun c => absurd rfl c) (fun _ c => absurd c (nn 2 (by omega))) (fun _ _ => s9_rule_49 (h2 c.1 c.2 q _ MF.code u2_at))
  · rw [if_neg c]
    exact s9_rule_7 (by omega) hM.1 (am_ow hM.1) (fun c => absurd rfl c) (fun _ c => absurd c (nn 1 (by omega))) (fun _ _ => s9_rule_49 (h1 c _ MF.code u2_at))
theorem lp_rundo {I0 : Nat → Nat → Int} {k : Nat} {W : Nat → Int} {a b : Nat} (hM : Md (I0, Z)) (hk : I0 103 6 = k) (hk12 : k < 12) (hW : ∀ i, i < 1514 → I0 108 (1514 * k + i) = W i) (h : ∀ I' : Nat → Nat → Int, (∀ x, x ≠ 104 → I' x = I0 x) → RowV I' W → Q (.inl (some (iV k))) (I', Z)) : ∀ (t j : Nat) (I : Nat → Nat → Int), j + t = 1514 → (∀ x, x ≠ 104 → I x = I0 x) → (∀ i, i < j → I 104 i = W i) → X G dp a b M9_undo 26 [some (rV (some 103)), some (iV j)] [] (I, Z) Q := by
  intro t
  induction t with
  | zero =>
    intro j I ht hf h1
    have e6 : (I, Z).1 103 6 = k := by dsimp only; rw [hf 103 (by omega)]; exact hk
    refine s9_undo_26 (n_p1 := 1514) (n_p2 := 18168) (am_ow hM.1) hM.row.1 hM.past.1 (am_rw hM.past.2) hM.row.2 (fun _ => ?_) (fun c => absurd (by omega) c) (h5 := fun c => absurd (by omega) c) (h6 := fun c => absurd (by omega) c)
    rw [e6]
    exact h I hf (fun i hi => h1 i (by omega))
  | succ t ih =>
    intro j I ht hf h1
    have e6 : (I, Z).1 103 6 = k := by dsimp only; rw [hf 103 (by omega)]; exact hk
    refine s9_undo_26 (n_p1 := 1514) (n_p2 := 18168) (am_ow hM.1) hM.row.1 hM.past.1 (am_rw hM.past.2) hM.row.2 (fun c => absurd c (by omega)) (fun _ => ?_) (h5 := fun _ => by rw [e6, ix1514 (by omega) (by omega)]; omega) (h6 := fun _ => by rw [e6, ix1514 (by omega) (by omega)]; omega)
    rw [e6, ix1514 (by omega) (by omega), tnc, tnc, wrs (by omega)]
    dsimp only
    rw [hf 108 (by omega), hW j (by omega)]
    refine ih (j + 1) _ (by omega) (fun x hx => by rw [u2r hx]; exact hf x hx) (fun i hi => ?_)
    by_cases e : i = j
    · subst e; exact u2_at
    · rw [u2n e]; exact h1 i (by omega)
theorem r_undo {I : Nat → Nat → Int} (hM : Md (I, Z)) (hv : RowV I R) (hp : PaV I n P) (h1 : n = 0 → ∀ I' : Nat → Nat → Int, MF I I' → I' 103 7 = 0 → Q (.inl (some (iV (-1)))) (I', Z)) (h0 : ∀ k, n = k + 1 → ∀ I' : Nat → Nat → Int, MU I I' → I' 103 7 = 0 → RowV I' (P k) → PaV I' k P → Q (.inl (some (iV k))) (I', Z)) : T G dp 4 24 M9_undo [rV (some 103)] (I, Z) Q := by
  obtain ⟨p1, p2, p3⟩ := hp
  refine T9_undo (s9_undo_0 hM.1 (fun c => ?_) (fun c => ?_))
  · dsimp only at c ⊢
    rw [u2n (show (6 : Nat) ≠ 7 by omega), p1] at c ⊢
    obtain ⟨k, rfl⟩ : ∃ k, n = k + 1 := ⟨n - 1, by omega⟩
    have ew : wr (((k + 1 : Nat) : Int) - 1) = (k : Int) := by rw [wr_of (by omega) (by omega)]; omega
    rw [ew]
    clear ew
    refine lp_rundo (I0 := u2 (u2 I 103 7 0) 103 6 k) (W := P k) hM u2_at (by omega) (fun i hi => ?_) (fun I1 g1 g2 => h0 k rfl I1 ⟨fun x hx => ?_, fun j hj => ?_⟩ ?_ g2 ⟨?_, by omega, fun j hj i hi => ?_⟩) 1514 0 _ rfl (fun _ _ => rfl) (fun i hi => absurd hi (by omega))
    · rw [u2r (by omega), u2r (by omega)]; exact p3 k (by omega) i hi
    · rw [g1 x (by omega), u2r (by omega), u2r (by omega)]
    · rw [g1 103 (by omega), u2n (by omega), u2n (by omega)]
    · rw [g1 103 (by omega), u2n (by omega)]; exact u2_at
    · rw [g1 103 (by omega)]; exact u2_at
    · rw [g1 108 (by omega), u2r (by omega), u2r (by omega)]; exact p3 j (by omega) i hi
  · dsimp only at c
    rw [u2n (show (6 : Nat) ≠ 7 by omega), p1] at c
    exact h1 (by omega) _ MF.code u2_at
theorem lp_mcopy {I0 : Nat → Nat → Int} {p q : Nat} (hp : am_arw (I0, Z) p 100 1514) (hq : am_ar (I0, Z) q 100 1514) (hpq : p ≠ q) (h : ∀ I' : Nat → Nat → Int, (∀ x, x ≠ p → I' x = I0 x) → (∀ j, j < 1514 → I' p j = I0 q j) → Q (.inl none) (I', Z)) : ∀ (t k : Nat) (I : Nat → Nat → Int), k + t = 1514 → (∀ x, x ≠ p → I x = I0 x) → (∀ j, j < k → I p j = I0 q j) → X G dp 0 0 M9_copy 2 [some (rV (some p)), some (rV (some q)), some (iV k)] [] (I, Z) Q := by
  intro t
  induction t with
  | zero =>
    intro k I ht hf h1
    exact s9_copy_2 (n_r0 := 1514) (n_r1 := 1514) hq hp (fun _ => h I hf (fun j hj => h1 j (by omega))) (fun c => absurd (by omega) c)
  | succ t ih =>
    intro k I ht hf h1
    refine s9_copy_2 (n_r0 := 1514) (n_r1 := 1514) hq hp (fun c => absurd c (by omega)) (fun _ => ?_)
    rw [tnc, wrs (by omega)]
    dsimp only
    rw [hf q (fun z => hpq z.symm)]
    refine ih (k + 1) _ (by omega) (fun x hx => by rw [u2r hx]; exact hf x hx) (fun j hj => ?_)
    by_cases e : j = k
    · subst e; exact u2_at
    · rw [u2n e]; exact h1 j (by omega)
theorem md_copy {I : Nat → Nat → Int} {p q : Nat} (hp : am_arw (I, Z) p 100 1514) (hq : am_ar (I, Z) q 100 1514) (hpq : p ≠ q) (h : ∀ I' : Nat → Nat → Int, (∀ x, x ≠ p → I' x = I x) → (∀ j, j < 1514 → I' p j = I q j) → Q (.inl none) (I', Z)) : T G dp 0 0 M9_copy [rV (some p), rV (some q)] (I, Z) Q :=
  T9_copy (s9_copy_0 (lp_mcopy hp hq hpq h 1514 0 I rfl (fun _ _ => rfl) (fun j hj => absurd hj (by omega))))
theorem r_image {I : Nat → Nat → Int} (hd : 2 ≤ dp) (hM : Md (I, Z)) (hv : RowV I R) (h : ∀ I' : Nat → Nat → Int, (∀ x, x ≠ 103 → x ≠ 107 → I' x = I x) → (∀ j, j ≠ 5 → j ≠ 7 → I' 103 j = I 103 j) → I' 103 5 = 1 → (∀ j, j < 1514 → I' 107 j = R j) → Q (.inl none) (I', Z)) : T G dp 4 24 M9_image [rV (some 103)] (I, Z) Q := by
  refine T9_image (s9_image_0 (by omega) hM.1 hM.image.1 hM.row.1 fun Q' hK => md_copy (I := u2 I 103 7 0) hM.image.2 (am_rw hM.row.2) (by omega) (fun I1 g1 g2 => hK _ (s9_image_16 hM.1 ?_)))
  dsimp only
  refine h _ (fun x a b => by rw [u2r a, g1 x b, u2r a]) (fun j a b => by rw [u2n a, g1 103 (by omega), u2n b]) u2_at (fun j hj => ?_)
  rw [u2r (by omega), g2 j hj, u2r (by omega)]
  exact hv j hj
theorem r_back {I : Nat → Nat → Int} {Ri : Nat → Int} (hd : 2 ≤ dp) (hM : Md (I, Z)) (hp : PaV I n P) (h1 : I 103 5 = 0 → ∀ I' : Nat → Nat → Int, MF I I' → I' 103 7 = 0 → Q (.inl (some (iV 0))) (I', Z)) (hi : I 103 5 ≠ 0 → ∀ j, j < 1514 → I 107 j = Ri j) (h0 : I 103 5 ≠ 0 → ∀ I' : Nat → Nat → Int, MU I I' → I' 103 7 = 0 → RowV I' Ri → PaV I' 0 P → Q (.inl (some (iV 1))) (I', Z)) : T G dp 4 24 M9_back [rV (some 103)] (I, Z) Q := by
  refine T9_back (s9_back_0 (by omega) hM.1 hM.row.1 hM.image.1 (fun c Q' hK => ?_) (fun c => ?_))
  · dsimp only at c
    rw [u2n (show (5 : Nat) ≠ 7 by omega)] at c
    refine md_copy (I := u2 I 103 7 0) hM.row.2 (am_rw hM.image.2) (by omega) (fun I1 g1 g2 => hK _ (s9_back_25 hM.1 ?_))
    dsimp only
    refine h0 c _ ⟨fun x hx => by rw [u2r (by omega), g1 x (by omega), u2r (by omega)], fun j hj => by rw [u2n (by omega), g1 103 (by omega), u2n (by omega)]⟩ (by rw [u2n (by omega), g1 103 (by omega)]; exact u2_at) (fun j hj => ?_) ⟨u2_at, by omega, fun j hj => absurd hj (by omega)⟩
    rw [u2r (by omega), g2 j hj, u2r (by omega)]
    exact hi c j hj
  · dsimp only at c
    rw [u2n (show (5 : Nat) ≠ 7 by omega)] at c
    exact h1 c _ MF.code u2_at
end
