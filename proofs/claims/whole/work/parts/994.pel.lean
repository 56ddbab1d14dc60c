/-! AN ELECTION'S TEXT, plainly: from a place and a row to a place and a row -/
abbrev TR : Type := TS × (Nat → Int)
def tWay (tp : Nat → Int) (n : Nat) (t : TS) : TS × Int := if iW tp n t (sby 2) = true then (tP tp n t, 1) else (if iW tp n t (sby 3) = true then tP tp n t else tF t 1, 0)
def tCh (tp : Nat → Int) (n : Nat) (t : TS) (K : Int) : TS × Int := if iW tp n t (sby 5) = true then (tP tp n t, -1) else if iW tp n t (sby 6) = true then (tP tp n t, -2) else (tN tp n t 0 (K - 1) 100000000, tV tp n t 0 (K - 1) 100000000)
def tRc2 (R : Nat → Int) (v w : Int) : Nat → Int := rs1 (rs1 (rs1 R (8 + 2 * rC R) v) (8 + 2 * rC R + 1) w) 0 (R 0 + 1)
def tRc1 (tp : Nat → Int) (n : Nat) (t : TS) (R : Nat → Int) : TR := (tS tp n (tWay tp n (tN tp n t 2 4 100000000)).1 59, tRc2 R (tV tp n t 2 4 100000000) (tWay tp n (tN tp n t 2 4 100000000)).2)
def tRace (tp : Nat → Int) (n : Nat) (s : TR) : TR := if iW tp n s.1 (sby 1) = true then (if s.2 0 < 3 then tRc1 tp n (tP tp n s.1) s.2 else (tF s.1 3, s.2)) else (tF s.1 1, s.2)
def fil (R : Nat → Int) (r a b : Nat) (v : Int) : Nat → Int := fun j => if (14 ≤ j ∧ j < 614 ∧ (j - 14) % 3 = r ∧ a ≤ (j - 14) / 3 ∧ (j - 14) / 3 < b) ∨ (614 ≤ j ∧ j < 1214 ∧ (j - 614) % 3 = r ∧ a ≤ (j - 614) / 3 ∧ (j - 614) / 3 < b) then v else R j
theorem fil_lo {R : Nat → Int} {r a b j : Nat} {v : Int} (h : j < 14) : fil R r a b v j = R j := by unfold fil; rw [if_neg (by omega)]
theorem fil_V {R : Nat → Int} {r a b x r' : Nat} {v : Int} (hr : r' < 3) (hx : x < 200) : fil R r a b v (14 + 3 * x + r') = if r' = r ∧ a ≤ x ∧ x < b then v else R (14 + 3 * x + r') := by
  unfold fil
  rw [show 14 + 3 * x + r' - 14 = 3 * x + r' by omega, show (3 * x + r') % 3 = r' by omega, show (3 * x + r') / 3 = x by omega]
  by_cases z : r' = r ∧ a ≤ x ∧ x < b
  · rw [if_pos (by omega), if_pos z]
  · rw [if_neg (by omega), if_neg z]
theorem fil_P {R : Nat → Int} {r a b x r' : Nat} {v : Int} (hr : r' < 3) (hx : x < 200) : fil R r a b v (614 + 3 * x + r') = if r' = r ∧ a ≤ x ∧ x < b then v else R (614 + 3 * x + r') := by
  unfold fil
  rw [show 614 + 3 * x + r' - 614 = 3 * x + r' by omega, show (3 * x + r') % 3 = r' by omega, show (3 * x + r') / 3 = x by omega]
  by_cases z : r' = r ∧ a ≤ x ∧ x < b
  · rw [if_pos (by omega), if_pos z]
  · rw [if_neg (by omega), if_neg z]
def tBr (tp : Nat → Int) (n a b : Nat) (s : TR) : Nat → TR
  | 0 => s
  | k + 1 => ((tCh tp n (tBr tp n a b s k).1 (s.2 (8 + 2 * k))).1, fil (tBr tp n a b s k).2 k a b (tCh tp n (tBr tp n a b s k).1 (s.2 (8 + 2 * k))).2)
def tTo (tp : Nat → Int) (n : Nat) (s : TR) : Nat := (min (s.2 1 + tV tp n s.1 1 99 (200 - s.2 1)) 200).toNat
def tBal (tp : Nat → Int) (n : Nat) (s : TR) : TR := ((tBr tp n (rN s.2) (tTo tp n s) (tN tp n s.1 1 99 (200 - s.2 1), s.2) (rC s.2)).1, rs1 (tBr tp n (rN s.2) (tTo tp n s) (tN tp n s.1 1 99 (200 - s.2 1), s.2) (rC s.2)).2 1 (tTo tp n s))
def tPb (tp : Nat → Int) (n : Nat) (s : TR) : Nat := (tV tp n s.1 0 (s.2 1 - 1) 100000000).toNat
def tP1 (tp : Nat → Int) (n : Nat) (s : TR) : TS := tN tp n s.1 0 (s.2 1 - 1) 100000000
def tPr (tp : Nat → Int) (n : Nat) (s : TR) : Nat := (tV tp n (tP1 tp n s) 0 (s.2 0 - 1) 100000000).toNat
def tP2 (tp : Nat → Int) (n : Nat) (s : TR) : TS := tN tp n (tP1 tp n s) 0 (s.2 0 - 1) 100000000
def tP3 (tp : Nat → Int) (n : Nat) (s : TR) : TS × Int := tCh tp n (tP2 tp n s) (s.2 (8 + 2 * tPr tp n s))
def tPap (tp : Nat → Int) (n : Nat) (s : TR) : TR := if tPr tp n s < rC s.2 then ((tP3 tp n s).1, if (tP3 tp n s).1.2.1 = 0 ∧ tPb tp n s < rN s.2 then rs1 s.2 (614 + 3 * tPb tp n s + tPr tp n s) (tP3 tp n s).2 else s.2) else (tP2 tp n s, s.2)
def tRul (tp : Nat → Int) (n : Nat) (s : TR) (k : Nat) (lo hi : Int) : TR := (tN tp n s.1 lo hi 100000000, rs1 s.2 k (tV tp n s.1 lo hi 100000000))
def tLin (tp : Nat → Int) (n : Nat) (s : TR) : TR :=
  if iW tp n s.1 (sby 4) = true then tBal tp n (tP tp n s.1, s.2)
  else if iW tp n s.1 (sby 7) = true then tPap tp n (tP tp n s.1, s.2)
  else if iW tp n s.1 (sby 8) = true then tRul tp n (tP tp n s.1, s.2) 2 1 500
  else if iW tp n s.1 (sby 9) = true then tRul tp n (tP tp n s.1, s.2) 3 101 300
  else if iW tp n s.1 (sby 10) = true then tRul tp n (tP tp n s.1, s.2) 4 1 300
  else if iW tp n s.1 (sby 11) = true then tRul tp n (tP tp n s.1, s.2) 5 0 999999
  else (tF s.1 1, s.2)
def tLine (tp : Nat → Int) (n : Nat) (s : TR) : TR := (tS tp n (tLin tp n s).1 59, (tLin tp n s).2)
def tRcs (tp : Nat → Int) (n : Nat) : Nat → TR → TR
  | 0, s => s
  | g + 1, s => if iW tp n s.1 (sby 1) = true then tRcs tp n g (tRace tp n s) else s
def tLns (tp : Nat → Int) (n : Nat) : Nat → TR → TR
  | 0, s => s
  | g + 1, s => if s.1.2.1 = 0 ∧ kd tp n s.1.1 ≠ 0 then tLns tp n g (tLine tp n s) else s
def row0 : Nat → Int := fun j => if j = 2 then 50 else if j = 3 then 110 else if j = 4 then 100 else 0
def tTell (tp : Nat → Int) (n : Nat) : TR := tLns tp n 600 (tRcs tp n 600 (tRace tp n ((rn blk tp n 0, 0, -1), row0)))
theorem Tk.W {tp : Nat → Int} {n : Nat} {t : TS} (h : Tk n t) : Tk n (tWay tp n t).1 := by
  unfold tWay
  by_cases e : iW tp n t (sby 2) = true
  · rw [if_pos e]; exact h.P
  · rw [if_neg e]
    by_cases e2 : iW tp n t (sby 3) = true
    · rw [if_pos e2]; exact h.P
    · rw [if_neg e2]; exact h.F ⟨by decide, by decide⟩
theorem Tk.C {tp : Nat → Int} {n : Nat} {t : TS} {K : Int} (h : Tk n t) : Tk n (tCh tp n t K).1 := by
  unfold tCh
  by_cases e : iW tp n t (sby 5) = true
  · rw [if_pos e]; exact h.P
  · rw [if_neg e]
    by_cases e2 : iW tp n t (sby 6) = true
    · rw [if_pos e2]; exact h.P
    · rw [if_neg e2]; exact h.N
theorem tCh_in {tp : Nat → Int} {n : Nat} {t : TS} {K : Int} (hK : 1 ≤ K) : -2 ≤ (tCh tp n t K).2 ∧ (tCh tp n t K).2 < K := by
  unfold tCh
  by_cases e : iW tp n t (sby 5) = true
  · rw [if_pos e]; dsimp only; omega
  · rw [if_neg e]
    by_cases e2 : iW tp n t (sby 6) = true
    · rw [if_pos e2]; dsimp only; omega
    · rw [if_neg e2]
      have := tV_in (tp := tp) (n := n) (t := t) (lo := 0) (hi := K - 1) (room := 100000000) (by omega)
      dsimp only
      omega
theorem tWay_in {tp : Nat → Int} {n : Nat} {t : TS} : (tWay tp n t).2 = 0 ∨ (tWay tp n t).2 = 1 := by
  unfold tWay
  by_cases e : iW tp n t (sby 2) = true
  · rw [if_pos e]; exact Or.inr rfl
  · rw [if_neg e]; exact Or.inl rfl
/-- behind a fault -/
theorem tWay_no {tp : Nat → Int} {n : Nat} {t : TS} (h : t.2.1 ≠ 0) : (tWay tp n t).1 = t := by
  unfold tWay
  rw [iW_no h, iW_no h, if_neg (by decide)]
  dsimp only
  rw [if_neg (by decide), tF_no h]
theorem tCh_no {tp : Nat → Int} {n : Nat} {t : TS} {K : Int} (h : t.2.1 ≠ 0) : (tCh tp n t K).1 = t := by
  unfold tCh
  rw [iW_no h, iW_no h, if_neg (by decide), if_neg (by decide)]
  exact tN_no h
theorem tBr_no {tp : Nat → Int} {n a b : Nat} {s : TR} (h : s.1.2.1 ≠ 0) : ∀ k, (tBr tp n a b s k).1 = s.1 := by
  intro k
  induction k with
  | zero => rfl
  | succ k ih =>
    show (tCh tp n (tBr tp n a b s k).1 _).1 = s.1
    rw [ih]
    exact tCh_no h
/-- what the rows keep -/
def RZ (R : Nat → Int) : Prop := RV R ∧ R 6 = 0
theorem RV.of {R : Nat → Int} (h0 : 0 ≤ R 0 ∧ R 0 ≤ 3) (h1 : 0 ≤ R 1 ∧ R 1 ≤ 200) (h2 : (1 ≤ R 2 ∧ R 2 ≤ 500) ∧ (101 ≤ R 3 ∧ R 3 ≤ 300) ∧ (1 ≤ R 4 ∧ R 4 ≤ 300) ∧ (0 ≤ R 5 ∧ R 5 ≤ 999999) ∧ (0 ≤ R 6 ∧ R 6 ≤ 300)) (hr : ∀ r, r < rC R → (2 ≤ R (8 + 2 * r) ∧ R (8 + 2 * r) ≤ 4) ∧ (R (8 + 2 * r + 1) = 0 ∨ R (8 + 2 * r + 1) = 1) ∧ ∀ b, b < rN R → (-2 ≤ R (14 + 3 * b + r) ∧ R (14 + 3 * b + r) < R (8 + 2 * r)) ∧ (-2 ≤ R (614 + 3 * b + r) ∧ R (614 + 3 * b + r) < R (8 + 2 * r))) : RV R := ⟨h0, h1, h2.1, h2.2.1, h2.2.2.1, h2.2.2.2.1, h2.2.2.2.2, hr⟩
theorem row0_ok : RZ row0 ∧ row0 1 = 0 ∧ row0 0 = 0 := ⟨⟨RV.of (by decide) (by decide) (by decide) (fun r hr => absurd hr (by show ¬ r < 0; omega)), by decide⟩, by decide, by decide⟩
theorem tRc2_ok {R : Nat → Int} {v w : Int} (h : RZ R) (h1 : R 1 = 0) (h0 : R 0 < 3) (hv : 2 ≤ v ∧ v ≤ 4) (hw : w = 0 ∨ w = 1) : RZ (tRc2 R v w) ∧ tRc2 R v w 1 = 0 ∧ tRc2 R v w 0 = R 0 + 1 := by
  have hc := h.1.c
  have e0 : tRc2 R v w 0 = R 0 + 1 := rs1_at
  have eH : ∀ j, 1 ≤ j → j < 8 → tRc2 R v w j = R j := fun j a b => by
    unfold tRc2; rw [rs1_ne (by omega), rs1_ne (by omega), rs1_ne (by omega)]
  have eK : tRc2 R v w (8 + 2 * rC R) = v := by unfold tRc2; rw [rs1_ne (by omega), rs1_ne (by omega), rs1_at]
  have eW : tRc2 R v w (8 + 2 * rC R + 1) = w := by unfold tRc2; rw [rs1_ne (by omega), rs1_at]
  have eL : ∀ r, r < rC R → tRc2 R v w (8 + 2 * r) = R (8 + 2 * r) ∧ tRc2 R v w (8 + 2 * r + 1) = R (8 + 2 * r + 1) := fun r hr => by
    unfold tRc2
    rw [rs1_ne (by omega), rs1_ne (by omega), rs1_ne (by omega), rs1_ne (by omega), rs1_ne (by omega), rs1_ne (by omega)]
    exact ⟨rfl, rfl⟩
  have hN : rN (tRc2 R v w) = 0 := by unfold rN; rw [eH 1 (by omega) (by omega), h1]; rfl
  have hC : rC (tRc2 R v w) = rC R + 1 := by
    have : rC (tRc2 R v w) = (R 0 + 1).toNat := by unfold rC; rw [e0]
    rw [this]; have := hc.1; omega
  obtain ⟨⟨g0, g1, g2, g3, g4, g5, g6, g7⟩, g9⟩ := h
  refine ⟨⟨RV.of (by rw [e0]; omega) (by rw [eH 1 (by omega) (by omega)]; exact g1) (by rw [eH 2 (by omega) (by omega), eH 3 (by omega) (by omega), eH 4 (by omega) (by omega), eH 5 (by omega) (by omega), eH 6 (by omega) (by omega)]; exact ⟨g2, g3, g4, g5, g6⟩) (fun r hr => ?_), by rw [eH 6 (by omega) (by omega)]; exact g9⟩, by rw [eH 1 (by omega) (by omega)]; exact h1, e0⟩
  rw [hC] at hr
  rw [hN]
  by_cases z : r < rC R
  · rw [(eL r z).1, (eL r z).2]
    exact ⟨(g7 r z).1, (g7 r z).2.1, fun b hb => absurd hb (Nat.not_lt_zero _)⟩
  · have : r = rC R := by omega
    subst this
    rw [eK, eW]
    exact ⟨hv, hw, fun b hb => absurd hb (Nat.not_lt_zero _)⟩
theorem tRace_ok {tp : Nat → Int} {n : Nat} {s : TR} (ht : Tk n s.1) (h : RZ s.2) (h1 : s.2 1 = 0) : Tk n (tRace tp n s).1 ∧ RZ (tRace tp n s).2 ∧ (tRace tp n s).2 1 = 0 := by
  unfold tRace
  by_cases e : iW tp n s.1 (sby 1) = true
  · rw [if_pos e]
    by_cases e2 : s.2 0 < 3
    · rw [if_pos e2]
      have := tRc2_ok h h1 e2 (tV_in (tp := tp) (n := n) (t := tP tp n s.1) (lo := 2) (hi := 4) (room := 100000000) (by decide)) (tWay_in (tp := tp) (n := n) (t := tN tp n (tP tp n s.1) 2 4 100000000))
      exact ⟨ht.P.N.W.S, this.1, this.2.1⟩
    · rw [if_neg e2]; exact ⟨ht.F ⟨by decide, by decide⟩, h, h1⟩
  · rw [if_neg e]; exact ⟨ht.F ⟨by decide, by decide⟩, h, h1⟩
/-- the rows of a line of ballots -/
theorem tBr_ok {tp : Nat → Int} {n a b : Nat} {s : TR} (ht : Tk n s.1) (h : RV s.2) : ∀ k, k ≤ rC s.2 → Tk n (tBr tp n a b s k).1 ∧ (∀ j, j < 14 → (tBr tp n a b s k).2 j = s.2 j) ∧ ∀ r x, r < 3 → x < 200 → (r < k ∧ a ≤ x ∧ x < b → ((-2 ≤ (tBr tp n a b s k).2 (14 + 3 * x + r) ∧ (tBr tp n a b s k).2 (14 + 3 * x + r) < s.2 (8 + 2 * r)) ∧ (-2 ≤ (tBr tp n a b s k).2 (614 + 3 * x + r) ∧ (tBr tp n a b s k).2 (614 + 3 * x + r) < s.2 (8 + 2 * r)))) ∧ (¬ (r < k ∧ a ≤ x ∧ x < b) → (tBr tp n a b s k).2 (14 + 3 * x + r) = s.2 (14 + 3 * x + r) ∧ (tBr tp n a b s k).2 (614 + 3 * x + r) = s.2 (614 + 3 * x + r)) := by
  intro k
  induction k with
  | zero => exact fun _ => ⟨ht, fun _ _ => rfl, fun r x hr hx => ⟨fun z => absurd z.1 (Nat.not_lt_zero _), fun _ => ⟨rfl, rfl⟩⟩⟩
  | succ k ih =>
    intro hk
    obtain ⟨i1, i2, i3⟩ := ih (by omega)
    have hK := h.k (r := k) (by omega)
    have hc := h.c
    refine ⟨i1.C, fun j hj => ?_, fun r x hr hx => ?_⟩
    · show fil _ _ _ _ _ _ = _
      rw [fil_lo hj]; exact i2 j hj
    · have e1 : (tBr tp n a b s (k + 1)).2 (14 + 3 * x + r) = if r = k ∧ a ≤ x ∧ x < b then (tCh tp n (tBr tp n a b s k).1 (s.2 (8 + 2 * k))).2 else (tBr tp n a b s k).2 (14 + 3 * x + r) := fil_V hr hx
      have e2 : (tBr tp n a b s (k + 1)).2 (614 + 3 * x + r) = if r = k ∧ a ≤ x ∧ x < b then (tCh tp n (tBr tp n a b s k).1 (s.2 (8 + 2 * k))).2 else (tBr tp n a b s k).2 (614 + 3 * x + r) := fil_P hr hx
      rw [e1, e2]
      have hch := tCh_in (tp := tp) (n := n) (t := (tBr tp n a b s k).1) (K := s.2 (8 + 2 * k)) (by omega)
      by_cases z : r = k ∧ a ≤ x ∧ x < b
      · rw [if_pos z, if_pos z]
        refine ⟨fun _ => ?_, fun q => absurd ⟨by omega, z.2⟩ q⟩
        rw [z.1]
        exact ⟨hch, hch⟩
      · rw [if_neg z, if_neg z]
        exact ⟨fun q => (i3 r x hr hx).1 ⟨by omega, q.2⟩, fun q => (i3 r x hr hx).2 (fun q2 => q ⟨by omega, q2.2⟩)⟩
theorem tTo_in {tp : Nat → Int} {n : Nat} {s : TR} (h : RV s.2) : rN s.2 ≤ tTo tp n s ∧ tTo tp n s ≤ 200 ∧ ((tTo tp n s : Nat) : Int) = min (s.2 1 + tV tp n s.1 1 99 (200 - s.2 1)) 200 := by
  have hn := h.n
  have := tV_in (tp := tp) (n := n) (t := s.1) (lo := 1) (hi := 99) (room := 200 - s.2 1) (by decide)
  unfold tTo
  omega
theorem tBal_ok {tp : Nat → Int} {n : Nat} {s : TR} (ht : Tk n s.1) (h : RZ s.2) : Tk n (tBal tp n s).1 ∧ RZ (tBal tp n s).2 ∧ (tBal tp n s).2 0 = s.2 0 := by
  have hto := tTo_in (tp := tp) (n := n) h.1
  have hc := h.1.c
  have hn := h.1.n
  obtain ⟨i1, i2, i3⟩ := tBr_ok (tp := tp) (n := n) (a := rN s.2) (b := tTo tp n s) (s := (tN tp n s.1 1 99 (200 - s.2 1), s.2)) (Tk.N ht) h.1 (rC s.2) (Nat.le_refl _)
  unfold tBal
  generalize tTo tp n s = to at *
  generalize (tBr tp n (rN s.2) to (tN tp n s.1 1 99 (200 - s.2 1), s.2) (rC s.2)).2 = R at *
  dsimp only at i2 i3 ⊢
  have e : ∀ j, j ≠ 1 → rs1 R 1 (to : Int) j = R j := fun j hj => rs1_ne hj
  have eC : rC (rs1 R 1 (to : Int)) = rC s.2 := by unfold rC; rw [e 0 (by omega), i2 0 (by omega)]
  have eN : rN (rs1 R 1 (to : Int)) = to := by unfold rN; rw [rs1_at]; omega
  obtain ⟨⟨g0, g1, g2, g3, g4, g5, g6, g7⟩, g9⟩ := h
  refine ⟨i1, ⟨RV.of (by rw [e 0 (by omega), i2 0 (by omega)]; exact g0) (by rw [rs1_at]; omega) (by rw [e 2 (by omega), e 3 (by omega), e 4 (by omega), e 5 (by omega), e 6 (by omega), i2 2 (by omega), i2 3 (by omega), i2 4 (by omega), i2 5 (by omega), i2 6 (by omega)]; exact ⟨g2, g3, g4, g5, g6⟩) (fun r hr => ?_), by rw [e 6 (by omega), i2 6 (by omega)]; exact g9⟩, by rw [e 0 (by omega), i2 0 (by omega)]⟩
  rw [eC] at hr
  rw [eN, e (8 + 2 * r) (by omega), e (8 + 2 * r + 1) (by omega), i2 (8 + 2 * r) (by omega), i2 (8 + 2 * r + 1) (by omega)]
  refine ⟨(g7 r hr).1, (g7 r hr).2.1, fun x hx => ?_⟩
  rw [e (14 + 3 * x + r) (by omega), e (614 + 3 * x + r) (by omega)]
  by_cases z : rN s.2 ≤ x
  · exact (i3 r x (by omega) (by omega)).1 ⟨hr, z, hx⟩
  · have q := (i3 r x (by omega) (by omega)).2 (fun y => z y.2.1)
    rw [q.1, q.2]
    exact (g7 r hr).2.2 x (by omega)
theorem tPap_ok {tp : Nat → Int} {n : Nat} {s : TR} (ht : Tk n s.1) (h : RZ s.2) : Tk n (tPap tp n s).1 ∧ RZ (tPap tp n s).2 ∧ (tPap tp n s).2 0 = s.2 0 := by
  have hc := h.1.c
  have hn := h.1.n
  unfold tPap
  by_cases e : tPr tp n s < rC s.2
  · rw [if_pos e]
    have hK := h.1.k e
    have hch := tCh_in (tp := tp) (n := n) (t := tP2 tp n s) (K := s.2 (8 + 2 * tPr tp n s)) (by omega)
    refine ⟨ht.N.N.C, ?_⟩
    dsimp only
    by_cases e2 : (tP3 tp n s).1.2.1 = 0 ∧ tPb tp n s < rN s.2
    · rw [if_pos e2]
      have hch : -2 ≤ (tP3 tp n s).2 ∧ (tP3 tp n s).2 < s.2 (8 + 2 * tPr tp n s) := hch
      generalize (tP3 tp n s).2 = v at *
      generalize tPb tp n s = b at *
      generalize tPr tp n s = k at *
      have e : ∀ j, j ≠ 614 + 3 * b + k → rs1 s.2 (614 + 3 * b + k) v j = s.2 j := fun j hj => rs1_ne hj
      have eC : rC (rs1 s.2 (614 + 3 * b + k) v) = rC s.2 := by unfold rC; rw [e 0 (by omega)]
      have eN : rN (rs1 s.2 (614 + 3 * b + k) v) = rN s.2 := by unfold rN; rw [e 1 (by omega)]
      obtain ⟨⟨g0, g1, g2, g3, g4, g5, g6, g7⟩, g9⟩ := h
      refine ⟨⟨RV.of (by rw [e 0 (by omega)]; exact g0) (by rw [e 1 (by omega)]; exact g1) (by rw [e 2 (by omega), e 3 (by omega), e 4 (by omega), e 5 (by omega), e 6 (by omega)]; exact ⟨g2, g3, g4, g5, g6⟩) (fun r hr => ?_), by rw [e 6 (by omega)]; exact g9⟩, e 0 (by omega)⟩
      rw [eC] at hr
      rw [eN, e (8 + 2 * r) (by omega), e (8 + 2 * r + 1) (by omega)]
      refine ⟨(g7 r hr).1, (g7 r hr).2.1, fun x hx => ?_⟩
      have q := (g7 r hr).2.2 x hx
      rw [e (14 + 3 * x + r) (by omega)]
      by_cases z : 614 + 3 * x + r = 614 + 3 * b + k
      · rw [z, rs1_at]
        have : r = k := by omega
        subst this
        exact ⟨q.1, hch⟩
      · rw [e _ z]; exact q
    · rw [if_neg e2]; exact ⟨h, rfl⟩
  · rw [if_neg e]; exact ⟨ht.N.N, h, rfl⟩
theorem tRul_ok {tp : Nat → Int} {n k : Nat} {lo hi : Int} {s : TR} (ht : Tk n s.1) (h : RZ s.2) (hk : k = 2 ∧ lo = 1 ∧ hi = 500 ∨ k = 3 ∧ lo = 101 ∧ hi = 300 ∨ k = 4 ∧ lo = 1 ∧ hi = 300 ∨ k = 5 ∧ lo = 0 ∧ hi = 999999) : Tk n (tRul tp n s k lo hi).1 ∧ RZ (tRul tp n s k lo hi).2 ∧ (tRul tp n s k lo hi).2 0 = s.2 0 := by
  have hv := tV_in (tp := tp) (n := n) (t := s.1) (lo := lo) (hi := hi) (room := 100000000) (by omega)
  refine ⟨ht.N, ?_⟩
  show RZ (rs1 s.2 k (tV tp n s.1 lo hi 100000000)) ∧ rs1 s.2 k (tV tp n s.1 lo hi 100000000) 0 = s.2 0
  generalize tV tp n s.1 lo hi 100000000 = v at *
  have hc := h.1.c
  have hn := h.1.n
  have e : ∀ j, j ≠ k → rs1 s.2 k v j = s.2 j := fun j hj => rs1_ne hj
  have eC : rC (rs1 s.2 k v) = rC s.2 := by unfold rC; rw [e 0 (by omega)]
  have eN : rN (rs1 s.2 k v) = rN s.2 := by unfold rN; rw [e 1 (by omega)]
  obtain ⟨⟨g0, g1, g2, g3, g4, g5, g6, g7⟩, g9⟩ := h
  have eK : rs1 s.2 k v k = v := rs1_at
  refine ⟨⟨RV.of (by rw [e 0 (by omega)]; exact g0) (by rw [e 1 (by omega)]; exact g1) ?_ (fun r hr => ?_), by rw [e 6 (by omega)]; exact g9⟩, e 0 (by omega)⟩
  · rw [e 6 (by omega)]
    rcases hk with ⟨rfl, rfl, rfl⟩ | ⟨rfl, rfl, rfl⟩ | ⟨rfl, rfl, rfl⟩ | ⟨rfl, rfl, rfl⟩
    · rw [eK, e 3 (by omega), e 4 (by omega), e 5 (by omega)]; exact ⟨hv, g3, g4, g5, g6⟩
    · rw [eK, e 2 (by omega), e 4 (by omega), e 5 (by omega)]; exact ⟨g2, hv, g4, g5, g6⟩
    · rw [eK, e 3 (by omega), e 2 (by omega), e 5 (by omega)]; exact ⟨g2, g3, hv, g5, g6⟩
    · rw [eK, e 3 (by omega), e 4 (by omega), e 2 (by omega)]; exact ⟨g2, g3, g4, hv, g6⟩
  · rw [eC] at hr
    rw [eN, e (8 + 2 * r) (by omega), e (8 + 2 * r + 1) (by omega)]
    refine ⟨(g7 r hr).1, (g7 r hr).2.1, fun x hx => ?_⟩
    rw [e (14 + 3 * x + r) (by omega), e (614 + 3 * x + r) (by omega)]
    exact (g7 r hr).2.2 x hx
theorem tLin_ok {tp : Nat → Int} {n : Nat} {s : TR} (ht : Tk n s.1) (h : RZ s.2) : Tk n (tLin tp n s).1 ∧ RZ (tLin tp n s).2 ∧ (tLin tp n s).2 0 = s.2 0 := by
  unfold tLin
  by_cases e1 : iW tp n s.1 (sby 4) = true
  · rw [if_pos e1]; exact tBal_ok (s := (tP tp n s.1, s.2)) ht.P h
  rw [if_neg e1]
  by_cases e1 : iW tp n s.1 (sby 7) = true
  · rw [if_pos e1]; exact tPap_ok (s := (tP tp n s.1, s.2)) ht.P h
  rw [if_neg e1]
  by_cases e1 : iW tp n s.1 (sby 8) = true
  · rw [if_pos e1]; exact tRul_ok (s := (tP tp n s.1, s.2)) ht.P h (by omega)
  rw [if_neg e1]
  by_cases e1 : iW tp n s.1 (sby 9) = true
  · rw [if_pos e1]; exact tRul_ok (s := (tP tp n s.1, s.2)) ht.P h (by omega)
  rw [if_neg e1]
  by_cases e1 : iW tp n s.1 (sby 10) = true
  · rw [if_pos e1]; exact tRul_ok (s := (tP tp n s.1, s.2)) ht.P h (by omega)
  rw [if_neg e1]
  by_cases e1 : iW tp n s.1 (sby 11) = true
  · rw [if_pos e1]; exact tRul_ok (s := (tP tp n s.1, s.2)) ht.P h (by omega)
  rw [if_neg e1]
  exact ⟨ht.F ⟨by decide, by decide⟩, h, rfl⟩
theorem tLine_ok {tp : Nat → Int} {n : Nat} {s : TR} (ht : Tk n s.1) (h : RZ s.2) : Tk n (tLine tp n s).1 ∧ RZ (tLine tp n s).2 ∧ (tLine tp n s).2 0 = s.2 0 := by
  have := tLin_ok (tp := tp) ht h
  exact ⟨this.1.S, this.2⟩
