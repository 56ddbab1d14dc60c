/-! THE REFERENCE: where all lies; small things -/
def mdp : List (Nat × Nat × Nat × Nat) := [(0, 104, 100, 1514), (1, 105, 100, 1514), (2, 106, 100, 1514), (3, 107, 100, 1514), (4, 108, 100, 18168), (8, 109, 100, 12), (9, 110, 100, 12), (10, 111, 100, 3), (11, 112, 100, 3), (12, 113, 100, 3), (13, 114, 100, 600), (14, 115, 101, 12), (15, 116, 100, 3), (17, 117, 101, 903), (19, 118, 100, 200), (20, 119, 101, 4), (21, 120, 100, 100), (23, 121, 100, 600)]
def Md (m : am_M) : Prop := am_obw m 103 8 ∧ ∀ q ∈ mdp, m.2.1 103 q.1 = some q.2.1 ∧ am_arw m q.2.1 q.2.2.1 q.2.2.2
def RowV (I : Nat → Nat → Int) (R : Nat → Int) : Prop := ∀ j, j < 1514 → I 104 j = R j
section
variable {G : am_G} {dp : Nat} {Q : am_Q} {R : Nat → Int} {m : am_M}
theorem Md.row (h : Md m) : m.2.1 103 0 = some 104 ∧ am_arw m 104 100 1514 := h.2 (0, 104, 100, 1514) (by decide)
theorem Md.votes (h : Md m) : m.2.1 103 8 = some 109 ∧ am_arw m 109 100 12 := h.2 (8, 109, 100, 12) (by decide)
theorem Md.hands (h : Md m) : m.2.1 103 9 = some 110 ∧ am_arw m 110 100 12 := h.2 (9, 110, 100, 12) (by decide)
theorem Md.winner (h : Md m) : m.2.1 103 10 = some 111 ∧ am_arw m 111 100 3 := h.2 (10, 111, 100, 3) (by decide)
theorem Md.right (h : Md m) : m.2.1 103 11 = some 112 ∧ am_arw m 112 100 3 := h.2 (11, 112, 100, 3) (by decide)
theorem Md.margin (h : Md m) : m.2.1 103 12 = some 113 ∧ am_arw m 113 100 3 := h.2 (12, 113, 100, 3) (by decide)
theorem Md.mistakes (h : Md m) : m.2.1 103 13 = some 114 ∧ am_arw m 114 100 600 := h.2 (13, 114, 100, 600) (by decide)
theorem Md.risks (h : Md m) : m.2.1 103 14 = some 115 ∧ am_arw m 115 101 12 := h.2 (14, 115, 101, 12) (by decide)
theorem Md.done (h : Md m) : m.2.1 103 15 = some 116 ∧ am_arw m 116 100 3 := h.2 (15, 116, 100, 3) (by decide)
theorem Md.history (h : Md m) : m.2.1 103 17 = some 117 ∧ am_arw m 117 101 903 := h.2 (17, 117, 101, 903) (by decide)
theorem Md.often (h : Md m) : m.2.1 103 19 = some 118 ∧ am_arw m 118 100 200 := h.2 (19, 118, 100, 200) (by decide)
theorem Md.before (h : Md m) : m.2.1 103 20 = some 119 ∧ am_arw m 119 101 4 := h.2 (20, 119, 101, 4) (by decide)
theorem Md.text (h : Md m) : m.2.1 103 21 = some 120 ∧ am_arw m 120 100 100 := h.2 (21, 120, 100, 100) (by decide)
theorem Md.tape (h : Md m) : m.2.1 103 23 = some 121 ∧ am_arw m 121 100 600 := h.2 (23, 121, 100, 600) (by decide)
theorem md_races (hM : Md m) (hv : RowV m.1 R) (h : Q (.inl (some (iV (R 0)))) m) : T G dp 0 0 M9_races [rV (some 103)] m Q := by
  refine T9_races (s9_races_0 (n_p1 := 1514) (am_ow hM.1) hM.row.1 (am_rw hM.row.2) ?_)
  rw [show (0 : Int).toNat = 0 from rfl, hv 0 (by omega)]; exact h
theorem md_ballots (hM : Md m) (hv : RowV m.1 R) (h : Q (.inl (some (iV (R 1)))) m) : T G dp 0 0 M9_ballots [rV (some 103)] m Q := by
  refine T9_ballots (s9_ballots_0 (n_p1 := 1514) (am_ow hM.1) hM.row.1 (am_rw hM.row.2) ?_)
  rw [show (1 : Int).toNat = 1 from rfl, hv 1 (by omega)]; exact h
theorem md_candidates {r : Nat} (hM : Md m) (hv : RowV m.1 R) (hr : r < 3) (h : Q (.inl (some (iV (R (8 + 2 * r))))) m) : T G dp 0 0 M9_candidates [rV (some 103), iV r] m Q := by
  have e : wr (8 + wr (2 * (r : Int))) = ((8 + 2 * r : Nat) : Int) := by rw [wr_of (z := 2 * (r : Int)) (by omega) (by omega), wr_of (by omega) (by omega)]; omega
  refine T9_candidates (s9_candidates_0 (n_p1 := 1514) (am_ow hM.1) hM.row.1 (am_rw hM.row.2) ?_ (h4 := by rw [e]; omega) (h5 := by rw [e]; omega))
  rw [e, tnc, hv _ (by omega)]; exact h
theorem md_wayOf {r : Nat} (hM : Md m) (hv : RowV m.1 R) (hr : r < 3) (h : Q (.inl (some (iV (rY R r)))) m) : T G dp 0 0 M9_wayOf [rV (some 103), iV r] m Q := by
  have e : wr (wr (8 + wr (2 * (r : Int))) + 1) = ((8 + 2 * r + 1 : Nat) : Int) := by rw [wr_of (z := 2 * (r : Int)) (by omega) (by omega), wr_of (z := 8 + 2 * (r : Int)) (by omega) (by omega), wr_of (by omega) (by omega)]; omega
  refine T9_wayOf (s9_wayOf_0 (n_p1 := 1514) (am_ow hM.1) hM.row.1 (am_rw hM.row.2) ?_ (h4 := by rw [e]; omega) (h5 := by rw [e]; omega))
  rw [e, tnc, hv _ (by omega)]; exact h
theorem md_isIn {i a b : Int} (h : Q (.inl (some (iV (if a ≤ i ∧ i ≤ b then 1 else 0)))) m) : T G dp 0 0 M9_isIn [iV i, iV a, iV b] m Q := by
  refine T9_isIn (s9_isIn_0 (fun c => ?_) (fun c1 c2 => ?_) (fun c1 c2 => ?_))
  · rw [if_neg (by omega)] at h; exact h
  · rw [if_neg (by omega)] at h; exact h
  · rw [if_pos (by omega)] at h; exact h
theorem md_isRace {i : Int} (hd : 1 ≤ dp) (hM : Md m) (hv : RowV m.1 R) (hR : RV R) (h0 : isR R i → Q (.inl (some (iV 1))) m) (h1 : ¬ isR R i → Q (.inl (some (iV 0))) m) : T G dp 0 0 M9_isRace [rV (some 103), iV i] m Q := by
  have hc := hR.1
  refine T9_isRace (s9_isRace_0 hd (am_ow hM.1) fun Q' hK => md_races hM hv (hK _ _ (s9_isRace_6 hd fun Q' hK => md_isIn (hK _ _ ?_))))
  rw [wr_of (by omega) (by omega)]
  by_cases q : 0 ≤ i ∧ i ≤ R 0 - 1
  · rw [if_pos q]; exact s9_isRace_11 (h0 ⟨q.1, by omega⟩)
  · rw [if_neg q]; exact s9_isRace_11 (h1 (fun z => q ⟨z.1, by have := z.2; omega⟩))
theorem md_isBallot {i : Int} (hd : 1 ≤ dp) (hM : Md m) (hv : RowV m.1 R) (hR : RV R) (h0 : isB R i → Q (.inl (some (iV 1))) m) (h1 : ¬ isB R i → Q (.inl (some (iV 0))) m) : T G dp 0 0 M9_isBallot [rV (some 103), iV i] m Q := by
  have hc := hR.2.1
  refine T9_isBallot (s9_isBallot_0 hd (am_ow hM.1) fun Q' hK => md_ballots hM hv (hK _ _ (s9_isBallot_6 hd fun Q' hK => md_isIn (hK _ _ ?_))))
  rw [wr_of (by omega) (by omega)]
  by_cases q : 0 ≤ i ∧ i ≤ R 1 - 1
  · rw [if_pos q]; exact s9_isBallot_11 (h0 ⟨q.1, by omega⟩)
  · rw [if_neg q]; exact s9_isBallot_11 (h1 (fun z => q ⟨z.1, by have := z.2; omega⟩))
theorem md_isCandidate {r : Nat} {i : Int} (hd : 1 ≤ dp) (hM : Md m) (hv : RowV m.1 R) (hR : RV R) (hr : r < rC R) (h0 : isC R r i → Q (.inl (some (iV 1))) m) (h1 : ¬ isC R r i → Q (.inl (some (iV 0))) m) : T G dp 0 0 M9_isCandidate [rV (some 103), iV r, iV i] m Q := by
  have hc := hR.c
  have hk := hR.k hr
  refine T9_isCandidate (s9_isCandidate_0 hd (am_ow hM.1) fun Q' hK => md_candidates hM hv (by omega) (hK _ _ (s9_isCandidate_7 hd fun Q' hK => md_isIn (hK _ _ ?_))))
  rw [wr_of (by omega) (by omega)]
  by_cases q : 0 ≤ i ∧ i ≤ R (8 + 2 * r) - 1
  · rw [if_pos q]; exact s9_isCandidate_12 (h0 ⟨q.1, by omega⟩)
  · rw [if_neg q]; exact s9_isCandidate_12 (h1 (fun z => q ⟨z.1, by have := z.2; omega⟩))
theorem md_at {f b r : Nat} (hf : f ≤ 2000) (hb : b < 200) (hr : r < 3) (h : Q (.inl (some (iV ((f + 3 * b + r : Nat) : Int)))) m) : T G dp 0 0 M9_at [iV f, iV b, iV r] m Q := by
  refine T9_at (s9_at_0 ?_)
  rw [wr_of (z := 3 * (b : Int)) (by omega) (by omega), wr_of (z := (f : Int) + 3 * b) (by omega) (by omega), wr_of (by omega) (by omega), show (f : Int) + 3 * b + r = ((f + 3 * b + r : Nat) : Int) by omega]
  exact h
theorem md_recorded {b r : Nat} (hd : 1 ≤ dp) (hM : Md m) (hv : RowV m.1 R) (hb : b < 200) (hr : r < 3) (h : Q (.inl (some (iV (rV_ R r b)))) m) : T G dp 0 0 M9_recorded [rV (some 103), iV b, iV r] m Q := by
  refine T9_recorded (s9_recorded_0 hd (am_ow hM.1) hM.row.1 fun Q' hK => md_at (f := 14) (by omega) hb hr (hK _ _ (s9_recorded_11 (n_r91 := 1514) (am_rw hM.row.2) ?_)))
  rw [tnc, hv _ (by omega)]; exact h
theorem md_shown {b r : Nat} (hd : 1 ≤ dp) (hM : Md m) (hv : RowV m.1 R) (hb : b < 200) (hr : r < 3) (h : Q (.inl (some (iV (rP_ R r b)))) m) : T G dp 0 0 M9_shown [rV (some 103), iV b, iV r] m Q := by
  refine T9_shown (s9_shown_0 hd (am_ow hM.1) hM.row.1 fun Q' hK => md_at (f := 614) (by omega) hb hr (hK _ _ (s9_shown_12 (n_r91 := 1514) (am_rw hM.row.2) ?_)))
  rw [tnc, hv _ (by omega)]; exact h
theorem md_signOf {x w y : Int} (h : Q (.inl (some (iV (sg w x y)))) m) : T G dp 0 0 M9_signOf [iV x, iV w, iV y] m Q := by
  unfold sg at h
  refine T9_signOf (s9_signOf_0 (fun c1 c2 => ?_) (fun c1 c2 => ?_) (fun c1 => ?_))
  · rw [if_neg c1, if_neg c2] at h; exact h
  · rw [if_neg c1, if_pos c2] at h; exact h
  · rw [if_pos c1] at h; exact h
theorem md_fail {k : Int} (hM : Md m) (h : Q (.inl (some (iV 0))) (u2 m.1 103 7 k, m.2)) : T G dp 0 0 M9_fail [rV (some 103), iV k] m Q := T9_fail (s9_fail_0 hM.1 h)
theorem md_thrown (hM : Md m) (h : Q (.inl (some (iV (m.1 103 7)))) m) : T G dp 0 0 M9_thrown [rV (some 103)] m Q := T9_thrown (s9_thrown_0 (am_ow hM.1) h)
end
