/-! THE REFERENCE: what is said -/
def SaV (I : Nat → Nat → Int) (l : List Int) : Prop := I 103 22 = l.length ∧ ∀ (j : Nat) (v : Int), l[j]? = some v → I 120 j = v
/-- what writing changes -/
def WF (I I' : Nat → Nat → Int) : Prop := (∀ x, x ≠ 103 → x ≠ 120 → I' x = I x) ∧ ∀ j, j ≠ 22 → I' 103 j = I 103 j
theorem WF.rf {I : Nat → Nat → Int} : WF I I := ⟨fun _ _ _ => rfl, fun _ _ => rfl⟩
theorem WF.tr {I I1 I2 : Nat → Nat → Int} (h : WF I I1) (h2 : WF I1 I2) : WF I I2 := ⟨fun x a b => by rw [h2.1 x a b]; exact h.1 x a b, fun j a => by rw [h2.2 j a]; exact h.2 j a⟩
theorem WF.row {I I' : Nat → Nat → Int} {R : Nat → Int} (h : WF I I') (hv : RowV I R) : RowV I' R := fun j hj => by rw [h.1 104 (by omega) (by omega)]; exact hv j hj
theorem WF.ma {I I' : Nat → Nat → Int} {R d : Nat → Int} {k : Nat} (h : WF I I') (hA : MaV I R d k) (hR : RV R) : MaV I' R d k := hA.same hR (h.2 16 (by omega)) (fun x p q => h.1 x (by omega) (by omega))
section
variable {G : am_G} {dp : Nat} {Q : am_Q} {R : Nat → Int} {Z : (Nat → Nat → Option Nat) × (Nat → Nat × Nat) × Nat × Bool}
theorem md_writes {I : Nat → Nat → Int} {c : Int} {l : List Int} (hM : Md (I, Z)) (hv : SaV I l) (hl : l.length < 100) (h : ∀ I' : Nat → Nat → Int, WF I I' → SaV I' (l ++ [c]) → Q (.inl none) (I', Z)) : T G dp 0 0 M9_writes [rV (some 103), iV c] (I, Z) Q := by
  have e1 : (I, Z).1 103 22 = l.length := hv.1
  refine T9_writes (s9_writes_0 (n_p1 := 100) hM.text.1 hM.text.2 hM.1 ?_)
  rw [e1, tnc]
  dsimp only
  rw [u2r (show (103 : Nat) ≠ 120 by omega), hv.1, wrs (by omega)]
  refine h _ ⟨fun x p q => by rw [u2r p, u2r q], fun j hj => by rw [u2n hj, u2r (by omega)]⟩ ⟨by rw [u2_at, List.length_append]; rfl, fun j v hj => ?_⟩
  rw [u2r (by omega)]
  by_cases e : j < l.length
  · rw [List.getElem?_append_left e] at hj
    rw [u2n (by omega)]
    exact hv.2 j v hj
  · have hlt : j < (l ++ [c]).length := (List.getElem?_eq_some_iff.mp hj).1
    rw [List.length_append] at hlt
    have e2 : j = l.length := by have : [c].length = 1 := rfl; omega
    subst e2
    rw [List.getElem?_append_right (Nat.le_refl _), Nat.sub_self] at hj
    cases hj
    exact u2_at
theorem md_number : ∀ (t dp : Nat) {Q : am_Q} {v : Nat} {l : List Int} {I : Nat → Nat → Int}, t + 2 ≤ dp → v < 10 ^ (t + 1) → v ≤ 10000000 → Md (I, Z) → SaV I l → l.length + nd t v < 99 → (∀ I' : Nat → Nat → Int, WF I I' → SaV I' (l ++ dl v (nd t v)) → Q (.inl none) (I', Z)) → T G dp 0 0 M9_writesNumber [rV (some 103), lV v] (I, Z) Q := by
  intro t
  induction t with
  | zero =>
    intro dp Q v l I hd hv hv7 hM hS hl h
    rw [Nat.zero_add, Nat.pow_one] at hv
    refine T9_writesNumber (s9_writesNumber_0 (by omega) (am_ow hM.1) (fun _ => ?_) (fun c => absurd ((lc_le _ _).mpr (by omega)) c))
    refine s9_writesNumber_17 (by omega) (am_ow hM.1) fun Q' hK => ?_
    rw [Int.tmod_eq_emod_of_nonneg (by omega), wrl_of (by omega) (by omega), wr_of (by omega) (by omega)]
    refine md_writes (c := 48 + (v : Int) % 10) hM hS (by unfold nd at hl; omega) (fun I1 g1 g2 => hK _ (s9_writesNumber_31 (h I1 g1 ?_)))
    exact g2
  | succ t ih =>
    intro dp Q v l I hd hv hv7 hM hS hl h
    by_cases q : v ≤ 9
    · have e : nd (t + 1) v = 0 := by unfold nd; rw [if_pos q]
      rw [e] at h hl
      refine T9_writesNumber (s9_writesNumber_0 (by omega) (am_ow hM.1) (fun _ => ?_) (fun c => absurd ((lc_le _ _).mpr (by omega)) c))
      refine s9_writesNumber_17 (by omega) (am_ow hM.1) fun Q' hK => ?_
      rw [Int.tmod_eq_emod_of_nonneg (by omega), wrl_of (by omega) (by omega), wr_of (by omega) (by omega)]
      refine md_writes (c := 48 + (v : Int) % 10) hM hS (by omega) (fun I1 g1 g2 => hK _ (s9_writesNumber_31 (h I1 g1 ?_)))
      exact g2
    · have e : nd (t + 1) v = nd t (v / 10) + 1 := by show (if v ≤ 9 then 0 else nd t (v / 10) + 1) = _; rw [if_neg q]
      rw [e] at h hl
      have hlen := dl_len (v / 10) (nd t (v / 10))
      refine T9_writesNumber (s9_writesNumber_0 (by omega) (am_ow hM.1) (fun c => absurd ((lc_le _ _).mp c) (by omega)) (fun _ Q' hK => ?_))
      rw [Int.tdiv_eq_ediv_of_nonneg (by omega), wrl_of (by omega) (by omega), show (v : Int) / 10 = ((v / 10 : Nat) : Int) by omega]
      refine ih (dp - 1) (by omega) (by rw [Nat.pow_succ] at hv; omega) (by omega) hM hS (by omega) (fun I1 g1 g2 => hK _ ?_)
      refine s9_writesNumber_17 (by omega) (am_ow hM.1) fun Q' hK => ?_
      rw [Int.tmod_eq_emod_of_nonneg (by omega), wrl_of (by omega) (by omega), wr_of (by omega) (by omega)]
      refine md_writes (c := 48 + (v : Int) % 10) hM g2 (by rw [List.length_append, hlen]; omega) (fun I2 k1 k2 => hK _ (s9_writesNumber_31 (h I2 (g1.tr k1) ?_)))
      rw [List.append_assoc] at k2
      exact k2
theorem md_nt {v : Nat} {l : List Int} {I : Nat → Nat → Int} (hd : 18 ≤ dp) (hv7 : v ≤ 10000000) (hM : Md (I, Z)) (hS : SaV I l) (hl : l.length < 90) (h : ∀ I' : Nat → Nat → Int, WF I I' → SaV I' (l ++ nt v) → Q (.inl none) (I', Z)) : T G dp 0 0 M9_writesNumber [rV (some 103), lV v] (I, Z) Q := by
  have h7 := nd7 hv7
  exact md_number 16 dp (by omega) (by have e : (10 : Nat) ^ (16 + 1) = 100000000000000000 := by decide
                                       omega) hv7 hM hS (by omega) h
theorem md_saysRace {r : Nat} {l : List Int} {I : Nat → Nat → Int} (hd : 19 ≤ dp) (hM : Md (I, Z)) (hv : RowV I R) (hR : RV R) (hA : MaV I R (dw R (R 5)) (kN R)) (hr : r < rC R) (hS : SaV I l) (hl : l.length < 80) (h : ∀ I' : Nat → Nat → Int, WF I I' → SaV I' (l ++ sr R r) → Q (.inl none) (I', Z)) : T G dp 0 0 M9_saysRace [rV (some 103), iV r] (I, Z) Q := by
  have hc := hR.c
  have hK4 := hR.k hr
  have hW := hR.w hr
  have hrg := (rq_rng R r).2
  have h7 := rk7 R r
  have h8 := dn7 R r
  unfold sr at h
  have tail : ∀ (I2 : Nat → Nat → Int), WF I I2 → SaV I2 (l ++ [if rY R r = 0 then (99 : Int) else 112, 97 + (rW R r : Int)]) → X G dp 0 0 M9_saysRace 32 [some (rV (some 103)), some (iV r)] [] (I2, Z) Q := fun I2 w2 s2 => by
    have hA2 := w2.ma hA hR
    have hv2 := w2.row hv
    have ed : (I2, Z).1 116 ((r : Int)).toNat = (rq R r).2.2 := (hA2.2.2.1 r hr).2
    have l2 : (l ++ [if rY R r = 0 then (99 : Int) else 112, 97 + (rW R r : Int)]).length < 83 := by
      rw [List.length_append]
      have : ([if rY R r = 0 then (99 : Int) else 112, 97 + (rW R r : Int)] : List Int).length = 2 := rfl
      omega
    have l3 : ∀ c : Int, (l ++ [if rY R r = 0 then (99 : Int) else 112, 97 + (rW R r : Int)] ++ [c]).length < 90 := fun c => by
      rw [List.length_append]
      have : [c].length = 1 := rfl
      omega
    refine s9_saysRace_32 (n_p1 := 3) (by omega) (am_ow hM.1) hM.done.1 (am_rw hM.done.2) (fun q Q' hK => md_writes hM s2 (by omega) (fun I3 g1 g2 => hK _ ?_)) (fun q Q' hK => md_writes hM s2 (by omega) (fun I3 g1 g2 => hK _ ?_))
    all_goals rw [ed] at q
    · rw [if_neg q] at h
      have ed3 : (I3, Z).1 116 ((r : Int)).toNat = ((rq R r).2.2.toNat : Int) := by
        have : (I3, Z).1 116 ((r : Int)).toNat = (rq R r).2.2 := ((g1.ma hA2 hR).2.2.1 r hr).2
        rw [this]; omega
      refine s9_saysRace_68 (n_p1 := 3) (by omega) (am_ow hM.1) hM.done.1 (am_rw hM.done.2) fun Q' hK => ?_
      rw [ed3]
      refine md_nt (by omega) h8.1 hM g2 (l3 _) (fun I4 k1 k2 => hK _ (s9_saysRace_79 (h I4 ((w2.tr g1).tr k1) ?_)))
      rw [List.append_assoc, List.append_assoc] at k2
      exact k2
    · rw [if_pos q] at h
      have hA3 := g1.ma hA2 hR
      have hv3 := g1.row hv2
      refine s9_saysRace_48 (by omega) (am_ow hM.1) fun Q' hK => md_riskNow (by omega) hM hv3 hR hA3.2.1 hr (hA3.2.2.1 r hr).1 (hK _ _ ?_)
      refine s9_saysRace_54 (by omega) (am_ow hM.1) fun Q' hK => ?_
      have er : (rs R (dw R (R 5)) r (kN R)).2.1 = (rq R r).2.1 := rfl
      rw [er, Int.tdiv_eq_ediv_of_nonneg (by omega), wrl_of (by omega) (by omega), show (rq R r).2.1 / 1000000 = ((((rq R r).2.1 / 1000000).toNat : Nat) : Int) by omega]
      refine md_nt (by omega) h7 hM g2 (l3 _) (fun I4 k1 k2 => hK _ (s9_saysRace_61 (h I4 ((w2.tr g1).tr k1) ?_)))
      rw [List.append_assoc, List.append_assoc] at k2
      exact k2
  have mid : ∀ (I1 : Nat → Nat → Int), WF I I1 → SaV I1 (l ++ [if rY R r = 0 then (99 : Int) else 112]) → X G dp 0 0 M9_saysRace 19 [some (rV (some 103)), some (iV r)] [] (I1, Z) Q := fun I1 w1 s1 => by
    have ew : (I1, Z).1 111 ((r : Int)).toNat = rW R r := (w1.ma hA hR).2.1.w hr
    refine s9_saysRace_19 (n_p1 := 3) (by omega) (am_ow hM.1) hM.winner.1 (am_rw hM.winner.2) fun Q' hK => ?_
    rw [ew, wr_of (z := 97 + (rW R r : Int)) (by omega) (by omega)]
    refine md_writes hM s1 (by rw [List.length_append]; have : [if rY R r = 0 then (99 : Int) else 112].length = 1 := rfl; omega) (fun I2 g1 g2 => hK _ (tail I2 (w1.tr g1) ?_))
    rw [List.append_assoc] at g2
    exact g2
  refine T9_saysRace (s9_saysRace_0 (by omega) (am_ow hM.1) fun Q' hK => md_wayOf (m := (I, Z)) hM hv (by omega) (hK _ _ ?_))
  refine s9_saysRace_6 (by omega) (am_ow hM.1) (fun q Q' hK => md_writes hM hS (by omega) (fun I1 g1 g2 => hK _ (mid I1 g1 ?_))) (fun q Q' hK => md_writes hM hS (by omega) (fun I1 g1 g2 => hK _ (mid I1 g1 ?_)))
  · rw [if_neg q]; exact g2
  · rw [if_pos q]; exact g2
theorem lp_rsay {I0 : Nat → Nat → Int} {a b : Nat} (hd : 20 ≤ dp) (hM : Md (I0, Z)) (hv : RowV I0 R) (hR : RV R) (hA : MaV I0 R (dw R (R 5)) (kN R)) (h : ∀ I' : Nat → Nat → Int, WF I0 I' → SaV I' (tsay R) → Q (.inl (some (iV (tsay R).length))) (I', Z)) : ∀ (t k : Nat) (I : Nat → Nat → Int), rC R - k = t → k ≤ rC R → WF I0 I → SaV I (ts R k) → X G dp a b M9_say 16 [some (rV (some 103)), some (iV k)] [] (I, Z) Q := by
  have hc := hR.c
  intro t
  induction t with
  | zero =>
    intro k I ht hk hf hS
    have e : k = rC R := by omega
    subst e
    have hl := ts_len R (rC R)
    have hvI := hf.row hv
    have hAI := hf.ma hA hR
    unfold tsay at h
    have fin : ∀ I' : Nat → Nat → Int, WF I0 I' → SaV I' (ts R (rC R) ++ (if bh R then [59] else if pq R ≠ 0 then [63] else [])) → X G dp a b M9_say 74 [some (rV (some 103)), some (iV (rC R))] [] (I', Z) Q := fun I' w s => by
      refine s9_say_74 (am_ow hM.1) ?_
      have e : (I', Z).1 103 22 = (ts R (rC R) ++ (if bh R then [59] else if pq R ≠ 0 then [63] else [])).length := s.1
      rw [e]
      exact h I' w s
    refine s9_say_16 (by omega) (am_ow hM.1) fun Q' hK => md_races (m := (I, Z)) hM hvI (hK _ _ ?_)
    refine s9_say_21 (by omega) (am_ow hM.1) (fun _ Q' hK => md_isByHand (by omega) hM hvI hR hAI (hK _ _ ?_)) (fun c => absurd (by omega) c) (fun c => absurd (by omega) c)
    by_cases q : bh R = true
    · rw [if_pos q] at fin ⊢
      exact s9_say_49 (by omega) (am_ow hM.1) (fun c => absurd c (by decide)) (fun _ Q' hK => md_writes hM hS (by omega) (fun I1 g1 g2 => hK _ (s9_say_58 (fin I1 (hf.tr g1) g2))))
    · rw [if_neg q] at fin ⊢
      refine s9_say_49 (by omega) (am_ow hM.1) (fun _ Q' hK => md_isOver (d := dw R (R 5)) (k := kN R) (by omega) hM hvI hR (fun r hr => (hAI.2.2.1 r hr).2) (fun z => hK _ _ ?_) (fun z => hK _ _ ?_)) (fun c => absurd rfl c)
      · have z : pq R = 0 := z
        rw [if_neg (fun y => y z)] at fin
        rw [List.append_nil] at fin
        exact s9_say_65 (by omega) (am_ow hM.1) (fun _ => fin I hf hS) (fun c => absurd c (by decide))
      · have z : pq R ≠ 0 := z
        rw [if_pos z] at fin
        exact s9_say_65 (by omega) (am_ow hM.1) (fun c => absurd rfl c) (fun _ Q' hK => md_writes hM hS (by omega) (fun I1 g1 g2 => hK _ (fin I1 (hf.tr g1) g2)))
  | succ t ih =>
    intro k I ht hk hf hS
    have hl := ts_len R k
    have hvI := hf.row hv
    have hAI := hf.ma hA hR
    have hkr : k < rC R := by omega
    have ih := fun I => ih (k + 1) I (by omega) (by omega)
    have e1 : ts R (k + 1) = ts R k ++ (if 0 < k then [44] else []) ++ sr R k := rfl
    rw [e1] at ih
    refine s9_say_16 (by omega) (am_ow hM.1) fun Q' hK => md_races (m := (I, Z)) hM hvI (hK _ _ ?_)
    refine s9_say_21 (by omega) (am_ow hM.1) (fun c => absurd c (by omega)) (fun _ c => ?_) (fun _ c Q' hK => md_writes hM hS (by omega) (fun I1 g1 g2 => hK _ ?_))
    · rw [if_neg (by omega), List.append_nil] at ih
      refine s9_say_34 (by omega) (am_ow hM.1) fun Q' hK => md_saysRace (by omega) hM hvI hR hAI hkr hS (by omega) (fun I1 g1 g2 => hK _ (s9_say_39 ?_))
      rw [wrs (by omega)]
      exact ih I1 (hf.tr g1) g2
    · rw [if_pos (by omega)] at ih
      refine s9_say_34 (by omega) (am_ow hM.1) fun Q' hK => md_saysRace (by omega) hM (g1.row hvI) hR (g1.ma hAI hR) hkr g2 (by rw [List.length_append]; have : [(44 : Int)].length = 1 := rfl; omega) (fun I2 k1 k2 => hK _ (s9_say_39 ?_))
      rw [wrs (by omega)]
      exact ih I2 ((hf.tr g1).tr k1) k2
theorem r_say {I : Nat → Nat → Int} (hd : 20 ≤ dp) (hM : Md (I, Z)) (hv : RowV I R) (hR : RV R) (hD : DR R) (h : ∀ I' : Nat → Nat → Int, (∀ x, x ≠ 103 → x < 109 ∨ 121 ≤ x → I' x = I x) → (∀ j, j ≠ 7 → j ≠ 16 → j ≠ 18 → j ≠ 22 → I' 103 j = I 103 j) → I' 103 7 = 0 → SaV I' (tsay R) → Q (.inl (some (iV (tsay R).length))) (I', Z)) : T G dp 4 24 M9_say [rV (some 103)] (I, Z) Q := by
  refine T9_say (s9_say_0 (by omega) hM.1 fun Q' hK => md_goes0 (by omega) hM hv hR hD (fun I1 g1 g2 g3 g4 => hK _ (s9_say_9 hM.1 ?_)))
  dsimp only
  refine lp_rsay (I0 := u2 I1 103 22 0) (by omega) hM (fun j hj => by rw [u2r (by omega)]; exact g3 j hj) hR (g4.same hR (u2n (by omega)) (fun x p q => u2r (by omega))) (fun I' w s => h I' (fun x p q => ?_) (fun j a b c d => ?_) ?_ s) (rC R) 0 _ rfl (by omega) WF.rf ⟨u2_at, fun j v hj => ?_⟩
  · rw [w.1 x p (by omega), u2r p]; exact g1.1 x p (by omega)
  · rw [w.2 j d, u2n d]; exact g1.2 j a b c
  · rw [w.2 7 (by omega), u2n (by omega)]; exact g2
  · unfold ts at hj
    exact absurd hj (by rw [List.getElem?_nil]; exact fun z => by cases z)
theorem r_said {I : Nat → Nat → Int} {i : Int} {l : List Int} (hd : 1 ≤ dp) (hM : Md (I, Z)) (hv : SaV I l) (hl : l.length ≤ 64) (h : ∀ I' : Nat → Nat → Int, MF I I' → I' 103 7 = 0 → Q (.inl (some (iV (sdv l i)))) (I', Z)) : T G dp 4 24 M9_said [rV (some 103), iV i] (I, Z) Q := by
  have e1 : u2 I 103 7 0 103 22 = l.length := by rw [u2n (by omega)]; exact hv.1
  have h := h _ MF.code u2_at
  unfold sdv at h
  refine T9_said (s9_said_0 hd hM.1 fun Q' hK => ?_)
  dsimp only
  rw [e1, wr_of (by omega) (by omega)]
  refine md_isIn (hK _ _ ?_)
  by_cases q : 0 ≤ i ∧ i ≤ (l.length : Int) - 1
  · rw [if_pos q]
    refine s9_said_16 (n_p1 := 100) (am_ow hM.1) hM.text.1 (am_rw hM.text.2) (fun c => absurd c (by decide)) (fun _ => ?_)
    rw [if_pos q.1, List.getElem?_eq_getElem (show i.toNat < l.length by omega)] at h
    dsimp only
    rw [u2r (show (120 : Nat) ≠ 103 by omega), hv.2 i.toNat _ (List.getElem?_eq_getElem (show i.toNat < l.length by omega))]
    exact h
  · rw [if_neg q]
    refine s9_said_16 (n_p1 := 100) (am_ow hM.1) hM.text.1 (am_rw hM.text.2) (fun _ => ?_) (fun c => absurd rfl c)
    by_cases q0 : 0 ≤ i
    · rw [if_pos q0, List.getElem?_eq_none (by omega)] at h
      exact h
    · rw [if_neg q0] at h; exact h
end
