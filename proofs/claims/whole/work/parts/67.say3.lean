/-! SAYING -/
section
variable {G : am_G} {dp : Nat} {Q : am_Q} {w s : Nat} {R : Nat → Int} {Z : (Nat → Nat → Option Nat) × (Nat → Nat × Nat) × Nat × Bool}
theorem ct_isByHandF {I0 I : Nat → Nat → Int} (hd : 1 ≤ dp) (hC : Cl (I0, Z) w s) (hI : CI I0 w R) (hf : ∀ x, x ≠ 3 → x ≠ 4 → I x = I0 x) (h : Q (.inl (some (iV (if bh R then 1 else 0)))) (I, Z)) : T G dp 0 0 M1_isByHand [rV (some 47), rV (some w)] (I, Z) Q := by
  have hw := hC.ws
  exact ct_isByHand (I := I) hd (show Cl (I, Z) w s from hC) (hI.same (fun x h1 h2 => hf x (by omega) (by omega)) (fun x h1 h2 => hf x (by omega) (by omega))) h
theorem sy_end {I0 I : Nat → Nat → Int} {l : List Int} {z : Int} {a b : Nat} (hd : 1 ≤ dp) (hC : Cl (I0, Z) w s) (hv : SpV I 3 l) (h : Q (.inl (some (iV l.length))) (I, Z)) : X G dp a b M8_say 94 [some (rV (some 1)), some (iV z)] [] (I, Z) Q := by
  refine s8_say_94 (am_ow hC.o) hC.p.2.1 (am_ow hC.sp.1) ?_
  dsimp only
  rw [hv.1]
  exact h
theorem lp_say {I0 : Nat → Nat → Int} {a b : Nat} (hd : 4 ≤ dp) (hC : Cl (I0, Z) w s) (hI : CI I0 w R) (h : ∀ I' : Nat → Nat → Int, (∀ x, x ≠ 3 → x ≠ 4 → I' x = I0 x) → SpV I' 3 (tsay R) → Q (.inl (some (iV (tsay R).length))) (I', Z)) : ∀ (t k : Nat) (I : Nat → Nat → Int), rC R - k = t → k ≤ rC R → (∀ x, x ≠ 3 → x ≠ 4 → I x = I0 x) → SpV I 3 (ts R k) → X G dp a b M8_say 9 [some (rV (some 1)), some (iV k)] [] (I, Z) Q := by
  have hw := hC.ws
  have hc := hI.1.c
  have hSp := hC.sp
  have fr : ∀ (J J' : Nat → Nat → Int), (∀ x, x ≠ 3 → x ≠ 4 → J x = I0 x) → (∀ x, x ≠ 3 → x ≠ 3 + 1 → J' x = J x) → ∀ x, x ≠ 3 → x ≠ 4 → J' x = I0 x := fun J J' a b x h3 h4 => by rw [b x h3 h4]; exact a x h3 h4
  intro t
  induction t with
  | zero =>
    intro k I ht hk hf hv
    have e : k = rC R := by omega
    subst e
    have e2 : I w 2 = R 0 := by rw [hf w (by omega) (by omega)]; exact hI.2.1.1
    have hl := ts_len R (rC R)
    have e7 : I 47 7 = pq R := by rw [hf 47 (by omega) (by omega)]; exact hI.2.2.2.2.1
    unfold tsay at h
    refine s8_say_9 (by omega) (am_ow hC.o) hC.p4 (am_ow hC.now.1) hC.p6 (am_ow hC.audit.1) hC.p6 (am_ow hC.audit.1) hC.p.2.1 (am_ow hSp.1) (fun c1 Q' hK => ct_isByHandF (by omega) hC hI hf (hK _ _ ?_)) (fun c1 => absurd (by dsimp only; rw [e2]; omega) c1) (fun c1 => absurd (by dsimp only; rw [e2]; omega) c1) (fun c1 => absurd (by dsimp only; rw [e2]; omega) c1)
    refine s8_say_60 (by omega) (am_ow hC.o) hC.p6 (am_ow hC.audit.1) hC.p.2.1 (am_ow hSp.1) (fun c2 Q' hK => ct_isOverV (m := (I, Z)) hC.audit e7 (hK _ _ ?_)) (fun c2 Q' hK => ?_)
    · have q : ¬ bh R = true := fun q => by rw [if_pos q] at c2; omega
      rw [if_neg q] at h
      refine s8_say_82 (by omega) (am_ow hC.o) hC.p.2.1 (am_ow hSp.1) (fun c3 => ?_) (fun c3 Q' hK => ?_)
      · have q2 : ¬ pq R ≠ 0 := fun q2 => c3 (if_neg (by omega))
        rw [if_neg q2, List.append_nil] at h
        exact sy_end (by omega) hC hv (h I hf hv)
      · have q2 : pq R ≠ 0 := fun q2 => by rw [if_pos (by omega)] at c3; omega
        rw [if_pos q2] at h
        exact ct_put hSp hv (by omega) (fun I1 g1 g2 => hK _ (sy_end (by omega) hC g2 (h I1 (fr I I1 hf g1) g2)))
    · have q : bh R = true := by by_cases q : bh R = true; exact q; rw [if_neg q] at c2; omega
      rw [if_pos q] at h
      exact ct_put hSp hv (by omega) (fun I1 g1 g2 => hK _ (s8_say_72 (sy_end (by omega) hC g2 (h I1 (fr I I1 hf g1) g2))))
  | succ t ih =>
    intro k I ht hk hf hv
    have e2 : I w 2 = R 0 := by rw [hf w (by omega) (by omega)]; exact hI.2.1.1
    have hl := ts_len R k
    have ih := fun I' a b => ih (k + 1) I' (by omega) (by omega) a b
    unfold ts at ih
    have rest : ∀ (J : Nat → Nat → Int) (l : List Int), (∀ x, x ≠ 3 → x ≠ 4 → J x = I0 x) → SpV J 3 l → l = ts R k ++ (if 0 < k then [44] else []) → X G dp a b M8_say 38 [some (rV (some 1)), some (iV k)] [] (J, Z) Q := fun J l hfJ hvJ el => by
      have ll : l.length ≤ 12 * k + 1 := by
        rw [el, List.length_append]
        split
        · have e : [(44 : Int)].length = 1 := rfl; omega
        · have e : ([] : List Int).length = 0 := rfl; omega
      refine s8_say_38 (by omega) (am_ow hC.o) fun Q' hK => sy_race (by omega) hC hI (by omega) hfJ hvJ (by omega) (fun I1 g1 g2 => hK _ (s8_say_43 ?_))
      rw [wrs (by omega)]
      rw [el] at g2
      exact ih I1 g1 g2
    refine s8_say_9 (by omega) (am_ow hC.o) hC.p4 (am_ow hC.now.1) hC.p6 (am_ow hC.audit.1) hC.p6 (am_ow hC.audit.1) hC.p.2.1 (am_ow hSp.1) (fun c1 => absurd c1 (by dsimp only; rw [e2]; omega)) (fun _ c1 => absurd c1 (by omega)) (fun c1 _ c2 => ?_) (fun c1 _ c2 Q' hK => ct_put hSp hv (by omega) (fun I1 g1 g2 => hK _ ?_))
    · exact rest I (ts R k) hf hv (by rw [if_neg (by omega), List.append_nil])
    · exact rest I1 _ (fr I I1 hf g1) g2 (by rw [if_pos (by omega)])
theorem q_say {I : Nat → Nat → Int} (hd : 5 ≤ dp) (hC : Cl (I, Z) w s) (hI : CI I w R) (h : ∀ I' : Nat → Nat → Int, (∀ x, x ≠ 3 → x ≠ 4 → I' x = I x) → SpV I' 3 (tsay R) → Q (.inl (some (iV (tsay R).length))) (I', Z)) : T G dp 4 24 M8_say [rV (some 1)] (I, Z) Q := by
  refine T8_say (s8_say_0 (by omega) (am_ow hC.o) hC.p.2.1 (am_ow hC.sp.1) fun Q' hK => T7_fallSilent (s7_fallSilent_0 hC.sp.1 (hK _ (s8_say_7 ?_))))
  dsimp only
  refine lp_say (by omega) hC hI h _ 0 _ rfl (by omega) (fun x h3 h4 => u2r h3) ⟨u2_at, fun j v hj => ?_⟩
  unfold ts at hj
  exact absurd hj (by rw [List.getElem?_nil]; exact fun z => by cases z)
/-- the sign at i of what was said -/
def sdv (l : List Int) (i : Int) : Int := if 0 ≤ i then (l[i.toNat]?).getD (-1) else -1
theorem q_said {I : Nat → Nat → Int} {i : Int} {l : List Int} (hC : Cl (I, Z) w s) (hv : SpV I 3 l) (hl : l.length ≤ 64) (h : Q (.inl (some (iV (sdv l i)))) (I, Z)) : T G dp 4 24 M8_said [rV (some 1), iV i] (I, Z) Q := by
  have e1 : I 3 1 = l.length := hv.1
  unfold sdv at h
  refine T8_said (s8_said_0 (n_p2 := 64) (am_ow hC.o) hC.p.2.1 (am_ow hC.sp.1) hC.sp.2.1 (am_rw hC.sp.2.2) (fun c1 => ?_) (fun c1 c2 => ?_) (fun c1 c2 => ?_))
  · rw [if_neg (by omega)] at h; exact h
  · dsimp only at c2 ⊢
    rw [if_pos (by omega), List.getElem?_eq_getElem (show i.toNat < l.length by omega)] at h
    rw [hv.2 i.toNat _ (List.getElem?_eq_getElem (show i.toNat < l.length by omega))]
    exact h
  · dsimp only at c2
    rw [if_pos (by omega), List.getElem?_eq_none (by omega)] at h
    exact h
theorem tsay_len {R : Nat → Int} (hR : RV R) : (tsay R).length ≤ 64 := by
  have hc := hR.c
  have hl := ts_len R (rC R)
  unfold tsay
  rw [List.length_append]
  split
  · have e : [(59 : Int)].length = 1 := rfl; omega
  · split
    · have e : [(63 : Int)].length = 1 := rfl; omega
    · have e : ([] : List Int).length = 0 := rfl; omega
end
