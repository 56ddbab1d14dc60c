/-! WHAT IS SAID -/
/-- what is said of a race -/
def sr (R : Nat → Int) (r : Nat) : List Int := ([if rY R r = 0 then (99 : Int) else 112, 97 + (rW R r : Int)] : List Int) ++ (if (rq R r).2.2 = -1 then ([58] : List Int) ++ nt ((rq R r).2.1 / 1000000).toNat else ([33] : List Int) ++ nt (rq R r).2.2.toNat)
def ts (R : Nat → Int) : Nat → List Int
  | 0 => []
  | r + 1 => ts R r ++ (if 0 < r then [44] else []) ++ sr R r
def tsay (R : Nat → Int) : List Int := ts R (rC R) ++ (if bh R then [59] else if pq R ≠ 0 then [63] else [])
theorem nd7 {v : Nat} (h : v ≤ 10000000) : nd 16 v ≤ 7 := by
  have hp := (nd_p 16 v (by have e : (10 : Nat) ^ (16 + 1) = 100000000000000000 := by decide
                            omega)).2
  refine Nat.le_of_not_lt fun q => ?_
  have h7 := hp 7 q
  have e : (10 : Nat) ^ 7 = 10000000 := by decide
  omega
theorem nt_len {v : Nat} (h : v ≤ 10000000) : (nt v).length ≤ 8 := by
  have := nd7 h
  unfold nt
  rw [dl_len]
  omega
theorem rk7 (R : Nat → Int) (r : Nat) : ((rq R r).2.1 / 1000000).toNat ≤ 10000000 := by
  have := (rq_rng R r).2
  omega
theorem dn7 (R : Nat → Int) (r : Nat) : (rq R r).2.2.toNat ≤ 10000000 ∧ -1 ≤ (rq R r).2.2 ∧ (rq R r).2.2 ≤ 300 := by
  have h1 := (rs_rng R (dw R (R 5)) r (kN R)).2.2
  have h2 := kN_le R
  have e : (rq R r).2.2 = (rs R (dw R (R 5)) r (kN R)).2.2 := rfl
  omega
theorem sr_len (R : Nat → Int) (r : Nat) : (sr R r).length ≤ 11 := by
  have h1 := nt_len (rk7 R r)
  have h2 := nt_len (dn7 R r).1
  unfold sr
  rw [List.length_append]
  have e : ∀ x y : Int, [x, y].length = 2 := fun _ _ => rfl
  rw [e]
  split
  · rw [List.length_append]; have e : [(58 : Int)].length = 1 := rfl; omega
  · rw [List.length_append]; have e : [(33 : Int)].length = 1 := rfl; omega
theorem ts_len (R : Nat → Int) : ∀ n, (ts R n).length ≤ 12 * n
  | 0 => Nat.le_refl _
  | n + 1 => by
    have h1 := ts_len R n
    have h2 := sr_len R n
    unfold ts
    rw [List.length_append, List.length_append]
    split
    · have e : [(44 : Int)].length = 1 := rfl; omega
    · have e : ([] : List Int).length = 0 := rfl; omega
section
variable {G : am_G} {dp : Nat} {Q : am_Q} {w s : Nat} {R : Nat → Int} {Z : (Nat → Nat → Option Nat) × (Nat → Nat × Nat) × Nat × Bool}
theorem sy_race {r : Nat} {I0 I : Nat → Nat → Int} {l : List Int} (hd : 3 ≤ dp) (hC : Cl (I0, Z) w s) (hI : CI I0 w R) (hr : r < rC R) (hf : ∀ x, x ≠ 3 → x ≠ 4 → I x = I0 x) (hv : SpV I 3 l) (hl : l.length < 50) (h : ∀ I' : Nat → Nat → Int, (∀ x, x ≠ 3 → x ≠ 4 → I' x = I0 x) → SpV I' 3 (l ++ sr R r) → Q (.inl none) (I', Z)) : T G dp 0 0 M8_sayRace [rV (some 1), iV r] (I, Z) Q := by
  have hw := hC.ws
  have hc := hI.1.c
  have hSp := hC.sp
  have hcv := hI.2.1.2.2.2.2.2 r hr
  have hct := hC.now.2.2.2 r (by omega)
  have fr : ∀ (J J' : Nat → Nat → Int), (∀ x, x ≠ 3 → x ≠ 4 → J x = I0 x) → (∀ x, x ≠ 3 → x ≠ 3 + 1 → J' x = J x) → ∀ x, x ≠ 3 → x ≠ 4 → J' x = I0 x := fun J J' a b x h3 h4 => by rw [b x h3 h4]; exact a x h3 h4
  have ef : ∀ J : Nat → Nat → Int, (∀ x, x ≠ 3 → x ≠ 4 → J x = I0 x) → J (ec w r) = I0 (ec w r) := fun J a => a _ (by unfold ec; omega) (by unfold ec; omega)
  have hK4 := hI.1.k hr
  have hW := hI.1.w hr
  unfold sr at h
  have c1 : ∀ (c : Int) (hc : c = if rY R r = 0 then 99 else 112) (Q' : am_Q), (∀ m' : am_M, X G dp 0 0 M8_sayRace 31 [some (rV (some 1)), some (iV r), some (rV (some (ec w r)))] [] m' Q → Q' (.inl none) m') → T G (dp - 1) 0 0 M7_put [rV (some 3), iV c] (I, Z) Q' := fun c hcc Q' hK => by
    subst hcc
    refine ct_put hSp hv (by omega) (fun I1 g1 g2 => hK _ ?_)
    have f1 := fr I I1 hf g1
    refine s8_sayRace_31 (by omega) (am_ow hC.o) hC.p.2.1 (am_ow hct.2.1) (am_ow hSp.1) fun Q' hK => ?_
    dsimp only
    rw [ef I1 f1, hcv.2.2.1, wr_of (by omega) (by omega)]
    have l1 : (l ++ [if rY R r = 0 then (99 : Int) else 112]).length = l.length + 1 := by rw [List.length_append]; rfl
    refine ct_put hSp g2 (by omega) (fun I2 k1 k2 => hK _ ?_)
    have f2 := fr I1 I2 f1 k1
    have l2 : (l ++ [if rY R r = 0 then (99 : Int) else 112] ++ [97 + (rW R r : Int)]).length = l.length + 2 := by rw [List.length_append, l1]; rfl
    have ed : I2 (47 + 9) r = (rq R r).2.2 := by rw [f2 (47 + 9) (by omega) (by omega)]; exact hI.dn hr
    refine s8_sayRace_45 (by omega) (am_ow hC.o) hC.p6 (am_ow hC.audit.1) fun Q' hK => ct_isDoneV (m := (I2, Z)) hC.audit (by omega) ed (hK _ _ ?_)
    refine s8_sayRace_53 (by omega) (am_ow hC.o) hC.p.2.1 (am_ow hSp.1) hC.p.2.1 (am_ow hSp.1) (fun c2 Q' hK => ?_) (fun c2 Q' hK => ?_)
    · have q : (rq R r).2.2 = -1 := by by_cases q : (rq R r).2.2 = -1; exact q; rw [if_neg q] at c2; omega
      rw [if_pos q] at h
      refine ct_put hSp k2 (by omega) (fun I3 m1 m2 => hK _ ?_)
      have f3 := fr I2 I3 f2 m1
      have l3 : (l ++ [if rY R r = 0 then (99 : Int) else 112] ++ [97 + (rW R r : Int)] ++ [58]).length = l.length + 3 := by rw [List.length_append, l2]; rfl
      have e5 : I3 47 5 = kN R := by rw [f3 47 (by omega) (by omega)]; exact hI.k5
      refine s8_sayRace_94 (by omega) (am_ow hC.o) hC.p.2.1 hC.p6 (am_ow hC.audit.1) fun Q' hK => ct_latestRisk (m := (I3, Z)) (k := kN R) hC.audit (by omega) e5 (kN_le R) (hK _ _ ?_)
      refine s8_sayRace_106 (by omega) (am_ow hSp.1) fun Q' hK => ?_
      have er : I3 (47 + 6 + r) (kN R) = (rq R r).2.1 := by rw [f3 _ (by omega) (by omega)]; exact hI.cu hr
      have rg := (rq_rng R r).2
      dsimp only
      rw [er, Int.tdiv_eq_ediv_of_nonneg (by omega), wrl_of (by omega) (by omega)]
      have hv7 := rk7 R r
      have hn7 := nd7 hv7
      rw [show (rq R r).2.1 / 1000000 = (((rq R r).2.1 / 1000000).toNat : Int) by omega]
      refine ct_putNumber (by omega) hSp m2 (by omega) (by omega) (fun I4 n1 n2 => hK _ (s8_sayRace_113 (h I4 (fr I3 I4 f3 n1) ?_)))
      rw [List.append_assoc, List.append_assoc, List.append_assoc] at n2
      exact n2
    · have q : (rq R r).2.2 ≠ -1 := fun q => c2 (by rw [if_pos q])
      rw [if_neg q] at h
      refine ct_put hSp k2 (by omega) (fun I3 m1 m2 => hK _ ?_)
      have f3 := fr I2 I3 f2 m1
      have l3 : (l ++ [if rY R r = 0 then (99 : Int) else 112] ++ [97 + (rW R r : Int)] ++ [33]).length = l.length + 3 := by rw [List.length_append, l2]; rfl
      have ed3 : I3 (47 + 9) r = (rq R r).2.2 := by rw [f3 (47 + 9) (by omega) (by omega)]; exact hI.dn hr
      refine s8_sayRace_65 (n_p3 := 3) (by omega) (am_ow hC.o) hC.p.2.1 hC.p6 (am_ow hC.audit.1) hC.audit.2.1.2.2.1 (am_rw hC.audit.2.2.1.2.2.1) (am_ow hSp.1) fun Q' hK => ?_
      dsimp only
      rw [tnc, ed3]
      have dn := dn7 R r
      have hn7 := nd7 dn.1
      have el : lV ((rq R r).2.2) = lV (((rq R r).2.2.toNat : Nat) : Int) := by rw [show (((rq R r).2.2.toNat : Nat) : Int) = (rq R r).2.2 by omega]
      rw [el]
      refine ct_putNumber (by omega) hSp m2 (by omega) (by omega) (fun I4 n1 n2 => hK _ (s8_sayRace_82 (s8_sayRace_113 (h I4 (fr I3 I4 f3 n1) ?_))))
      rw [List.append_assoc, List.append_assoc, List.append_assoc] at n2
      exact n2
  have e6 : I (ec w r) 6 = rY R r := by rw [ef I hf]; exact hcv.2.1
  refine T8_sayRace (s8_sayRace_0 (n_p2 := 3) (by omega) (am_ow hC.o) hC.p4 (am_ow hC.now.1) hC.now.2.1.1 (Or.inl rfl) (am_rw hC.now.2.2.1.1) hct.1 hC.p.2.1 (am_ow hct.2.1) (am_ow hSp.1) (fun c2 Q' hK => c1 _ ?_ Q' hK) (fun c2 Q' hK => c1 _ ?_ Q' hK))
  · dsimp only at c2; rw [e6] at c2; rw [if_neg c2]
  · dsimp only at c2; rw [e6] at c2; rw [if_pos c2]
end
