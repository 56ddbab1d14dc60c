/-! THE REFERENCE: more, tries, quickest -/
theorem rs_open {R d : Nat → Int} {r : Nat} (hR : RV R) : ∀ k, (rs R d r k).2.2 = -1 → goal R < (rs R d r k).2.1
  | 0, _ => by have := goal_rng hR; show goal R < 1000000000; omega
  | k + 1, h => by
    by_cases q : (rs R d r k).2.2 = -1
    · have e := rs_go q
      rw [e] at h ⊢
      dsimp only at h ⊢
      by_cases z : stC R r (R 3) (rs R d r k).1 (rs R d r k).2.1 (rM R r (d k).toNat) (rP_ R r (d k).toNat) ≤ goal R
      · rw [if_pos z] at h; omega
      · omega
    · rw [rs_done q] at h ⊢
      exact absurd h q
theorem pS_0 {R : Nat → Int} {r : Nat} {own : Nat → Int} (k : Nat) : pS R r own 0 k = own k := by
  unfold pS
  split <;> rfl
theorem cand2 {R : Nat → Int} {r : Nat} (hR : RV R) (hr : r < rC R) : ∃ j, j < rK R r ∧ j ≠ rW R r := by
  have hK := hR.k hr
  by_cases q : rW R r = 0
  · exact ⟨1, by omega, by omega⟩
  · exact ⟨0, by omega, by omega⟩
theorem mo_dec {R : Nat → Int} {r c : Nat} (hR : RV R) (hr : r < rC R) (hy : rY R r ≠ 0) (ho : ¬ grt 0 (rW R r) (rq R r).1 (rK R r) ≤ goal R) (h1 : 1 ≤ c) (hc : c < 5001) : grt 0 (rW R r) (pS R r (rq R r).1 c) (rK R r) ≤ goal R ↔ ngo (moF R r) (rW R r) (rK R r) ≠ -1 ∧ ngo (moF R r) (rW R r) (rK R r) ≤ c := by
  have hg := goal_rng hR
  have hq := rq_rng R r
  have t1 := hR.t r (rW R r)
  have eF : moF R r = fun k => ddn (rT R r (rW R r) + rT R r k) (2 * rT R r (rW R r)) ((rq R r).1 k) (goal R) 5001 0 := by
    funext k
    unfold moF cD dd tB bC
    rw [if_neg hy, if_neg hy]
    rfl
  have eG : grt 0 (rW R r) (pS R r (rq R r).1 c) (rK R r) = grt 0 (rW R r) (fun k => scn (rT R r (rW R r) + rT R r k) (2 * rT R r (rW R r)) ((rq R r).1 k) c) (rK R r) := grt_congr _ fun k hk hkw => by
    unfold pS
    rw [if_pos ⟨hk, hkw⟩]
  by_cases z : 0 < rT R r (rW R r)
  · rw [eG, eF]
    refine dec_all (t := fun k => rT R r (rW R r) + rT R r k) (v := (rq R r).1) (by omega) hc (fun k hk hkw c hle => ?_)
    have t2 := hR.t r k
    have t3 := hR.tw (r := r) hk
    have hs := scn_rng (t := rT R r (rW R r) + rT R r k) (b := 2 * rT R r (rW R r)) (hq.1 k).1 (hq.1 k).2 c
    have := sc_down (v := scn (rT R r (rW R r) + rT R r k) (2 * rT R r (rW R r)) ((rq R r).1 k) c) (t := rT R r (rW R r) + rT R r k) (b := 2 * rT R r (rW R r)) hs.1 (by omega) (by omega) (by omega)
    show sc (scn (rT R r (rW R r) + rT R r k) (2 * rT R r (rW R r)) ((rq R r).1 k) c) (rT R r (rW R r) + rT R r k) (2 * rT R r (rW R r)) ≤ goal R
    omega
  · constructor
    · intro h
      exfalso
      rw [eG, grt_iff (by omega)] at h
      obtain ⟨j, j1, j2⟩ := cand2 hR hr
      have := h j j1 j2
      obtain ⟨c', rfl⟩ : ∃ c', c = c' + 1 := ⟨c - 1, by omega⟩
      have e : scn (rT R r (rW R r) + rT R r j) (2 * rT R r (rW R r)) ((rq R r).1 j) (c' + 1) = sc (scn (rT R r (rW R r) + rT R r j) (2 * rT R r (rW R r)) ((rq R r).1 j) c') (rT R r (rW R r) + rT R r j) (2 * rT R r (rW R r)) := rfl
      rw [e] at this
      unfold sc at this
      rw [if_pos (by omega)] at this
      omega
    · intro h
      exfalso
      rw [ngo_iff (by omega) (fun j => by rw [eF]; exact (ddn_rng 5001 0).1)] at h
      apply ho
      rw [grt_iff (by omega)]
      intro k hk hkw
      have hk2 := h k hk hkw
      refine Int.not_lt.mp fun q => hk2.1 ?_
      rw [eF]
      exact ddn_none _ _ (fun j _ _ => by have := scn_up (t := rT R r (rW R r) + rT R r k) (b := 2 * rT R r (rW R r)) (hq.1 k).1 (hq.1 k).2 (Or.inl (by omega)) j; omega)
section
variable {G : am_G} {dp : Nat} {Q : am_Q} {R : Nat → Int} {Z : (Nat → Nat → Option Nat) × (Nat → Nat × Nat) × Nat × Bool}
theorem lp_moc {I0 : Nat → Nat → Int} {r : Nat} {v : Int} {own : Nat → Int} {a b : Nat} (hd : 5 ≤ dp) (hM : Md (I0, Z)) (hv : RowV I0 R) (hR : RV R) (hL : LdV I0 R) (hr : r < rC R) (hy : rY R r = 0) (h1 : 1 ≤ v) (h2 : v ≤ 10000000000000) (hown : ∀ j, 1 ≤ own j ∧ own j ≤ 10000000000000) (h : ∀ I' : Nat → Nat → Int, (∀ x, x ≠ 115 → I' x = I0 x) → Q (.inl (some (iV (ddn (tms R r (R 3)) (bys R (R 3) 0) v (goal R) 5000 1)))) (I', Z)) : ∀ (t n : Nat) (I : Nat → Nat → Int), n + t = 5000 → (∀ x, x ≠ 115 → I x = I0 x) → MrV I R r (own, scn (tms R r (R 3)) (bys R (R 3) 0) v n, 0) → ddn (tms R r (R 3)) (bys R (R 3) 0) v (goal R) t (n + 1) = ddn (tms R r (R 3)) (bys R (R 3) 0) v (goal R) 5000 1 → X G dp a b M9_more 37 [some (rV (some 103)), some (iV r), some (iV ((n + 1 : Nat) : Int))] [] (I, Z) Q := by
  have hc := hR.c
  have hf := hR.2.2.2.1
  intro t
  induction t with
  | zero =>
    intro n I ht hff hMr hdd
    have hq := h I hff
    rw [← hdd] at hq
    exact s9_more_37 (n_p1 := 3) (n_p2 := 1514) (by omega) (am_ow hM.1) hM.winner.1 (am_rw hM.winner.2) hM.row.1 (am_rw hM.row.2) (fun _ => hq) (fun c => absurd (by omega) c)
  | succ t ih =>
    intro n I ht hff hMr hdd
    have hvI : RowV I R := fun j hj => by rw [hff 104 (by omega)]; exact hv j hj
    have hLI : LdV I R := hL.same fun x a b => hff x (by omega)
    have hs := scn_rng (t := tms R r (R 3)) (b := bys R (R 3) 0) h1 h2 n
    have ew : (I, Z).1 111 ((r : Int)).toNat = rW R r := hLI.w hr
    have e3 : (I, Z).1 104 ((3 : Int)).toNat = R 3 := hvI 3 (by omega)
    have edd : ddn (tms R r (R 3)) (bys R (R 3) 0) v (goal R) (t + 1) (n + 1) = if scn (tms R r (R 3)) (bys R (R 3) 0) v (n + 1) ≤ goal R then ((n + 1 : Nat) : Int) else ddn (tms R r (R 3)) (bys R (R 3) 0) v (goal R) t (n + 1 + 1) := rfl
    rw [edd] at hdd
    clear edd
    refine s9_more_37 (n_p1 := 3) (n_p2 := 1514) (by omega) (am_ow hM.1) hM.winner.1 (am_rw hM.winner.2) hM.row.1 (am_rw hM.row.2) (fun c => absurd c (by omega)) (fun _ Q' hK => ?_)
    rw [ew, e3]
    refine md_draws (st := (own, scn (tms R r (R 3)) (bys R (R 3) 0) v n, 0)) (z := 0) (by omega) hM hvI hR hLI hr hMr hown hs hf.1 hf.2 (by omega) (by omega) (fun I1 g1 g2 g3 => hK _ ?_)
    have hf1 : ∀ x, x ≠ 115 → I1 x = I0 x := fun x hx => by rw [g1 x hx]; exact hff x hx
    have hv1 : RowV I1 R := fun j hj => by rw [hf1 104 (by omega)]; exact hv j hj
    have hL1 : LdV I1 R := hL.same fun x a b => hf1 x (by omega)
    have g3 : MrV I1 R r (own, scn (tms R r (R 3)) (bys R (R 3) 0) v (n + 1), 0) := by
      unfold stC at g3
      rw [if_pos hy, if_pos hy] at g3
      exact g3
    refine s9_more_62 (by omega) (am_ow hM.1) fun Q' hK => md_riskNow (by omega) hM hv1 hR hL1 hr g3 (hK _ _ ?_)
    dsimp only
    refine s9_more_68 (by omega) (am_ow hM.1) fun Q' hK => md_isLittle hM hv1 hR (fun q => hK _ _ ?_) (fun q => hK _ _ ?_)
    · rw [if_pos q] at hdd
      have hq := h I1 hf1
      rw [← hdd] at hq
      exact s9_more_71 (fun c => absurd c (by decide)) (fun _ => hq)
    · rw [if_neg q] at hdd
      refine s9_more_71 (fun _ => ?_) (fun c => absurd rfl c)
      rw [wrs (by omega)]
      exact ih (n + 1) I1 (by omega) hf1 g3 hdd
theorem lp_mop {I0 : Nat → Nat → Int} {r : Nat} {a b : Nat} (hd : 5 ≤ dp) (hM : Md (I0, Z)) (hv : RowV I0 R) (hR : RV R) (hL : LdV I0 R) (hr : r < rC R) (hy : rY R r ≠ 0) (ho : ¬ grt 0 (rW R r) (rq R r).1 (rK R r) ≤ goal R) (h : ∀ I' : Nat → Nat → Int, (∀ x, x ≠ 115 → I' x = I0 x) → Q (.inl (some (iV (ngo (moF R r) (rW R r) (rK R r))))) (I', Z)) : ∀ (t n : Nat) (I : Nat → Nat → Int), n + t = 5000 → (∀ x, x ≠ 115 → I x = I0 x) → MrV I R r (pS R r (rq R r).1 n, grt 0 (rW R r) (pS R r (rq R r).1 n) (rK R r), 0) → (ngo (moF R r) (rW R r) (rK R r) = -1 ∨ ((n + 1 : Nat) : Int) ≤ ngo (moF R r) (rW R r) (rK R r)) → X G dp a b M9_more 37 [some (rV (some 103)), some (iV r), some (iV ((n + 1 : Nat) : Int))] [] (I, Z) Q := by
  have hc := hR.c
  have hf := hR.2.2.2.1
  have hq := rq_rng R r
  have hlt := ngo_lt (F := moF R r) (w := rW R r) (B := 5001) (by omega) (fun k => by have := cD_rng (R := R) (r := r) (f := R 3) (k := k) (v := (rq R r).1 k) (N := 5000) (by omega); unfold moF; omega) (rK R r)
  intro t
  induction t with
  | zero =>
    intro n I ht hff hMr hdd
    have hA : ngo (moF R r) (rW R r) (rK R r) = -1 := by omega
    have hq := h I hff
    rw [hA] at hq
    exact s9_more_37 (n_p1 := 3) (n_p2 := 1514) (by omega) (am_ow hM.1) hM.winner.1 (am_rw hM.winner.2) hM.row.1 (am_rw hM.row.2) (fun _ => hq) (fun c => absurd (by omega) c)
  | succ t ih =>
    intro n I ht hff hMr hdd
    have hvI : RowV I R := fun j hj => by rw [hff 104 (by omega)]; exact hv j hj
    have hLI : LdV I R := hL.same fun x a b => hff x (by omega)
    have hpr := pS_rng (R := R) (r := r) hq.1 n
    have hpr1 := pS_rng (R := R) (r := r) hq.1 (n + 1)
    have ew : (I, Z).1 111 ((r : Int)).toNat = rW R r := hLI.w hr
    have e3 : (I, Z).1 104 ((3 : Int)).toNat = R 3 := hvI 3 (by omega)
    have hgr : 1 ≤ grt 0 (rW R r) (pS R r (rq R r).1 n) (rK R r) ∧ grt 0 (rW R r) (pS R r (rq R r).1 n) (rK R r) ≤ 10000000000000 := by
      rw [grt_01 (fun j => (hpr j).1) _ (cand2 hR hr)]
      exact grt_rng (by omega) (by omega) _ (fun j _ => (hpr j).2)
    have hdec := mo_dec (c := n + 1) hR hr hy ho (by omega) (by omega)
    refine s9_more_37 (n_p1 := 3) (n_p2 := 1514) (by omega) (am_ow hM.1) hM.winner.1 (am_rw hM.winner.2) hM.row.1 (am_rw hM.row.2) (fun c => absurd c (by omega)) (fun _ Q' hK => ?_)
    rw [ew, e3]
    refine md_draws (st := (pS R r (rq R r).1 n, grt 0 (rW R r) (pS R r (rq R r).1 n) (rK R r), 0)) (z := 0) (by omega) hM hvI hR hLI hr hMr hpr hgr hf.1 hf.2 (by omega) (by omega) (fun I1 g1 g2 g3 => hK _ ?_)
    have hf1 : ∀ x, x ≠ 115 → I1 x = I0 x := fun x hx => by rw [g1 x hx]; exact hff x hx
    have hv1 : RowV I1 R := fun j hj => by rw [hf1 104 (by omega)]; exact hv j hj
    have hL1 : LdV I1 R := hL.same fun x a b => hf1 x (by omega)
    have eS : stO R r (pS R r (rq R r).1 n) (rW R r) = pS R r (rq R r).1 (n + 1) := funext pS_step
    have g3 : MrV I1 R r (pS R r (rq R r).1 (n + 1), grt 0 (rW R r) (pS R r (rq R r).1 (n + 1)) (rK R r), 0) := by
      unfold stC at g3
      rw [if_neg hy, if_neg hy] at g3
      dsimp only at g3
      rw [eS, ← grt_01 (fun j => (hpr1 j).1) _ (cand2 hR hr)] at g3
      exact g3
    refine s9_more_62 (by omega) (am_ow hM.1) fun Q' hK => md_riskNow (by omega) hM hv1 hR hL1 hr g3 (hK _ _ ?_)
    dsimp only
    refine s9_more_68 (by omega) (am_ow hM.1) fun Q' hK => md_isLittle hM hv1 hR (fun q => hK _ _ ?_) (fun q => hK _ _ ?_)
    · have hA := hdec.mp q
      have hq := h I1 hf1
      rw [show ngo (moF R r) (rW R r) (rK R r) = ((n + 1 : Nat) : Int) by omega] at hq
      exact s9_more_71 (fun c => absurd c (by decide)) (fun _ => hq)
    · refine s9_more_71 (fun _ => ?_) (fun c => absurd rfl c)
      rw [wrs (by omega)]
      refine ih (n + 1) I1 (by omega) hf1 g3 ?_
      rcases hdd with z | z
      · exact Or.inl z
      · right
        by_cases z2 : ngo (moF R r) (rW R r) (rK R r) ≤ ((n + 1 : Nat) : Int)
        · exact absurd (hdec.mpr ⟨by omega, z2⟩) q
        · omega
theorem r_more {I : Nat → Nat → Int} {x : Int} (hd : 8 ≤ dp) (hM : Md (I, Z)) (hv : RowV I R) (hR : RV R) (hD : DR R) (h0 : ∀ (r : Nat) (I' : Nat → Nat → Int), x = r → r < rC R → MF I I' → I' 103 7 = 0 → Q (.inl (some (iV (mo R r)))) (I', Z)) (h1 : ¬ isR R x → ∀ I' : Nat → Nat → Int, MF I I' → I' 103 7 = 1 → Q (.inl (some (iV 0))) (I', Z)) : T G dp 4 24 M9_more [rV (some 103), iV x] (I, Z) Q := by
  have hv0 : RowV (u2 I 103 7 0) R := MF.code.row hv
  refine T9_more (s9_more_0 (by omega) hM.1 fun Q' hK => md_isRace (m := (u2 I 103 7 0, Z)) (by omega) hM hv0 hR (fun c => hK _ _ ?_) (fun c => hK _ _ ?_))
  · obtain ⟨r, er, hr, hr3⟩ := c.n hR
    subst er
    refine s9_more_10 (by omega) (am_ow hM.1) (fun _ Q' hK => md_goes0 (by omega) hM hv hR hD (fun I1 g1 g2 g3 g4 => hK _ ?_)) (fun c => absurd c (by decide))
    have ed : (I1, Z).1 116 ((r : Int)).toNat = (rq R r).2.2 := (g4.2.2.1 r hr).2
    have hmr : MrV I1 R r (rq R r) := (g4.2.2.1 r hr).1
    have hq := rq_rng R r
    have h0 := fun I' => h0 r I' rfl hr
    have fin : ∀ I', (∀ x, x ≠ 115 → I' x = I1 x) → MF I I' ∧ I' 103 7 = 0 := fun I' hf => ⟨g1.tr ⟨fun x a b => hf x (by omega), fun j _ _ _ => by rw [hf 103 (by omega)]⟩, by rw [hf 103 (by omega)]; exact g2⟩
    unfold mo at h0
    refine s9_more_23 (n_p1 := 3) (am_ow hM.1) hM.done.1 (am_rw hM.done.2) (fun q => ?_) (fun q => ?_)
    · rw [ed] at q
      rw [if_pos q] at h0
      have hop := rs_open (d := dw R (R 5)) (r := r) hR (kN R) q
      have hop : goal R < (rq R r).2.1 := hop
      by_cases hy : rY R r = 0
      · rw [if_pos hy] at h0
        have e : cD R r (R 3) 0 (rq R r).2.1 5000 = ddn (tms R r (R 3)) (bys R (R 3) 0) (rq R r).2.1 (goal R) 5000 1 := by
          unfold cD dd tB bC
          rw [if_pos hy, if_pos hy]
          show (if scn (tms R r (R 3)) (bys R (R 3) 0) (rq R r).2.1 0 ≤ goal R then _ else _) = _
          rw [if_neg]
          show ¬ (rq R r).2.1 ≤ goal R
          omega
        rw [e] at h0
        exact lp_moc (I0 := I1) (own := (rq R r).1) (by omega) hM g3 hR g4.2.1 hr hy hq.2.1 hq.2.2 hq.1 (fun I' hf => h0 I' (fin I' hf).1 (fin I' hf).2) 5000 0 I1 rfl (fun _ _ => rfl) ⟨fun y => hmr.1 y, fun y => absurd hy y⟩ rfl
      · rw [if_neg hy] at h0
        have hm2 := hmr.2 hy
        have ho : ¬ grt 0 (rW R r) (rq R r).1 (rK R r) ≤ goal R := by rw [hm2.2]; omega
        have eP : pS R r (rq R r).1 0 = (rq R r).1 := funext pS_0
        refine lp_mop (I0 := I1) (by omega) hM g3 hR g4.2.1 hr hy ho (fun I' hf => h0 I' (fin I' hf).1 (fin I' hf).2) 5000 0 I1 rfl (fun _ _ => rfl) ⟨fun y => absurd y hy, fun _ => ⟨?_, rfl⟩⟩ ?_
        · rw [eP]; exact hm2.1
        · by_cases z : ngo (moF R r) (rW R r) (rK R r) = -1
          · exact Or.inl z
          · right
            refine Int.not_lt.mp fun z2 => ho ?_
            have := (ngo_iff (F := moF R r) (w := rW R r) (c := 0) (by omega) (fun j => (cD_rng (R := R) (r := r) (f := R 3) (k := j) (v := (rq R r).1 j) (N := 5000) (by omega)).1) (rK R r)).mp ⟨z, by omega⟩
            have hg := goal_rng hR
            rw [grt_iff (by omega)]
            intro k hk hkw
            have hk2 := this k hk hkw
            refine Int.not_lt.mp fun y => ?_
            have e : moF R r k = ddn (tB R r (R 3) k) (bC R r (R 3)) ((rq R r).1 k) (goal R) 5000 1 := by
              show (if scn (tB R r (R 3) k) (bC R r (R 3)) ((rq R r).1 k) 0 ≤ goal R then _ else _) = _
              rw [if_neg]
              show ¬ (rq R r).1 k ≤ goal R
              omega
            have key : ∀ f k' : Nat, ddn (tB R r (R 3) k) (bC R r (R 3)) ((rq R r).1 k) (goal R) f k' = -1 ∨ (k' : Int) ≤ ddn (tB R r (R 3) k) (bC R r (R 3)) ((rq R r).1 k) (goal R) f k' := fun f => by
              induction f with
              | zero => intro k'; exact Or.inl rfl
              | succ f ih =>
                intro k'
                unfold ddn
                split
                · exact Or.inr (Int.le_refl _)
                · have := ih (k' + 1); omega
            have := key 5000 1
            omega
    · rw [ed] at q
      rw [if_neg q] at h0
      exact h0 I1 g1 g2
  · exact s9_more_10 (by omega) (am_ow hM.1) (fun c => absurd rfl c) (fun _ Q' hK => md_fail1 hM MF.code (fun I2 k1 k2 => hK _ _ (s9_more_18 (h1 c I2 k1 k2))))
theorem lp_raudit {I0 : Nat → Nat → Int} {z : Int} (hd : 7 ≤ dp) (hM : Md (I0, Z)) (hv : RowV I0 R) (hR : RV R) (h : ∀ I' : Nat → Nat → Int, (∀ x, x ≠ 103 → x < 109 ∨ 118 ≤ x → I' x = I0 x) → (∀ j, j ≠ 16 → j ≠ 18 → I' 103 j = I0 103 j) → MaV I' R (dw R z) (mN R z) → Q (.inl none) (I', Z)) : ∀ (t k : Nat) (I : Nat → Nat → Int), k + t = 300 → (∀ x, x ≠ 103 → x < 109 ∨ 118 ≤ x → I x = I0 x) → (∀ j, j ≠ 16 → j ≠ 18 → I 103 j = I0 103 j) → MaV I R (dw R z) k → I 103 18 = lx z k → goes R (dw R z) (R 4) t k = mN R z → X G dp 0 0 M9_audit 9 [some (rV (some 103)), some (iV z)] [] (I, Z) Q := by
  have hm := hR.2.2.2.2.1
  have hN := hR.n
  intro t
  induction t with
  | zero =>
    intro k I ht f1 f2 hA hx hg
    have hvI : RowV I R := fun j hj => by rw [f1 104 (by omega) (by omega)]; exact hv j hj
    have e : k = mN R z := hg
    have e16 : (I, Z).1 103 16 = k := hA.1
    have e4 : (I, Z).1 104 ((4 : Int)).toNat = R 4 := hvI 4 (by omega)
    exact s9_audit_9 (n_p1 := 1514) (by omega) (am_ow hM.1) hM.row.1 (am_rw hM.row.2) (fun _ => h I f1 f2 (by rw [← e]; exact hA)) (fun c => absurd (by omega) c)
  | succ t ih =>
    intro k I ht f1 f2 hA hx hg
    have hvI : RowV I R := fun j hj => by rw [f1 104 (by omega) (by omega)]; exact hv j hj
    have e16 : (I, Z).1 103 16 = k := hA.1
    have e4 : (I, Z).1 104 ((4 : Int)).toNat = R 4 := hvI 4 (by omega)
    unfold goes at hg
    have stop : ¬ ((k : Int) < R 4 ∧ pnd R (dw R z) k (rC R) ≠ 0 ∧ 0 < R 1) → Q (.inl none) (I, Z) := fun q => by
      rw [if_neg q] at hg
      exact h I f1 f2 (by rw [← hg]; exact hA)
    refine s9_audit_9 (n_p1 := 1514) (by omega) (am_ow hM.1) hM.row.1 (am_rw hM.row.2) (fun c => stop (fun q => by omega)) (fun c Q' hK => md_ballots (m := (I, Z)) hM hvI (hK _ _ ?_))
    refine s9_audit_26 (by omega) (am_ow hM.1) (fun c2 => stop (fun q => by omega)) (fun c2 Q' hK => md_isOver (d := dw R z) (k := k) (by omega) hM hvI hR (fun r hr => (hA.2.2.1 r hr).2) (fun y => hK _ _ ?_) (fun y => hK _ _ ?_))
    · exact s9_audit_33 (by omega) (am_ow hM.1) (fun _ => stop (fun q => q.2.1 y)) (fun c => absurd c (by decide))
    · have hn : 0 < R 1 := by omega
      rw [if_pos ⟨by omega, y, hn⟩] at hg
      have hdw := dw_rng (z := z) (k := k) hn
      obtain ⟨b, eb⟩ : ∃ b : Nat, dw R z k = b := ⟨(dw R z k).toNat, by omega⟩
      refine s9_audit_33 (by omega) (am_ow hM.1) (fun c => absurd rfl c) (fun _ Q' hK => md_drawnBy (z := z) (k := k) (by omega) hM hvI hn hx (hK _ _ ?_))
      rw [eb]
      have hA1 : MaV (u2 I 103 18 (lx z (k + 1))) R (dw R z) k := hA.same hR (u2n (by omega)) (fun x p q => u2r (by omega))
      refine s9_audit_41 (by omega) (am_ow hM.1) fun Q' hK => md_drawsBallot (I := u2 I 103 18 (lx z (k + 1))) (d := dw R z) (k := k) (by omega) hM (fun j hj => by rw [u2r (by omega)]; exact hvI j hj) hR hA1 (by omega) eb (by omega) (fun I1 g1 g2 g3 => hK _ (s9_audit_44 ?_))
      exact ih (k + 1) I1 (by omega) (fun x p q => by rw [g1 x p (by omega), u2r p]; exact f1 x p q) (fun j p q => by rw [g2 j p, u2n q]; exact f2 j p q) g3 (by rw [g2 18 (by omega)]; exact u2_at) hg
theorem md_audit {I : Nat → Nat → Int} {z : Int} (hd : 8 ≤ dp) (hM : Md (I, Z)) (hv : RowV I R) (hR : RV R) (h : ∀ I' : Nat → Nat → Int, (∀ x, x ≠ 103 → x < 109 ∨ 118 ≤ x → I' x = I x) → (∀ j, j ≠ 16 → j ≠ 18 → I' 103 j = I 103 j) → MaV I' R (dw R z) (mN R z) → Q (.inl none) (I', Z)) : T G dp 0 0 M9_audit [rV (some 103), iV z] (I, Z) Q := by
  refine T9_audit (s9_audit_0 (by omega) (am_ow hM.1) fun Q' hK => md_begins (dw R z) (by omega) hM hv hR (fun I1 g1 g2 => hK _ (s9_audit_4 hM.1 ?_)))
  dsimp only
  refine lp_raudit (I0 := I1) (by omega) hM (g1.mf.row hv) hR (fun I' k1 k2 k3 => h I' (fun x p q => by rw [k1 x p q]; exact g1.1 x p q) (fun j p q => by rw [k2 j p q]; exact g1.2 j p) k3) 300 0 _ rfl (fun x p q => u2r p) (fun j p q => u2n q) (g2.same hR (u2n (by omega)) (fun x p q => u2r (by omega))) u2_at rfl
theorem md_tried {I : Nat → Nat → Int} {r : Nat} {g z : Int} {b : Int} (hM : Md (I, Z)) (hR : RV R) (hr : r < rC R) (hA : MaV I R (dw R z) (mN R z)) (hg : g = 0 ∧ b = 0 ∨ g = 2 ∧ b = 1) (h : Q (.inl (some (iV (tr1 R r g z)))) (I, Z)) : T G dp 0 0 M9_tried [rV (some 103), iV r, iV b] (I, Z) Q := by
  have hc := hR.c
  have ed : (I, Z).1 116 ((r : Int)).toNat = (rs R (dw R z) r (mN R z)).2.2 := (hA.2.2.1 r hr).2
  have ew : (I, Z).1 111 ((r : Int)).toNat = rW R r := hA.2.1.w hr
  have eo : (I, Z).1 112 ((r : Int)).toNat = rO R r := hA.2.1.o hr
  unfold tr1 at h
  rw [if_neg (by omega)] at h
  refine T9_tried (s9_tried_0 (n_p1 := 3) (n_p2 := 3) (n_p3 := 3) (am_ow hM.1) hM.done.1 (am_rw hM.done.2) hM.winner.1 (am_rw hM.winner.2) hM.right.1 (am_rw hM.right.2) (fun c c2 => ?_) (fun c c2 c3 => ?_) (fun c c2 c3 => ?_) (fun c => ?_))
  · rw [ed] at c
    rw [if_pos ⟨c, Or.inl (by omega)⟩] at h; exact h
  · rw [ed] at c
    rw [ew, eo] at c3
    rw [if_pos ⟨c, Or.inr (by omega)⟩] at h; exact h
  · rw [ew, eo] at c3
    rw [if_neg (fun y => y.2.elim (fun y => by omega) (fun y => by omega))] at h; exact h
  · rw [ed] at c
    rw [if_neg (fun y => y.1 c)] at h; exact h
theorem lp_rtries {I0 : Nat → Nat → Int} {r n : Nat} {seed g : Int} {a b : Nat} (hd : 9 ≤ dp) (hM : Md (I0, Z)) (hv : RowV I0 R) (hR : RV R) (hr : r < rC R) (hg : 0 ≤ g) (hg2 : g ≤ 2) (hn : n ≤ 30) (h : ∀ I' : Nat → Nat → Int, MF I0 I' → I' 103 7 = I0 103 7 → Q (.inl (some (iV (tsum R r g seed n)))) (I', Z)) : ∀ (t k : Nat) (I : Nat → Nat → Int), n - k = t → k ≤ n → MF I0 I → I 103 7 = I0 103 7 → X G dp a b M9_tries 56 [some (rV (some 103)), some (iV r), some (iV seed), some (iV n), some (iV g), some (iV (tsum R r g seed k)), some (iV k)] [] (I, Z) Q := by
  intro t
  induction t with
  | zero =>
    intro k I ht hk hf hf7
    have e : k = n := by omega
    subst e
    exact s9_tries_56 (by omega) (am_ow hM.1) (fun _ => h I hf hf7) (fun c => absurd (by omega) c)
  | succ t ih =>
    intro k I ht hk hf hf7
    have hvI := hf.row hv
    have hb := tsum_rng (R := R) (r := r) (g := g) (seed := seed) k
    have hb1 := tr1_rng (R := R) (r := r) (g := g) (z := wr (seed + k))
    have ih := fun I => ih (k + 1) I (by omega) (by omega)
    have e1 : tsum R r g seed (k + 1) = tsum R r g seed k + tr1 R r g (wr (seed + k)) := rfl
    rw [e1] at ih
    clear e1
    refine s9_tries_56 (by omega) (am_ow hM.1) (fun c => absurd c (by omega)) (fun _ Q' hK => md_audit (by omega) hM hvI hR (fun I1 g1 g2 g3 => hK _ ?_))
    have hf1 : MF I0 I1 := hf.tr ⟨fun x p q => g1 x p (by omega), fun j _ p q => g2 j p q⟩
    have hf71 : I1 103 7 = I0 103 7 := by rw [g2 7 (by omega) (by omega)]; exact hf7
    have fin : X G dp a b M9_tries 101 [some (rV (some 103)), some (iV r), some (iV seed), some (iV n), some (iV g), some (iV (tsum R r g seed k)), some (iV k)] [iV (tr1 R r g (wr (seed + k))), iV (tsum R r g seed k)] (I1, Z) Q := by
      refine s9_tries_101 ?_
      rw [wrs (by omega), wr_of (z := tsum R r g seed k + tr1 R r g (wr (seed + k))) (by omega) (by omega)]
      exact ih I1 hf1 hf71
    refine s9_tries_70 (by omega) (am_ow hM.1) (fun c c2 Q' hK => md_tried (g := g) hM hR hr g3 (Or.inl ⟨by omega, rfl⟩) (hK _ _ fin)) (fun c c2 Q' hK => md_tried (g := g) hM hR hr g3 (Or.inr ⟨by omega, rfl⟩) (hK _ _ fin)) (fun c => ?_)
    have e16 : (I1, Z).1 103 16 = tr1 R r g (wr (seed + k)) := by
      unfold tr1
      rw [if_pos c]
      exact g3.1
    rw [e16]
    exact fin
theorem r_tries {I : Nat → Nat → Int} {i seed N g : Int} (hd : 9 ≤ dp) (hM : Md (I, Z)) (hv : RowV I R) (hR : RV R) (h1 : (¬ isR R i ∨ ¬ (0 ≤ g ∧ g ≤ 2)) → ∀ I' : Nat → Nat → Int, MF I I' → I' 103 7 = 1 → Q (.inl (some (iV 0))) (I', Z)) (h2 : isR R i → 0 ≤ g → g ≤ 2 → ¬ (1 ≤ N ∧ N ≤ 30) → ∀ I' : Nat → Nat → Int, MF I I' → I' 103 7 = 2 → Q (.inl (some (iV 0))) (I', Z)) (h0 : ∀ r n : Nat, i = r → r < rC R → 0 ≤ g → g ≤ 2 → N = n → 1 ≤ n → n ≤ 30 → ∀ I' : Nat → Nat → Int, MF I I' → I' 103 7 = 0 → Q (.inl (some (iV (tsum R r g seed n)))) (I', Z)) : T G dp 4 24 M9_tries [rV (some 103), iV i, iV seed, iV N, iV g] (I, Z) Q := by
  have nn : ∀ k : Int, ¬ k ≤ 0 → ¬ (u2 (I, Z).1 103 7 k) 103 7 ≤ 0 := fun k hk => by rw [u2_at]; exact hk
  have n0 : (u2 (I, Z).1 103 7 0) 103 7 ≤ 0 := by rw [u2_at]; exact Int.le_refl _
  refine T9_tries (s9_tries_0 (by omega) (am_ow hM.1) fun Q' hK => md_isRace (m := (I, Z)) (by omega) hM hv hR (fun c => hK _ _ ?_) (fun c => hK _ _ ?_))
  · obtain ⟨r, er, hr, hr3⟩ := c.n hR
    subst er
    refine s9_tries_6 (by omega) hM.1 (am_ow hM.1) (fun c => absurd c (by decide)) (fun c => absurd c (by decide)) (fun _ Q' hK => md_isIn (hK _ _ ?_))
    by_cases q : 0 ≤ g ∧ g ≤ 2
    · rw [if_pos q]
      refine s9_tries_16 (by omega) hM.1 (am_ow hM.1) (fun _ Q' hK => md_isIn (hK _ _ ?_)) (fun c => absurd c (by decide)) (fun c => absurd c (by decide))
      by_cases q2 : 1 ≤ N ∧ N ≤ 30
      · rw [if_pos q2]
        obtain ⟨n, en⟩ : ∃ n : Nat, N = n := ⟨N.toNat, by omega⟩
        subst en
        refine s9_tries_30 hM.1 (am_ow hM.1) (fun _ _ => ?_) (fun _ c => absurd n0 c) (fun c => absurd c (by decide)) (fun c => absurd c (by decide))
        exact lp_rtries (I0 := u2 I 103 7 0) (by omega) hM (MF.code.row hv) hR hr q.1 q.2 (by omega) (fun I' k1 k2 => h0 r n rfl hr q.1 q.2 rfl (by omega) (by omega) I' (MF.code.tr k1) (by rw [k2]; exact u2_at)) n 0 _ rfl (by omega) MF.rf rfl
      · rw [if_neg q2]
        exact s9_tries_30 hM.1 (am_ow hM.1) (fun c => absurd rfl c) (fun c => absurd rfl c) (fun _ c => absurd c (nn 2 (by omega))) (fun _ _ => h2 c q.1 q.2 q2 _ MF.code u2_at)
    · rw [if_neg q]
      exact s9_tries_16 (by omega) hM.1 (am_ow hM.1) (fun c => absurd rfl c) (fun _ c => absurd c (nn 1 (by omega))) (fun _ _ => h1 (Or.inr q) _ MF.code u2_at)
  · exact s9_tries_6 (by omega) hM.1 (am_ow hM.1) (fun _ c => absurd c (nn 1 (by omega))) (fun _ _ => h1 (Or.inl c) _ MF.code u2_at) (fun c => absurd rfl c)
theorem lp_rquick {I0 : Nat → Nat → Int} {n : Nat} {seed : Int} {a b : Nat} (hd : 9 ≤ dp) (hM : Md (I0, Z)) (hv : RowV I0 R) (hR : RV R) (hn : n ≤ 30) (h : ∀ I' : Nat → Nat → Int, MF I0 I' → I' 103 7 = I0 103 7 → Q (.inl (some (iV (qgo R seed n).1))) (I', Z)) : ∀ (t k : Nat) (I : Nat → Nat → Int), n - k = t → k ≤ n → MF I0 I → I 103 7 = I0 103 7 → X G dp a b M9_quickest 29 [some (rV (some 103)), some (iV seed), some (iV n), some (iV (qgo R seed k).1), some (iV (qgo R seed k).2), some (iV k)] [] (I, Z) Q := by
  intro t
  induction t with
  | zero =>
    intro k I ht hk hf hf7
    have e : k = n := by omega
    subst e
    exact s9_quickest_29 (by omega) (am_ow hM.1) (fun _ => h I hf hf7) (fun c => absurd (by omega) c)
  | succ t ih =>
    intro k I ht hk hf hf7
    have hvI := hf.row hv
    have ih := fun I => ih (k + 1) I (by omega) (by omega)
    have e1 : qgo R seed (k + 1) = if pnd R (dw R (wr (seed + k))) (mN R (wr (seed + k))) (rC R) = 0 ∧ ((qgo R seed k).1 = -1 ∨ (mN R (wr (seed + k)) : Int) < (qgo R seed k).2) then ((k : Int), (mN R (wr (seed + k)) : Int)) else qgo R seed k := rfl
    rw [e1] at ih
    clear e1
    refine s9_quickest_29 (by omega) (am_ow hM.1) (fun c => absurd c (by omega)) (fun _ Q' hK => md_audit (by omega) hM hvI hR (fun I1 g1 g2 g3 => hK _ ?_))
    have hf1 : MF I0 I1 := hf.tr ⟨fun x p q => g1 x p (by omega), fun j _ p q => g2 j p q⟩
    have hf71 : I1 103 7 = I0 103 7 := by rw [g2 7 (by omega) (by omega)]; exact hf7
    have hv1 := hf1.row hv
    have e16 : (I1, Z).1 103 16 = mN R (wr (seed + k)) := g3.1
    generalize wr (seed + k) = z at *
    refine s9_quickest_43 (by omega) (am_ow hM.1) fun Q' hK => md_isOver (d := dw R z) (k := mN R z) (by omega) hM hv1 hR (fun r hr => (g3.2.2.1 r hr).2) (fun y => hK _ _ ?_) (fun y => hK _ _ ?_)
    · refine s9_quickest_47 (am_ow hM.1) (fun _ c => ?_) (fun _ c c2 => ?_) (fun _ c c2 => ?_) (fun c => absurd c (by decide))
      · rw [if_pos ⟨y, Or.inl c⟩] at ih
        rw [e16, wrs (by omega)]; exact ih I1 hf1 hf71
      · rw [e16] at c2
        rw [if_pos ⟨y, Or.inr c2⟩] at ih
        rw [e16, wrs (by omega)]; exact ih I1 hf1 hf71
      · rw [e16] at c2
        rw [if_neg (fun w => w.2.elim c c2)] at ih
        rw [wrs (by omega)]; exact ih I1 hf1 hf71
    · refine s9_quickest_47 (am_ow hM.1) (fun c => absurd rfl c) (fun c => absurd rfl c) (fun c => absurd rfl c) (fun _ => ?_)
      rw [if_neg (fun w => y w.1)] at ih
      rw [wrs (by omega)]; exact ih I1 hf1 hf71
theorem r_quickest {I : Nat → Nat → Int} {seed N : Int} (hd : 9 ≤ dp) (hM : Md (I, Z)) (hv : RowV I R) (hR : RV R) (h1 : ¬ (1 ≤ N ∧ N ≤ 30) → ∀ I' : Nat → Nat → Int, MF I I' → I' 103 7 = 1 → Q (.inl (some (iV 0))) (I', Z)) (h0 : ∀ n : Nat, N = n → 1 ≤ n → n ≤ 30 → ∀ I' : Nat → Nat → Int, MF I I' → I' 103 7 = 0 → Q (.inl (some (iV (qgo R seed n).1))) (I', Z)) : T G dp 4 24 M9_quickest [rV (some 103), iV seed, iV N] (I, Z) Q := by
  refine T9_quickest (s9_quickest_0 (by omega) hM.1 fun Q' hK => md_isIn (hK _ _ ?_))
  by_cases q2 : 1 ≤ N ∧ N ≤ 30
  · rw [if_pos q2]
    obtain ⟨n, en⟩ : ∃ n : Nat, N = n := ⟨N.toNat, by omega⟩
    subst en
    refine s9_quickest_12 (by omega) (am_ow hM.1) (fun _ => ?_) (fun c => absurd c (by decide))
    exact lp_rquick (I0 := u2 I 103 7 0) (by omega) hM (MF.code.row hv) hR (by omega) (fun I' k1 k2 => h0 n rfl (by omega) (by omega) I' (MF.code.tr k1) (by rw [k2]; exact u2_at)) n 0 _ rfl (by omega) MF.rf rfl
  · rw [if_neg q2]
    exact s9_quickest_12 (by omega) (am_ow hM.1) (fun c => absurd rfl c) (fun _ Q' hK => md_fail1 hM MF.code (fun I2 k1 k2 => hK _ _ (s9_quickest_20 (h1 q2 I2 k1 k2))))
end
