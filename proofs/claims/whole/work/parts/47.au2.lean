/-! AUDITS: a ballot more -/
theorem ct_stepped {G : am_G} {dp : Nat} {m : am_M} {Q : am_Q} {a e r b k : Nat} {R : Nat → Int} {keep : Int} (hd : 3 ≤ dp) (ha : Au m a) (he : El m e) (hv : ElV m.1 e R) (hR : RV R) (hs : e + 21 ≤ a ∨ a + 12 ≤ e) (hr : r < rC R) (hb : b < rN R) (hk : m.1 a 5 = k) (hk3 : k ≤ 300) (ho : ∀ j, j < 4 → 1 ≤ m.1 (a + 2 + r) j ∧ m.1 (a + 2 + r) j ≤ 10000000000000) (hcu : 1 ≤ m.1 (a + 6 + r) k ∧ m.1 (a + 6 + r) k ≤ 10000000000000) (h : Q (.inl (some (lV (stC R r (R 3) (m.1 (a + 2 + r)) (m.1 (a + 6 + r) k) (rM R r b) (rP_ R r b))))) (if rY R r = 0 then m.1 else stM m.1 a r R (m.1 (a + 2 + r)) (rP_ R r b) keep (rK R r), m.2)) : T G dp 0 0 M1_stepped [rV (some a), rV (some e), iV r, iV b, iV keep] m Q := by
  have hr3 : r < 3 := by have := hR.c; omega
  have her := he.2.2.2 r hr3
  have hc := her.2
  have hcv := hv.2.2.2.2.2 r hr
  have hsc : ec e r + 6 ≤ a ∨ a + 12 ≤ ec e r := by unfold ec; omega
  have hf := hR.2.2.2.1
  have hN := hR.n
  have e1 : m.1 (e + 2) (1 : Int).toNat = R 3 := hv.2.2.2.2.1.2.1
  have e3 : m.1 e 3 = R 1 := hv.2.1
  have e9 : m.1 (ec e r) 9 = rG R r := hcv.2.2.2.2.1
  have esl : m.1 (ec e r + 3) b = rM R r b := (hcv.2.2.2.2.2.2 b hb).2.2
  have hg := hR.g hr
  have htm := hR.tm hr hf.1 hf.2
  have hmi := hR.m r b
  have hby := hR.by_ hf.1 hf.2 hmi.1 hmi.2
  unfold stC at h
  refine T1_stepped (s1_stepped_0 (n_p1 := 3) (n_p3 := 3) (by omega) (am_ow he.1) he.2.1.1 (Or.inl rfl) (am_rw he.2.2.1.1) her.1 (am_ow hc.1) he.2.1.2 (am_rw he.2.2.1.2) (fun c1 => ?_) (fun c1 Q' hK => ?_))
  · rw [hcv.2.1] at c1
    rw [if_neg c1, if_neg c1] at h
    have hL := lp_stepped (G := G) (dp := dp) (m := m) (Q := Q) (a := a) (e := e) (c := ec e r) (r := r) (b := b) (R := R) (keep := keep) (by omega) ha hc hcv hR hsc hr hb ho h (rK R r) 0 none none rfl (by omega)
    unfold stM at hL
    rw [show (if keep = 0 then 0 else 0) = 0 by split <;> rfl, stR_0] at hL
    exact hL
  · rw [hcv.2.1] at c1
    rw [if_pos c1, if_pos c1] at h
    rw [e1, e3]
    refine ct_comparedTimes hc (by omega) (by omega) (by omega) (by omega) (by rw [e9]; omega) (by rw [e9]; omega) (hK _ _ ?_)
    refine s1_stepped_31 (n_p1 := 3) (n_p2 := 200) (by omega) (am_ow he.1) he.2.1.2 (am_rw he.2.2.1.2) (am_ow hc.1) hc.2.1.2.2.1 (am_rw hc.2.2.2.2.1) fun Q' hK => ?_
    rw [e1, e3, tnc, esl]
    refine ct_comparedBy (by omega) (by omega) (by omega) (by omega) (by omega) (by omega) (hK _ _ ?_)
    refine s1_stepped_53 (by omega) (am_ow ha.1) fun Q' hK => ct_latestRisk ha hr3 hk hk3 (hK _ _ ?_)
    refine s1_stepped_60 (by omega) fun Q' hK => ?_
    rw [e9]
    unfold tms at htm h
    unfold bys at hby h
    exact ct_scaled (by omega) (by omega) htm.1 (by omega) (by omega) (by omega) (hK _ _ (s1_stepped_67 h))
theorem ct_riskWith {G : am_G} {dp : Nat} {m : am_M} {Q : am_Q} {a e r b k : Nat} {R : Nat → Int} (hd : 4 ≤ dp) (ha : Au m a) (he : El m e) (hv : ElV m.1 e R) (hR : RV R) (hs : e + 21 ≤ a ∨ a + 12 ≤ e) (hr : r < rC R) (hb : b < rN R) (hk : m.1 a 5 = k) (hk3 : k ≤ 300) (ho : ∀ j, j < 4 → 1 ≤ m.1 (a + 2 + r) j ∧ m.1 (a + 2 + r) j ≤ 10000000000000) (hcu : 1 ≤ m.1 (a + 6 + r) k ∧ m.1 (a + 6 + r) k ≤ 10000000000000) (h : Q (.inl (some (lV (if m.1 (a + 9) r = -1 then stC R r (R 3) (m.1 (a + 2 + r)) (m.1 (a + 6 + r) k) (rM R r b) (rP_ R r b) else m.1 (a + 6 + r) k)))) m) : T G dp 0 0 M1_riskWith [rV (some a), rV (some e), iV r, iV b] m Q := by
  have hr3 : r < 3 := by have := hR.c; omega
  refine T1_riskWith (s1_riskWith_0 (by omega) (am_ow ha.1) fun Q' hK => ct_isDone ha hr3 (hK _ _ ?_))
  refine s1_riskWith_5 (by omega) (am_ow ha.1) (fun c1 Q' hK => ?_) (fun c1 Q' hK => ?_)
  · have q : m.1 (a + 9) r = -1 := by by_cases q : m.1 (a + 9) r = -1; exact q; rw [if_neg q] at c1; omega
    rw [if_pos q] at h
    refine ct_stepped (by omega) ha he hv hR hs hr hb hk hk3 ho hcu (hK _ _ ?_)
    have em : (if rY R r = 0 then m.1 else stM m.1 a r R (m.1 (a + 2 + r)) (rP_ R r b) 0 (rK R r)) = m.1 := by
      split
      · rfl
      · unfold stM; rw [if_pos rfl, stR_0]
    rw [em]
    exact s1_riskWith_24 h
  · have q : m.1 (a + 9) r ≠ -1 := fun q => c1 (by rw [if_pos q])
    rw [if_neg q] at h
    exact ct_latestRisk ha hr3 hk hk3 (hK _ _ (s1_riskWith_13 (s1_riskWith_24 h)))
/-- own risks and risks behind fo r draws, dones behind fd r -/
def AuR (I : Nat → Nat → Int) (a : Nat) (R : Nat → Int) (d : Nat → Int) (fo fd : Nat → Nat) : Prop := ∀ r, r < rC R → RcV I a R d r (fo r) (fd r)
theorem RcV.same {I I' : Nat → Nat → Int} {a : Nat} {R d : Nat → Int} {r ko kd : Nat} (h : RcV I a R d r ko kd) (h1 : I' (a + 2 + r) = I (a + 2 + r)) (h2 : I' (a + 6 + r) = I (a + 6 + r)) (h3 : I' (a + 9) r = I (a + 9) r) : RcV I' a R d r ko kd :=
  ⟨fun j hj => by rw [h1]; exact h.1 j hj, fun j hj => by rw [h2]; exact h.2.1 j hj, by rw [h3]; exact h.2.2⟩
theorem ElV.same {I I' : Nat → Nat → Int} {e : Nat} {R : Nat → Int} (h : ElV I e R) (hR : RV R) (hs : ∀ x, e ≤ x → x < e + 21 → I' x = I x) : ElV I' e R := by
  have hc := hR.c
  refine ⟨by rw [hs e (by omega) (by omega)]; exact h.1, by rw [hs e (by omega) (by omega)]; exact h.2.1, by rw [hs e (by omega) (by omega)]; exact h.2.2.1, by rw [hs e (by omega) (by omega)]; exact h.2.2.2.1, by rw [hs (e + 2) (by omega) (by omega)]; exact h.2.2.2.2.1, fun r hr => ?_⟩
  have hq := h.2.2.2.2.2 r hr
  have o : ∀ j, j < 6 → I' (ec e r + j) = I (ec e r + j) := fun j hj => hs _ (by unfold ec; omega) (by unfold ec; omega)
  have o0 := o 0 (by omega)
  rw [Nat.add_zero] at o0
  unfold CtV at hq ⊢
  rw [o0, o 1 (by omega), o 2 (by omega), o 3 (by omega), o 4 (by omega), o 5 (by omega)]
  exact hq
theorem lp_close {G : am_G} {dp : Nat} {Q : am_Q} {a e k : Nat} {R d : Nat → Int} {Z : (Nat → Nat → Option Nat) × (Nat → Nat × Nat) × Nat × Bool} {I0 : Nat → Nat → Int} (hd : 2 ≤ dp) (ha : Au (I0, Z) a) (he : El (I0, Z) e) (hv : ElV I0 e R) (hR : RV R) (hs : e + 21 ≤ a ∨ a + 12 ≤ e) (hk3 : k + 1 ≤ 300) (h : ∀ I' : Nat → Nat → Int, (∀ x, x ≠ a → x ≠ a + 9 → I' x = I0 x) → (∀ j, j ≠ 7 → I' a j = I0 a j) → I' a 7 = pnd R d (k + 1) (rC R) → AuR I' a R d (fun _ => k + 1) (fun _ => k + 1) → Q (.inl none) (I', Z)) : ∀ (t i : Nat) (I : Nat → Nat → Int), rC R - i = t → i ≤ rC R → (∀ x, x ≠ a → x ≠ a + 9 → I x = I0 x) → (∀ j, j ≠ 7 → I a j = I0 a j) → I a 5 = ((k + 1 : Nat) : Int) → (I a 7 + pnd R d k i = pnd R d k (rC R) + pnd R d (k + 1) i) → AuR I a R d (fun _ => k + 1) (fun r => if r < i then k + 1 else k) → X G dp 0 0 M1_closeRaces 2 [some (rV (some a)), some (rV (some e)), some (iV i)] [] (I, Z) Q := by
  intro t
  induction t with
  | zero =>
    intro i I ht hi h1 h2 h5 h7 hau
    have e0 : i = rC R := by omega
    subst e0
    have hc0 : I e 2 = R 0 := by rw [h1 e (by omega) (by omega)]; exact hv.1
    have hc := hR.c
    refine s1_closeRaces_2 (by omega) (am_ow he.1) (am_ow ha.1) (fun _ => h I h1 h2 (by omega) (fun r hr => ?_)) (fun c1 => ?_) (fun c1 => ?_)
    · have := hau r hr
      dsimp only at this
      rw [if_pos hr] at this
      exact this
    · exact absurd (by dsimp only; rw [hc0]; omega) c1
    · exact absurd (by dsimp only; rw [hc0]; omega) c1
  | succ t ih =>
    intro i I ht hi h1 h2 h5 h7 hau
    have hir : i < rC R := by omega
    have hc := hR.c
    have hi3 : i < 3 := by omega
    have hc0 : I e 2 = R 0 := by rw [h1 e (by omega) (by omega)]; exact hv.1
    have hi0 := hau i hir
    dsimp only at hi0
    rw [if_neg (Nat.lt_irrefl i)] at hi0
    have hp1 : pnd R d k (i + 1) = pnd R d k i + if (rs R d i k).2.2 = -1 then 1 else 0 := rfl
    have hp2 : pnd R d (k + 1) (i + 1) = pnd R d (k + 1) i + if (rs R d i (k + 1)).2.2 = -1 then 1 else 0 := rfl
    have keepI : (rs R d i (k + 1)).2.2 = (rs R d i k).2.2 → X G dp 0 0 M1_closeRaces 2 [some (rV (some a)), some (rV (some e)), some (iV (wr ((i : Int) + 1)))] [] (I, Z) Q := fun q => by
      rw [wrs (by omega)]
      refine ih (i + 1) I (by omega) (by omega) h1 h2 h5 ?_ (fun r hr => ?_)
      · rw [hp1, hp2, q]; push_cast; omega
      · have hq := hau r hr
        dsimp only at hq ⊢
        by_cases hri : r = i
        · subst hri
          rw [if_pos (by omega)]
          exact ⟨hi0.1, hi0.2.1, by rw [q]; exact hi0.2.2⟩
        · by_cases hri2 : r < i
          · rw [if_pos hri2] at hq; rw [if_pos (by omega)]; exact hq
          · rw [if_neg hri2] at hq; rw [if_neg (by omega)]; exact hq
    refine s1_closeRaces_2 (by omega) (am_ow he.1) (am_ow ha.1) (fun c1 => ?_) (fun _ c1 => ?_) (fun c1 _ Q' hK => ct_isDone ha hi3 (hK _ _ ?_))
    · exact absurd c1 (by dsimp only; rw [hc0]; omega)
    · exact absurd c1 (by omega)
    · refine s1_closeRaces_20 (by omega) (am_ow ha.1) (fun c2 => ?_) (fun c2 Q' hK => ct_latestRisk (k := k + 1) ha hi3 h5 hk3 (hK _ _ ?_))
      · refine keepI ?_
        have q : I (a + 9) i ≠ -1 := fun q => c2 (by dsimp only; rw [if_pos q])
        rw [hi0.2.2] at q
        rw [rs_done q]
      · have q : I (a + 9) i = -1 := by dsimp only at c2; by_cases q : I (a + 9) i = -1; exact q; rw [if_neg q] at c2; omega
        rw [hi0.2.2] at q
        refine s1_closeRaces_28 (by omega) (am_ow he.1) fun Q' hK => ct_goal (R := R) he (hv.same hR (fun x hx1 hx2 => h1 x (by omega) (by omega))) hR (hK _ _ ?_)
        have hcu : I (a + 6 + i) (k + 1) = (rs R d i (k + 1)).2.1 := hi0.2.1 (k + 1) (by omega)
        have hgo := rs_go q
        refine s1_closeRaces_32 (n_p1 := 3) ha.2.1.2.2.1 ha.2.2.1.2.2.1 ha.1 (fun c3 => ?_) (fun c3 => ?_)
        · have c4 := (lc_gt _ _).mp c3
          dsimp only at c4
          rw [hcu] at c4
          refine keepI ?_
          rw [hgo] at c4 ⊢
          dsimp only at c4 ⊢
          rw [if_neg (by omega), q]
        · have c4 := n_gt c3
          dsimp only at c4
          rw [hcu] at c4
          have hdn : (rs R d i (k + 1)).2.2 = ((k + 1 : Nat) : Int) := by
            rw [hgo] at c4 ⊢
            dsimp only at c4 ⊢
            rw [if_pos c4]
          rw [wrs (by omega)]
          dsimp only
          rw [tnc, h5, u2r (I := I) (a := a + 9) (x := a) (by omega)]
          have hpn : pnd R d (k + 1) (i + 1) = pnd R d (k + 1) i := by rw [hp2, hdn, if_neg (by omega)]; rfl
          have hpn1 : pnd R d k (i + 1) = pnd R d k i + 1 := by rw [hp1, q, if_pos rfl]
          have hpb : ∀ kk n : Nat, pnd R d kk n ≤ n := fun kk n => by
            induction n with
            | zero => exact Nat.le_refl _
            | succ n ih => unfold pnd; split <;> omega
          have b1 := hpb k (rC R)
          have b2 := hpb (k + 1) i
          have b3 := hpb k i
          rw [wr_of (by omega) (by omega)]
          refine ih (i + 1) _ (by omega) (by omega) (fun x hx1 hx2 => ?_) (fun j hj => ?_) ?_ ?_ (fun r hr => ?_)
          · rw [u2r hx1, u2r hx2]; exact h1 x hx1 hx2
          · rw [u2n hj, u2r (by omega)]; exact h2 j hj
          · rw [u2n (by omega), u2r (by omega)]; exact h5
          · rw [u2_at, hpn, hpn1]; push_cast; omega
          · have hq := hau r hr
            dsimp only at hq ⊢
            by_cases hri : r = i
            · subst hri
              rw [if_pos (by omega)]
              exact ⟨fun j hj => by rw [u2r (by omega), u2r (by omega)]; exact hi0.1 j hj, fun j hj => by rw [u2r (by omega), u2r (by omega)]; exact hi0.2.1 j hj, by rw [u2r (by omega), u2_at, hdn]⟩
            · have hq2 : RcV (u2 (u2 I (a + 9) i ((k + 1 : Nat) : Int)) a 7 (I a 7 - 1)) a R d r (k + 1) (if r < i then k + 1 else k) := hq.same (by rw [u2r (by omega), u2r (by omega)]) (by rw [u2r (by omega), u2r (by omega)]) (by rw [u2r (by omega), u2n hri])
              by_cases hri2 : r < i
              · rw [if_pos hri2] at hq2; rw [if_pos (by omega)]; exact hq2
              · rw [if_neg hri2] at hq2; rw [if_neg (by omega)]; exact hq2
