/-! THE REFERENCE: election -/
/-- the text goes on, never back -/
theorem mo_P {tp : Nat → Int} {n : Nat} {t : TS} (h : t.1 ≤ n) : t.1 ≤ (tP tp n t).1 := by
  unfold tP
  by_cases e : t.2.1 = 0
  · rw [if_pos e]; exact (nxt_b h).1
  · rw [if_neg e]; exact Nat.le_refl _
theorem mo_F {t : TS} {k : Int} : (tF t k).1 = t.1 := by
  unfold tF
  by_cases e : t.2.1 = 0
  · rw [if_pos e]
  · rw [if_neg e]
theorem mo_N {tp : Nat → Int} {n : Nat} {t : TS} {lo hi room : Int} (h : t.1 ≤ n) : t.1 ≤ (tN tp n t lo hi room).1 := by
  unfold tN
  by_cases e : iN tp n t = true
  · rw [if_pos e]
    by_cases e2 : nv tp n t.1 < lo ∨ hi < nv tp n t.1
    · rw [if_pos e2, mo_F]; exact Nat.le_refl _
    · rw [if_neg e2]
      by_cases e3 : room < nv tp n t.1
      · rw [if_pos e3, mo_F]; exact Nat.le_refl _
      · rw [if_neg e3]; exact mo_P h
  · rw [if_neg e, mo_F]; exact Nat.le_refl _
theorem mo_C {tp : Nat → Int} {n : Nat} {t : TS} {K : Int} (h : t.1 ≤ n) : t.1 ≤ (tCh tp n t K).1.1 := by
  unfold tCh
  by_cases e : iW tp n t (sby 5) = true
  · rw [if_pos e]; exact mo_P h
  · rw [if_neg e]
    by_cases e2 : iW tp n t (sby 6) = true
    · rw [if_pos e2]; exact mo_P h
    · rw [if_neg e2]; exact mo_N h
theorem mo_B {tp : Nat → Int} {n a b : Nat} {s : TR} (ht : Tk n s.1) (hR : RV s.2) : ∀ k, k ≤ rC s.2 → s.1.1 ≤ (tBr tp n a b s k).1.1 := by
  intro k
  induction k with
  | zero => exact fun _ => Nat.le_refl _
  | succ k ih =>
    intro hk
    have q := tBr_ok (tp := tp) (n := n) (a := a) (b := b) ht hR k (by omega)
    exact Nat.le_trans (ih (by omega)) (mo_C q.1.1)
theorem mo_L {tp : Nat → Int} {n : Nat} {s : TR} (ht : Tk n s.1) (hZ : RZ s.2) : s.1.1 ≤ (tLin tp n s).1.1 := by
  have p1 := mo_P (tp := tp) ht.1
  have p2 : Tk n (tP tp n s.1) := ht.P
  unfold tLin
  by_cases e1 : iW tp n s.1 (sby 4) = true
  · rw [if_pos e1]
    exact Nat.le_trans p1 (Nat.le_trans (mo_N p2.1) (mo_B (s := (tN tp n (tP tp n s.1) 1 99 (200 - s.2 1), s.2)) p2.N hZ.1 _ (Nat.le_refl _)))
  rw [if_neg e1]
  by_cases e1 : iW tp n s.1 (sby 7) = true
  · rw [if_pos e1]
    have p3 : (tP tp n s.1).1 ≤ (tP2 tp n (tP tp n s.1, s.2)).1 := Nat.le_trans (mo_N p2.1) (mo_N p2.N.1)
    refine Nat.le_trans p1 ?_
    unfold tPap
    by_cases z : tPr tp n (tP tp n s.1, s.2) < rC s.2
    · rw [if_pos z]; exact Nat.le_trans p3 (mo_C p2.N.N.1)
    · rw [if_neg z]; exact p3
  rw [if_neg e1]
  by_cases e1 : iW tp n s.1 (sby 8) = true
  · rw [if_pos e1]; exact Nat.le_trans p1 (mo_N p2.1)
  rw [if_neg e1]
  by_cases e1 : iW tp n s.1 (sby 9) = true
  · rw [if_pos e1]; exact Nat.le_trans p1 (mo_N p2.1)
  rw [if_neg e1]
  by_cases e1 : iW tp n s.1 (sby 10) = true
  · rw [if_pos e1]; exact Nat.le_trans p1 (mo_N p2.1)
  rw [if_neg e1]
  by_cases e1 : iW tp n s.1 (sby 11) = true
  · rw [if_pos e1]; exact Nat.le_trans p1 (mo_N p2.1)
  rw [if_neg e1]
  show s.1.1 ≤ (tF s.1 1).1
  rw [mo_F]
  exact Nat.le_refl _
theorem tLine_adv {tp : Nat → Int} {n : Nat} {s : TR} (ht : Tk n s.1) (hZ : RZ s.2) (h : (tLine tp n s).1.2.1 = 0) : s.1.1 < (tLine tp n s).1.1 := by
  have q : (tS tp n (tLin tp n s).1 59).2.1 = 0 := h
  have w := tS_v q
  have m := mo_L (tp := tp) ht hZ
  show s.1.1 < (tS tp n (tLin tp n s).1 59).1
  rw [w.2.2.2]
  unfold tP
  rw [if_pos w.1]
  have := nxt_lt (tp := tp) (kd_in (tp := tp) (n := n) (b := (tLin tp n s).1.1) (by omega))
  dsimp only
  omega
theorem tRcs_no {tp : Nat → Int} {n g : Nat} {s : TR} (h : ¬ iW tp n s.1 (sby 1) = true) : tRcs tp n g s = s := by
  cases g with
  | zero => rfl
  | succ g => rw [tRcs_s, if_neg h]
theorem tLns_no {tp : Nat → Int} {n g : Nat} {s : TR} (h : ¬ (s.1.2.1 = 0 ∧ kd tp n s.1.1 ≠ 0)) : tLns tp n g s = s := by
  cases g with
  | zero => rfl
  | succ g => rw [tLns_s, if_neg h]
section
variable {G : am_G} {dp : Nat} {Q : am_Q} {Z : (Nat → Nat → Option Nat) × (Nat → Nat × Nat) × Nat × Bool}
theorem r_readLine {I : Nat → Nat → Int} {tp : Nat → Int} {n : Nat} {s : TR} (hz : SZ G) (hd : 7 ≤ dp) (hB : TpB tp) (hT : TbM I tp n) (hM : Md (I, Z)) (hR : RdM I tp n s.1) (ht : Tk n s.1) (hv : RwB I s.2) (hZ : RZ s.2) (h : ∀ I' : Nat → Nat → Int, RFm I I' → RdM I' tp n (tLine tp n s).1 → ((tLine tp n s).1.2.1 = 0 → RwB I' (tLine tp n s).2) → Q (.inl none) (I', Z)) : T G dp 0 0 M9_readLine [rV (some 103)] (I, Z) Q := by
  unfold tLine tLin at h
  refine T9_readLine (s9_readLine_0 (by omega) (am_ow hM.1) fun Q' hK => r_isW (sby 4) rfl (t := s.1) (n := n) hz (by omega) (by decide) hT hM hR ht (hK _ _ ?_))
  by_cases e1 : iW tp n s.1 (sby 4) = true
  · rw [if_pos e1] at h
    rw [e1]
    exact s9_readLine_7 (by omega) (am_ow hM.1) (fun q => absurd q (by decide)) (fun _ Q' hK => r_readBallots (I := I) hz (by omega) hB hT hM hR ht hv hZ fun I1 f1 g1 v1 => hK _ (s9_readLine_14 (s9_readLine_128 (h I1 f1 g1 v1))))
  rw [if_neg e1] at h
  rw [eq_false_of_ne_true e1]
  clear e1
  refine s9_readLine_7 (by omega) (am_ow hM.1) (fun _ Q' hK => r_isW (sby 7) rfl (t := s.1) (n := n) hz (by omega) (by decide) hT hM hR ht (hK _ _ ?_)) (fun q => absurd rfl q)
  by_cases e1 : iW tp n s.1 (sby 7) = true
  · rw [if_pos e1] at h
    rw [e1]
    exact s9_readLine_24 (by omega) (am_ow hM.1) (fun q => absurd q (by decide)) (fun _ Q' hK => r_readPaper (I := I) hz (by omega) hB hT hM hR ht hv hZ fun I1 f1 g1 v1 => hK _ (s9_readLine_31 (s9_readLine_128 (h I1 f1 g1 v1))))
  rw [if_neg e1] at h
  rw [eq_false_of_ne_true e1]
  clear e1
  refine s9_readLine_24 (by omega) (am_ow hM.1) (fun _ Q' hK => r_isW (sby 8) rfl (t := s.1) (n := n) hz (by omega) (by decide) hT hM hR ht (hK _ _ ?_)) (fun q => absurd rfl q)
  by_cases e1 : iW tp n s.1 (sby 8) = true
  · rw [if_pos e1] at h
    rw [e1]
    exact s9_readLine_41 (by omega) (am_ow hM.1) (fun q => absurd q (by decide)) (fun _ Q' hK => r_readRule (I := I) (k := 2) (s := s) (by omega) (by omega) (by omega) (by omega) hB hT hM hR ht hv fun I1 f1 g1 v1 => hK _ (s9_readLine_53 (s9_readLine_128 (h I1 f1 g1 v1))))
  rw [if_neg e1] at h
  rw [eq_false_of_ne_true e1]
  clear e1
  refine s9_readLine_41 (by omega) (am_ow hM.1) (fun _ Q' hK => r_isW (sby 9) rfl (t := s.1) (n := n) hz (by omega) (by decide) hT hM hR ht (hK _ _ ?_)) (fun q => absurd rfl q)
  by_cases e1 : iW tp n s.1 (sby 9) = true
  · rw [if_pos e1] at h
    rw [e1]
    exact s9_readLine_63 (by omega) (am_ow hM.1) (fun q => absurd q (by decide)) (fun _ Q' hK => r_readRule (I := I) (k := 3) (s := s) (by omega) (by omega) (by omega) (by omega) hB hT hM hR ht hv fun I1 f1 g1 v1 => hK _ (s9_readLine_76 (s9_readLine_128 (h I1 f1 g1 v1))))
  rw [if_neg e1] at h
  rw [eq_false_of_ne_true e1]
  clear e1
  refine s9_readLine_63 (by omega) (am_ow hM.1) (fun _ Q' hK => r_isW (sby 10) rfl (t := s.1) (n := n) hz (by omega) (by decide) hT hM hR ht (hK _ _ ?_)) (fun q => absurd rfl q)
  by_cases e1 : iW tp n s.1 (sby 10) = true
  · rw [if_pos e1] at h
    rw [e1]
    exact s9_readLine_86 (by omega) (am_ow hM.1) (fun q => absurd q (by decide)) (fun _ Q' hK => r_readRule (I := I) (k := 4) (s := s) (by omega) (by omega) (by omega) (by omega) hB hT hM hR ht hv fun I1 f1 g1 v1 => hK _ (s9_readLine_98 (s9_readLine_128 (h I1 f1 g1 v1))))
  rw [if_neg e1] at h
  rw [eq_false_of_ne_true e1]
  clear e1
  refine s9_readLine_86 (by omega) (am_ow hM.1) (fun _ Q' hK => r_isW (sby 11) rfl (t := s.1) (n := n) hz (by omega) (by decide) hT hM hR ht (hK _ _ ?_)) (fun q => absurd rfl q)
  by_cases e1 : iW tp n s.1 (sby 11) = true
  · rw [if_pos e1] at h
    rw [e1]
    exact s9_readLine_108 (by omega) (am_ow hM.1) (fun q => absurd q (by decide)) (fun _ Q' hK => r_readRule (I := I) (k := 5) (s := s) (by omega) (by omega) (by omega) (by omega) hB hT hM hR ht hv fun I1 f1 g1 v1 => hK _ (s9_readLine_120 (s9_readLine_128 (h I1 f1 g1 v1))))
  rw [if_neg e1] at h
  rw [eq_false_of_ne_true e1]
  have hw : (tF s.1 1).2.1 ≠ 0 := tF_w (by decide)
  dsimp only at h
  rw [tS_no hw] at h
  exact s9_readLine_108 (by omega) (am_ow hM.1) (fun _ Q' hK => r_wrong (I := I) (t := s.1) hM hR fun I1 f1 g1 => hK _ (s9_readLine_128 (h I1 f1.rm g1 fun z => absurd z hw))) (fun q => absurd rfl q)
theorem md_bare {I : Nat → Nat → Int} {p : Nat} (hp : am_arw (I, Z) p 100 1514) (h : ∀ I' : Nat → Nat → Int, (∀ x, x ≠ p → I' x = I x) → (∀ j, j < 1514 → I' p j = row0 j) → Q (.inl none) (I', Z)) : T G dp 0 0 M9_bare [rV (some p)] (I, Z) Q := by
  have lp : ∀ (t k : Nat) (J : Nat → Nat → Int), 1514 - k = t → k ≤ 1514 → (∀ x, x ≠ p → J x = I x) → (∀ j, j < k → J p j = 0) → X G dp 0 0 M9_bare 2 [some (rV (some p)), some (iV k)] [] (J, Z) Q := by
    intro t
    induction t with
    | zero =>
      intro k J ht hk f g
      refine s9_bare_2 hp (fun _ => h _ (fun x hx => by dsimp only; rw [u2r hx, u2r hx, u2r hx]; exact f x hx) (fun j hj => ?_)) (fun q => absurd (show (1514 : Int) ≤ k by omega) q) (fun _ => by omega) (fun _ => by omega) (fun _ => by omega) (fun _ => by omega) (fun _ => by omega)
      dsimp only
      unfold row0
      by_cases j4 : j = 4
      · subst j4; rw [if_neg (by omega), if_neg (by omega), if_pos rfl]; exact u2_at
      · rw [u2n (show j ≠ ((4 : Int)).toNat from j4)]
        by_cases j3 : j = 3
        · subst j3; rw [if_neg (by omega), if_pos rfl]; exact u2_at
        · rw [u2n (show j ≠ ((3 : Int)).toNat from j3)]
          by_cases j2 : j = 2
          · subst j2; rw [if_pos rfl]; exact u2_at
          · rw [u2n (show j ≠ ((2 : Int)).toNat from j2), if_neg j2, if_neg j3, if_neg j4]
            exact g j (by omega)
    | succ t ih =>
      intro k J ht hk f g
      refine s9_bare_2 hp (fun q => absurd q (by omega)) (fun _ => ?_) (fun _ => by omega) (fun _ => by omega) (fun _ => by omega) (fun _ => by omega) (fun _ => by omega)
      rw [show wr ((k : Int) + 1) = ((k + 1 : Nat) : Int) by rw [wr_of (by omega) (by omega)]; omega, Int.toNat_natCast]
      refine ih (k + 1) _ (by omega) (by omega) (fun x hx => by dsimp only; rw [u2r hx]; exact f x hx) (fun j hj => ?_)
      dsimp only
      by_cases z : j = k
      · rw [z, u2_at]
      · rw [u2n z]; exact g j (by omega)
  exact T9_bare (s9_bare_0 (lp 1514 0 I rfl (Nat.zero_le _) (fun _ _ => rfl) (fun j hj => absurd hj (Nat.not_lt_zero _))))
theorem r_ends {I : Nat → Nat → Int} {tp : Nat → Int} {n : Nat} {t : TS} (hM : Md (I, Z)) (hR : RdM I tp n t) (ht : Tk n t) (h : ∀ I' : Nat → Nat → Int, (∀ x, x ≠ 103 → I' x = I x) → (∀ j, j ≠ 24 → j ≠ 32 → I' 103 j = I 103 j) → I' 103 24 = 0 → I' 103 32 = t.2.2 → Q (.inl (some (iV t.2.1))) (I', Z)) : T G dp 0 0 M9_ends [rV (some 103)] (I, Z) Q := by
  obtain ⟨r1, r2, r3, r4, r5, r6, r7⟩ := hR
  have e30 : ∀ z : Int, (u2 I 103 24 z) 103 30 = t.2.1 := fun z => by rw [u2n (by omega)]; exact r6
  have e31 : ∀ z : Int, (u2 I 103 24 z) 103 31 = I 103 31 := fun z => u2n (by omega)
  have e3 : ∀ z y : Int, (u2 (u2 I 103 24 z) 103 32 y) 103 30 = t.2.1 := fun z y => by rw [u2n (by omega)]; exact e30 z
  refine T9_ends (s9_ends_0 hM.1 (fun q => ?_) (fun q => ?_))
  · dsimp only at q ⊢
    rw [e30] at q
    rw [e3, e31]
    refine h _ (fun x hx => by rw [u2r hx, u2r hx]) (fun j a b => by rw [u2n b, u2n a]) (by rw [u2n (by omega), u2_at]) ?_
    rw [u2_at]; exact r7 q
  · dsimp only at q ⊢
    rw [e30] at q
    rw [e3]
    refine h _ (fun x hx => by rw [u2r hx, u2r hx]) (fun j a b => by rw [u2n b, u2n a]) (by rw [u2n (by omega), u2_at]) ?_
    rw [u2_at]; exact (ht.2.1 q).symm
theorem lp_rrc {I0 : Nat → Nat → Int} {tp : Nat → Int} {n : Nat} {x y : Nat} {i : Int} {o2 : Option am_V} {S : TR} (hz : SZ G) (hd : 7 ≤ dp) (hB : TpB tp) (hT : TbM I0 tp n) (hM : Md (I0, Z)) (h : ∀ I' : Nat → Nat → Int, RFm I0 I' → RdM I' tp n S.1 → (S.1.2.1 = 0 → RwB I' S.2) → X G dp x y M9_election 67 [some (rV (some 103)), some (iV i), o2] [] (I', Z) Q) : ∀ (mu g : Nat) (I : Nat → Nat → Int) (s : TR), (s.1.2.1 = 0 → 4 ≤ s.2 0 + mu) → mu ≤ g → tRcs tp n g s = S → RFm I0 I → RdM I tp n s.1 → Tk n s.1 → RZ s.2 → s.2 1 = 0 → (s.1.2.1 = 0 → RwB I s.2) → X G dp x y M9_election 50 [some (rV (some 103)), some (iV i), o2] [] (I, Z) Q := by
  intro mu
  induction mu with
  | zero =>
    intro g I s hm hg hS f g1 t1 t2 t3 v1
    have hc := t2.1.c
    have w : s.1.2.1 ≠ 0 := fun w => by have := hm w; omega
    have e := iW_no (tp := tp) (n := n) (l := sby 1) w
    rw [tRcs_no (by rw [e]; decide)] at hS
    subst hS
    refine s9_election_50 (by omega) (am_ow hM.1) fun Q' hK => r_isW (sby 1) rfl (t := s.1) (n := n) hz (by omega) (by decide) (hT.rm f) hM g1 t1 (hK _ _ ?_)
    rw [e]
    exact s9_election_57 (by omega) (am_ow hM.1) (fun _ => h I f g1 v1) (fun q => absurd rfl q)
  | succ mu ih =>
    intro g I s hm hg hS f g1 t1 t2 t3 v1
    have hc := t2.1.c
    refine s9_election_50 (by omega) (am_ow hM.1) fun Q' hK => r_isW (sby 1) rfl (t := s.1) (n := n) hz (by omega) (by decide) (hT.rm f) hM g1 t1 (hK _ _ ?_)
    by_cases e : iW tp n s.1 (sby 1) = true
    · have w := (of_decide_eq_true e).1
      obtain ⟨g', rfl⟩ : ∃ g', g = g' + 1 := ⟨g - 1, by omega⟩
      rw [tRcs_s, if_pos e] at hS
      have q := tRace_ok (tp := tp) t1 t2 t3
      rw [e]
      refine s9_election_57 (by omega) (am_ow hM.1) (fun q => absurd q (by decide)) (fun _ Q' hK => r_readRace (I := I) (s := s) hz (by omega) hB (hT.rm f) hM g1 t1 e (v1 w) t2 fun I1 f1 g2 v2 => hK _ (s9_election_64 ?_))
      refine ih g' I1 (tRace tp n s) (fun w2 => ?_) (by omega) hS (f.tr f1) g2 q.1 q.2.1 q.2.2 v2
      have hm := hm w
      unfold tRace at w2 ⊢
      rw [if_pos e] at w2 ⊢
      by_cases z : s.2 0 < 3
      · rw [if_pos z]
        have e9 : (tRc1 tp n (tP tp n s.1) s.2).2 0 = s.2 0 + 1 := by
          unfold tRc1 tRc2
          dsimp only
          rw [rs1_at]
        rw [e9]
        omega
      · rw [if_neg z] at w2
        exact absurd w2 (tF_w (by decide))
    · rw [tRcs_no e] at hS
      subst hS
      rw [eq_false_of_ne_true e]
      exact s9_election_57 (by omega) (am_ow hM.1) (fun _ => h I f g1 v1) (fun q => absurd rfl q)
theorem lp_rln {I0 : Nat → Nat → Int} {tp : Nat → Int} {n : Nat} {i : Int} {o2 : Option am_V} {x y : Nat} {S : TR} (hz : SZ G) (hd : 8 ≤ dp) (hB : TpB tp) (hT : TbM I0 tp n) (hM : Md (I0, Z)) (h : ∀ I' : Nat → Nat → Int, RFm I0 I' → RdM I' tp n S.1 → (S.1.2.1 = 0 → RwB I' S.2) → Tk n S.1 → ∀ Q' : am_Q, (∀ (z : Int) (m' : am_M), X G dp x y M9_election 92 [some (rV (some 103)), some (iV i), o2] [iV z] m' Q → Q' (.inl (some (iV z))) m') → T G (dp - 1) 0 0 M9_ends [rV (some 103)] (I', Z) Q') : ∀ (mu g : Nat) (I : Nat → Nat → Int) (s : TR), (s.1.2.1 = 0 → n ≤ s.1.1 + mu) → mu ≤ g → tLns tp n g s = S → RFm I0 I → RdM I tp n s.1 → Tk n s.1 → RZ s.2 → (s.1.2.1 = 0 → RwB I s.2) → X G dp x y M9_election 67 [some (rV (some 103)), some (iV i), o2] [] (I, Z) Q := by
  have out : ∀ (g : Nat) (I : Nat → Nat → Int) (s : TR), tLns tp n g s = S → RFm I0 I → RdM I tp n s.1 → Tk n s.1 → (s.1.2.1 = 0 → RwB I s.2) → ¬ (s.1.2.1 = 0 ∧ kd tp n s.1.1 ≠ 0) → X G dp x y M9_election 67 [some (rV (some 103)), some (iV i), o2] [] (I, Z) Q := by
    intro g I s hS f g1 t1 v1 hx
    rw [tLns_no hx] at hS
    subst hS
    exact s9_election_67 (by omega) (am_ow hM.1) (fun _ => h I f g1 v1 t1) (fun _ _ => h I f g1 v1 t1) (fun q q2 => absurd ⟨g1.2.2.2.2.2.1.symm.trans q, fun z => q2 (g1.2.2.1.trans z)⟩ hx)
  intro mu
  induction mu with
  | zero =>
    intro g I s hm hg hS f g1 t1 t2 v1
    exact out g I s hS f g1 t1 v1 (fun z => z.2 (kd_0.mpr (by have := hm z.1; omega)))
  | succ mu ih =>
    intro g I s hm hg hS f g1 t1 t2 v1
    by_cases e : s.1.2.1 = 0 ∧ kd tp n s.1.1 ≠ 0
    · obtain ⟨g', rfl⟩ : ∃ g', g = g' + 1 := ⟨g - 1, by omega⟩
      rw [tLns_s, if_pos e] at hS
      have q := tLine_ok (tp := tp) t1 t2
      refine s9_election_67 (by omega) (am_ow hM.1) (fun q => absurd (g1.2.2.2.2.2.1.trans e.1) q) (fun _ q => absurd (g1.2.2.1.symm.trans q) e.2) (fun _ _ Q' hK => r_readLine (I := I) (s := s) hz (by omega) hB (hT.rm f) hM g1 t1 (v1 e.1) t2 fun I1 f1 g2 v2 => hK _ (s9_election_85 ?_))
      refine ih g' I1 (tLine tp n s) (fun w2 => ?_) (by omega) hS (f.tr f1) g2 q.1 q.2.1 v2
      have a := tLine_adv t1 t2 w2
      have := hm e.1
      omega
    · exact out g I s hS f g1 t1 v1 e
/-- what a text changes in the reference, its rows aside -/
def XF (I I' : Nat → Nat → Int) : Prop := (∀ x, x ≠ 103 → x ≠ 104 → x ≠ 105 → I' x = I x) ∧ ∀ j, j = 5 ∨ j = 22 → I' 103 j = I 103 j
theorem r_election {R : Nat → Int} {na m : Nat} {Pa : Nat → Nat → Int} {I : Nat → Nat → Int} {tp : Nat → Int} {i : Int} (hz : SZ G) (hd : 9 ≤ dp) (hM : Md (I, Z)) (hv : RowV I R) (hp : PaV I na Pa) (hB : TpB tp) (hT : TpM I tp m) (h1 : ¬ (0 ≤ i ∧ i ≤ m) → ∀ I' : Nat → Nat → Int, MF I I' → I' 103 7 = 1 → Q (.inl (some (iV 0))) (I', Z)) (hF : ∀ n : Nat, i = n → n ≤ m → (tTell tp n).1.2.1 ≠ 0 → ∀ I' : Nat → Nat → Int, XF I I' → I' 103 7 = 0 → RowV I' R → PaV I' na Pa → I' 103 24 = 0 → I' 103 32 = (tTell tp n).1.2.2 → Q (.inl (some (iV (-10 - (tTell tp n).1.2.1)))) (I', Z)) (h0 : ∀ n : Nat, i = n → n ≤ m → (tTell tp n).1.2.1 = 0 → ∀ I' : Nat → Nat → Int, XF I I' → I' 103 7 = 0 → RowV I' (tTell tp n).2 → PaV I' 0 Pa → I' 103 24 = 0 → I' 103 32 = -1 → Q (.inl (some (iV ((tTell tp n).2 1)))) (I', Z)) : T G dp 4 24 M9_election [rV (some 103), iV i] (I, Z) Q := by
  have e24 : (u2 (I, Z).1 103 7 0) 103 24 = m := by rw [u2n (by omega)]; exact hT.1
  refine T9_election (s9_election_0 (by omega) hM.1 hM.read.1 (fun q Q' hK => md_fail1 (I := I) hM MF.code fun I' a b => hK _ _ (s9_election_22 (h1 (by omega) I' a b))) (fun q q2 Q' hK => ?_) (fun _ q Q' hK => md_fail1 (I := I) hM MF.code fun I' a b => hK _ _ (s9_election_22 (h1 (by rw [e24] at q; omega) I' a b))))
  rw [e24] at q2
  obtain ⟨n, rfl⟩ : ∃ n : Nat, i = n := ⟨i.toNat, by omega⟩
  have hnm : n ≤ m := by omega
  have hF := hF n rfl hnm
  have h0 := h0 n rfl hnm
  have ok := tTell_ok (tp := tp) (n := n)
  have hm6 := hT.2.1
  refine md_bare hM.read.2 fun I1 f1 g1 => hK _ ?_
  have hT1 : TbM I1 tp n := ⟨by omega, fun j hj => by rw [f1 121 (by omega), u2r (by omega)]; exact hT.2.2 j (by omega)⟩
  refine s9_election_30 (by omega) (am_ow hM.1) fun Q' hK => r_opens (I := I1) (n := n) (tp := tp) (by omega) hB hT1 hM fun I2 f2 f2' _ g2 => hK _ ?_
  have t0 : Tk n (rn blk tp n 0, 0, -1) := Tk.o
  have hT2 : TbM I2 tp n := ⟨by omega, fun j hj => by rw [f2 121 (by omega)]; exact hT1.2 j hj⟩
  have v2 : RwB I2 row0 := fun j hj => by rw [f2 105 (by omega)]; exact g1 j hj
  have fin : ∀ (I3 : Nat → Nat → Int), RFm I2 I3 → RdM I3 tp n (tTell tp n).1 → ((tTell tp n).1.2.1 = 0 → RwB I3 (tTell tp n).2) → Tk n (tTell tp n).1 → ∀ Q' : am_Q, (∀ (z : Int) (m' : am_M), X G dp 4 24 M9_election 92 [some (rV (some 103)), some (iV n), none] [iV z] m' Q → Q' (.inl (some (iV z))) m') → T G (dp - 1) 0 0 M9_ends [rV (some 103)] (I3, Z) Q' := by
    intro I3 f3 g3 v3 k3 Q' hK
    refine r_ends (t := (tTell tp n).1) hM g3 k3 fun I4 f4 f4' a24 a32 => hK _ _ ?_
    have fx : ∀ x, x ≠ 103 → x ≠ 105 → I4 x = I x := fun x a b => by rw [f4 x a, f3.1 x a b, f2 x a, f1 x b, u2r a]
    have fj : ∀ j, j < 24 → I4 103 j = (u2 I 103 7 0) 103 j := fun j hj => by rw [f4' j (by omega) (by omega), f3.2 j (by omega), f2' j (by omega), f1 103 (by omega)]
    by_cases w : (tTell tp n).1.2.1 = 0
    · rw [w]
      refine s9_election_92 (by omega) (am_ow hM.1) hM.row.1 hM.read.1 (fun _ Q' hK => md_copy (I := I4) hM.row.2 (am_rw hM.read.2) (by omega) fun I5 f5 g5 => hK _ ?_) (fun q => absurd rfl q)
      have r5 : RowV I5 (tTell tp n).2 := fun j hj => by rw [g5 j hj, f4 105 (by omega)]; exact v3 w j hj
      refine s9_election_113 (by omega) hM.1 fun Q' hK => md_ballots (R := (tTell tp n).2) hM (fun j hj => by dsimp only; rw [u2r (by omega)]; exact r5 j hj) (hK _ _ (s9_election_122 ?_))
      have fy : ∀ j, j ≠ 6 → (u2 I5 103 6 0) 103 j = I4 103 j := fun j hj => by rw [u2n hj, f5 103 (by omega)]
      refine h0 w _ ⟨fun x a b c => by rw [u2r a]; exact (f5 x b).trans (fx x a c), fun j hj => by rw [fy j (by omega), fj j (by omega), u2n (by omega)]⟩ (by rw [fy 7 (by omega), fj 7 (by omega), u2_at]) (fun j hj => by rw [u2r (by omega)]; exact r5 j hj) ⟨u2_at, by omega, fun j hj => absurd hj (Nat.not_lt_zero _)⟩ (by rw [fy 24 (by omega)]; exact a24) ?_
      rw [fy 32 (by omega), a32]
      exact ok.1.2.1 w
    · refine s9_election_92 (by omega) (am_ow hM.1) hM.row.1 hM.read.1 (fun q => absurd q w) (fun _ => ?_)
      have := ok.1.2.2
      rw [wr_of (by omega) (by omega)]
      refine hF w I4 ⟨fun x a b c => fx x a c, fun j hj => by rw [fj j (by omega), u2n (by omega)]⟩ (by rw [fj 7 (by omega), u2_at]) (fun j hj => by rw [fx 104 (by omega) (by omega)]; exact hv j hj) ⟨by rw [fj 6 (by omega), u2n (by omega)]; exact hp.1, hp.2.1, fun j hj i hi => by rw [fx 108 (by omega) (by omega)]; exact hp.2.2 j hj i hi⟩ a24 a32
  have rl : ∀ (I3 : Nat → Nat → Int), RFm I2 I3 → RdM I3 tp n (tRcs tp n 600 (tRace tp n ((rn blk tp n 0, 0, -1), row0))).1 → ((tRcs tp n 600 (tRace tp n ((rn blk tp n 0, 0, -1), row0))).1.2.1 = 0 → RwB I3 (tRcs tp n 600 (tRace tp n ((rn blk tp n 0, 0, -1), row0))).2) → X G dp 4 24 M9_election 67 [some (rV (some 103)), some (iV n), none] [] (I3, Z) Q := by
    intro I3 f3 g3 v3
    have q := tRace_ok (tp := tp) (n := n) (s := ((rn blk tp n 0, 0, -1), row0)) t0 row0_ok.1 row0_ok.2.1
    have q2 := tRcs_ok (tp := tp) (n := n) 600 _ q.1 q.2.1 q.2.2
    exact lp_rln (I0 := I2) (tp := tp) (n := n) (S := tTell tp n) hz (by omega) hB hT2 hM fin 600 600 I3 _ (fun _ => by omega) (Nat.le_refl _) rfl f3 g3 q2.1 q2.2.1 v3
  refine s9_election_35 (by omega) (am_ow hM.1) fun Q' hK => r_isW (sby 1) rfl (t := (rn blk tp n 0, 0, -1)) (n := n) hz (by omega) (by decide) hT2 hM g2 t0 (hK _ _ ?_)
  by_cases e : iW tp n (rn blk tp n 0, 0, -1) (sby 1) = true
  · rw [e]
    refine s9_election_42 (by omega) (am_ow hM.1) (fun _ => ?_) (fun q => absurd q (by decide))
    refine lp_rrc (I0 := I2) (tp := tp) (n := n) (S := tRcs tp n 600 (tRace tp n ((rn blk tp n 0, 0, -1), row0))) hz (by omega) hB hT2 hM rl 4 601 I2 ((rn blk tp n 0, 0, -1), row0) (fun _ => by show 4 ≤ row0 0 + _; rw [row0_ok.2.2]; decide) (by omega) ?_ ⟨fun _ _ _ => rfl, fun _ _ => rfl⟩ g2 t0 row0_ok.1 row0_ok.2.1 (fun _ => v2)
    rw [tRcs_s, if_pos e]
  · rw [eq_false_of_ne_true e]
    refine s9_election_42 (by omega) (am_ow hM.1) (fun q => absurd rfl q) (fun _ Q' hK => r_wrong (I := I2) (t := (rn blk tp n 0, 0, -1)) hM g2 fun I3 f3 g3 => hK _ ?_)
    have er : tRace tp n ((rn blk tp n 0, 0, -1), row0) = (tF (rn blk tp n 0, 0, -1) 1, row0) := by unfold tRace; rw [if_neg e]
    have hw : (tF (rn blk tp n 0, 0, -1) 1).2.1 ≠ 0 := tF_w (by decide)
    refine lp_rrc (I0 := I2) (tp := tp) (n := n) (S := tRcs tp n 600 (tRace tp n ((rn blk tp n 0, 0, -1), row0))) hz (by omega) hB hT2 hM rl 0 600 I3 (tF (rn blk tp n 0, 0, -1) 1, row0) (fun z => absurd z hw) (by omega) ?_ f3.rm g3 (t0.F ⟨by decide, by decide⟩) row0_ok.1 row0_ok.2.1 (fun z => absurd z hw)
    rw [er]
end
