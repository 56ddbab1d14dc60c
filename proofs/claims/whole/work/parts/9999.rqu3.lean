/-! THE REFERENCE: facts within facts; ask -/
def GN (I I' : Nat → Nat → Int) : Prop := (∀ x, x ≠ 103 → I' x = I x) ∧ ∀ k, k < 26 ∨ k = 32 ∨ 33 < k → I' 103 k = I 103 k
section
variable {G : am_G} {dp : Nat} {Q : am_Q} {Z : (Nat → Nat → Option Nat) × (Nat → Nat × Nat) × Nat × Bool} {tp : Nat → Int} {n : Nat} {R : Nat → Int} {a : Int}
theorem r_goesIn {I : Nat → Nat → Int} {t : TS} {o : Int} (hd : 3 ≤ dp) (hB : TpB tp) (hM : Md (I, Z)) (hT : TbM I tp n) (hS : RdM I tp n t) (ht : Tk n t) (hw : t.2.1 = 0) (h33 : I 103 33 = o) (ho : 0 ≤ o ∧ o ≤ 6) (h : ∀ I' : Nat → Nat → Int, GN I I' → I' 103 33 = o + 1 → RdM I' tp n (if o = 6 then tF t 3 else tP tp n t) → Q (.inl none) (I', Z)) : T G dp 0 0 M9_goesIn [rV (some 103)] (I, Z) Q := by
  have e30 : (I, Z).1 103 30 = 0 := hS.2.2.2.2.2.1.trans hw
  have e33 : (I, Z).1 103 33 = o := h33
  have go : ∀ (I1 : Nat → Nat → Int) (t1 : TS), NF I I1 → RdM I1 tp n t1 → Tk n t1 → tP tp n t1 = (if o = 6 then tF t 3 else tP tp n t) → X G dp 0 0 M9_goesIn 21 [some (rV (some 103))] [] (I1, Z) Q := by
    intro I1 t1 f1 g1 k1 e1
    have e9 : (I1, Z).1 103 33 = o := by show I1 103 33 = o; rw [f1.2 33 (by omega)]; exact h33
    refine s9_goesIn_21 (by omega) hM.1 fun Q' hK => ?_
    rw [e9, wr_of (by omega) (by omega)]
    refine r_pass (t := t1) (n := n) (tp := tp) (by omega) hB ⟨hT.1, fun j hj => by dsimp only; rw [u2r (by omega), f1.1 121 (by omega)]; exact hT.2 j hj⟩ hM (g1.k (by omega)) k1 fun I2 f2 g2 => hK _ (s9_goesIn_35 (h I2 ⟨fun x hx => by rw [f2.1 x hx]; dsimp only; rw [u2r hx]; exact f1.1 x hx, fun k hk => by rw [f2.2 k (by omega)]; dsimp only; rw [u2n (by omega)]; exact f1.2 k (by omega)⟩ ?_ ?_))
    · rw [f2.2 33 (by omega)]; exact u2_at
    · rw [← e1]; exact g2
  refine T9_goesIn (s9_goesIn_0 (by omega) (am_ow hM.1) (fun q => absurd e30 q) (fun _ q => ?_) (fun _ q Q' hK => ?_))
  · rw [e33] at q
    exact go I t NF.rfl hS ht (by rw [if_neg q])
  · rw [e33] at q
    refine r_wrong (I := I) (t := t) hM hS fun I1 f1 g1 => hK _ (go I1 _ f1 g1 (ht.F ⟨by decide, by decide⟩) ?_)
    rw [if_pos q, tP_no (tF_w (by decide))]
theorem nf_back {I I1 I2 : Nat → Nat → Int} {z : Int} (f1 : GN I I1) (f2 : NF I1 I2) (hz : z = I 103 33) : NF I (u2 I2 103 33 z) := by
  refine ⟨fun x hx => by rw [u2r hx, f2.1 x hx, f1.1 x hx], fun k hk => ?_⟩
  by_cases e : k = 33
  · rw [e, u2_at, hz]
  · rw [u2n e, f2.2 k hk, f1.2 k (by omega)]
theorem r_fact {I0 : Nat → Nat → Int} (hz : SZ G) (hB : TpB tp) (hM : Md (I0, Z)) (hR : RV R) (ha : a = -1 ∨ 0 ≤ a ∧ a < R 1) (hn : n ≤ 200) : ∀ (L dp : Nat), L ≤ 6 → 10 + 3 * L ≤ dp → RcC G Z tp n R a M9_readFact (6 - (L : Int)) (pF tp n (R 0) L) (2 + 2 * L) dp := by
  intro L
  induction L with
  | zero =>
    intro dp _ hd Q I t hE hS ht h33 h34 h
    rw [pF_0] at h
    have o6 : I 103 33 = 6 := h33
    have hw : (tF t 3).2.1 ≠ 0 := tF_w (by decide)
    have k3 : Tk n (tF t 3) := ht.F ⟨by decide, by decide⟩
    by_cases e : iW tp n t (sby 34) = true
    · rw [if_pos (Or.inl e)] at h
      have w0 := (of_decide_eq_true e).1
      refine T9_readFact (s9_readFact_0 (by omega) (am_ow hM.1) fun Q' hK => r_isW (sby 34) rfl (I := I) (t := t) (n := n) hz (by omega) (by decide) hE.2.2.2 hM hS ht (hK _ _ ?_))
      rw [e]
      refine s9_readFact_7 (by omega) (am_ow hM.1) (fun q => absurd q (by decide)) (fun _ Q' hK => r_goesIn (I := I) (t := t) (o := 6) (by omega) hB hM hE.2.2.2 hS ht w0 o6 (by omega) fun I1 f1 g33 g1 => hK _ ?_)
      rw [if_pos rfl] at g1
      refine s9_readFact_14 (by omega) (am_ow hM.1) fun Q' hK => r_factW (I0 := I0) hz (by omega) hB hM hR ha _ I1 (tF t 3) (hE.fr f1.1) g1 k3 hw (by rw [f1.2 34 (by omega)]; exact h34) fun I2 v f2 g2 hv => hK _ _ ?_
      have e33 : (I2, Z).1 103 33 = 7 := by show I2 103 33 = 7; rw [f2.2 33 (by omega), g33]; rfl
      have fin : ∀ r : Int, (r = 0 ∨ r = 1) → Q (.inl (some (iV r))) (u2 I2 103 33 (wr (7 - 1)), Z) := fun r hr => h _ r (nf_back f1 f2 (by rw [o6]; rfl)) (g2.k (by omega)) hr (fun w => absurd w hw)
      refine s9_readFact_18 hM.1 (fun _ => ?_) (fun _ => ?_)
      · rw [e33]; exact fin 0 (Or.inl rfl)
      · rw [e33]; exact fin 1 (Or.inr rfl)
    · by_cases e2 : iS tp n t 123 = true
      · rw [if_pos (Or.inr e2)] at h
        have w0 := (of_decide_eq_true e2).1
        refine T9_readFact (s9_readFact_0 (by omega) (am_ow hM.1) fun Q' hK => r_isW (sby 34) rfl (I := I) (t := t) (n := n) hz (by omega) (by decide) hE.2.2.2 hM hS ht (hK _ _ ?_))
        rw [eq_false_of_ne_true e]
        refine s9_readFact_7 (by omega) (am_ow hM.1) (fun _ Q' hK => r_isSign (I := I) (n := n) (tp := tp) (t := t) hE.2.2.2 hM hS (hK _ _ ?_)) (fun q => absurd rfl q)
        rw [e2]
        refine s9_readFact_45 (by omega) (am_ow hM.1) (fun q => absurd q (by decide)) (fun _ Q' hK => r_goesIn (I := I) (t := t) (o := 6) (by omega) hB hM hE.2.2.2 hS ht w0 o6 (by omega) fun I1 f1 g33 g1 => hK _ ?_)
        rw [if_pos rfl] at g1
        refine s9_readFact_52 (by omega) (am_ow hM.1) fun Q' hK => r_testW (I0 := I0) hz (by omega) hB hM hR ha _ I1 (tF t 3) (hE.fr f1.1) g1 k3 hw (by rw [f1.2 34 (by omega)]; exact h34) fun I2 v f2 g2 hv => hK _ _ ?_
        have hE2 := (hE.fr f1.1).fr f2.1
        refine s9_readFact_56 (by omega) (am_ow hM.1) fun Q' hK => r_must (I := I2) (t := tF t 3) (c := 125) (by omega) hB hE2.2.2.2 hM g2 k3 fun I3 f3 g3 => hK _ ?_
        rw [tS_no hw] at g3
        have e33 : (I3, Z).1 103 33 = 7 := by show I3 103 33 = 7; rw [f3.2 33 (by omega), f2.2 33 (by omega), g33]; rfl
        refine s9_readFact_63 hM.1 ?_ hv
        rw [e33]
        exact h _ v (nf_back f1 (f2.tr f3) (by rw [o6]; rfl)) (g3.k (by omega)) hv (fun w => absurd w hw)
      · rw [if_neg (fun z => z.elim e e2)] at h
        exact r_factC (I := I) hz (by omega) hB hM hR hE hS ht h34 ha e e2 h
  | succ L ih =>
    intro dp hL hd Q I t hE hS ht h33 h34 h
    rw [pF_s] at h
    by_cases e : iW tp n t (sby 34) = true
    · rw [if_pos e] at h
      have w0 := (of_decide_eq_true e).1
      refine T9_readFact (s9_readFact_0 (by omega) (am_ow hM.1) fun Q' hK => r_isW (sby 34) rfl (I := I) (t := t) (n := n) hz (by omega) (by decide) hE.2.2.2 hM hS ht (hK _ _ ?_))
      rw [e]
      refine s9_readFact_7 (by omega) (am_ow hM.1) (fun q => absurd q (by decide)) (fun _ Q' hK => r_goesIn (I := I) (t := t) (o := 6 - ((L + 1 : Nat) : Int)) (by omega) hB hM hE.2.2.2 hS ht w0 h33 (by omega) fun I1 f1 g33 g1 => hK _ ?_)
      rw [if_neg (by omega)] at g1
      refine s9_readFact_14 (by omega) (am_ow hM.1) fun Q' hK => ih (dp - 1) (by omega) (by omega) _ I1 (tP tp n t) (hE.fr f1.1) g1 ht.P (by rw [g33]; omega) (by rw [f1.2 34 (by omega)]; exact h34) fun I2 v f2 g2 hv hgv => hK _ _ ?_
      have e33 : (I2, Z).1 103 33 = 6 - (L : Int) := by show I2 103 33 = _; rw [f2.2 33 (by omega), g33]; omega
      have fin : ∀ r : Int, r = 1 - v → Q (.inl (some (iV r))) (u2 I2 103 33 (wr (6 - (L : Int) - 1)), Z) := fun r hr => h _ r (nf_back f1 f2 (by rw [h33, wr_of (by omega) (by omega)]; omega)) (g2.k (by omega)) (by omega) (fun w b hb => by
        rw [hr]
        exact ((hgv w b hb).not (by omega) hv).le (by omega))
      refine s9_readFact_18 hM.1 (fun c => ?_) (fun c => ?_)
      · rw [e33]; exact fin 0 (by omega)
      · rw [e33]; exact fin 1 (by omega)
    · rw [if_neg e] at h
      by_cases e2 : iS tp n t 123 = true
      · rw [if_pos e2] at h
        have w0 := (of_decide_eq_true e2).1
        have kf := fun q => pF_k (tp := tp) (n := n) (K := R 0) L q
        have gf := pF_gd (tp := tp) (n := n) (K := R 0) L
        refine T9_readFact (s9_readFact_0 (by omega) (am_ow hM.1) fun Q' hK => r_isW (sby 34) rfl (I := I) (t := t) (n := n) hz (by omega) (by decide) hE.2.2.2 hM hS ht (hK _ _ ?_))
        rw [eq_false_of_ne_true e]
        refine s9_readFact_7 (by omega) (am_ow hM.1) (fun _ Q' hK => r_isSign (I := I) (n := n) (tp := tp) (t := t) hE.2.2.2 hM hS (hK _ _ ?_)) (fun q => absurd rfl q)
        rw [e2]
        refine s9_readFact_45 (by omega) (am_ow hM.1) (fun q => absurd q (by decide)) (fun _ Q' hK => r_goesIn (I := I) (t := t) (o := 6 - ((L + 1 : Nat) : Int)) (by omega) hB hM hE.2.2.2 hS ht w0 h33 (by omega) fun I1 f1 g33 g1 => hK _ ?_)
        rw [if_neg (by omega)] at g1
        have rt := r_test (dp := dp - 1) (I0 := I0) (f := pF tp n (R 0) L) hz (by omega) hB hM hn (r_both (dp := dp - 1 - 1) (I0 := I0) (f := pF tp n (R 0) L) hz (by omega) hB hM hn (ih (dp - 1 - 1 - 1) (by omega) (by omega)) kf gf) (fun q hh => pB_k kf hh) (pB_gd gf kf)
        refine s9_readFact_52 (by omega) (am_ow hM.1) fun Q' hK => rt _ I1 (tP tp n t) (hE.fr f1.1) g1 ht.P (by rw [g33]; omega) (by rw [f1.2 34 (by omega)]; exact h34) fun I2 v f2 g2 hv hgv => hK _ _ ?_
        have hE2 := (hE.fr f1.1).fr f2.1
        refine s9_readFact_56 (by omega) (am_ow hM.1) fun Q' hK => r_must (I := I2) (t := (pT tp n (pF tp n (R 0) L) (tP tp n t)).1) (c := 125) (by omega) hB hE2.2.2.2 hM g2 (pT_k kf ht.P) fun I3 f3 g3 => hK _ ?_
        have e33 : (I3, Z).1 103 33 = 6 - (L : Int) := by show I3 103 33 = _; rw [f3.2 33 (by omega), f2.2 33 (by omega), g33]; omega
        refine s9_readFact_63 hM.1 ?_ hv
        rw [e33]
        refine h _ v (nf_back f1 (f2.tr f3) (by rw [h33, wr_of (by omega) (by omega)]; omega)) (g3.k (by omega)) hv (fun w b hb => ?_)
        exact (hgv (tS_v w).1 b hb).le (by omega)
      · rw [if_neg e2] at h
        exact r_factC (I := I) hz (by omega) hB hM hR hE hS ht h34 ha e e2 (fun I' v f g hv hgv => h I' v f g hv (fun w b hb => (hgv w b hb).le (by omega)))
theorem r_readQuestion {I : Nat → Nat → Int} (hz : SZ G) (hd : 31 ≤ dp) (hB : TpB tp) (hM : Md (I, Z)) (hR : RV R) (hn : n ≤ 200) (hE : EnV I tp n R) (ha : a = -1 ∨ 0 ≤ a ∧ a < R 1) (h : ∀ (I' : Nat → Nat → Int) (v : Int), (∀ x, x ≠ 103 → I' x = I x) → (∀ k, k < 25 ∨ k = 32 → I' 103 k = I 103 k) → RdM I' tp n (askT tp n (R 0)).1 → (v = 0 ∨ v = 1) → ((askT tp n (R 0)).1.2.1 = 0 → ∀ b : Nat, a = b → gv R b (askT tp n (R 0)).2 v 16) → Q (.inl (some (iV v))) (I', Z)) : T G dp 0 0 M9_readQuestion [rV (some 103), iV n, iV a] (I, Z) Q := by
  have t0 : Tk n (rn blk tp n 0, 0, -1) := Tk.o
  have kf := fun q => pF_k (tp := tp) (n := n) (K := R 0) 6 q
  have gf := pF_gd (tp := tp) (n := n) (K := R 0) 6
  have hE0 : EnV (u2 I 103 34 a) tp n R := hE.fr fun x hx => u2r hx
  refine T9_readQuestion (s9_readQuestion_0 (by omega) hM.1 fun Q' hK => r_opens (I := u2 I 103 34 a) (n := n) (tp := tp) (by omega) hB hE0.2.2.2 hM fun I1 f1 f1' z33 g1 => hK _ ?_)
  have hE1 := hE0.fr f1
  have a34 : I1 103 34 = a := by rw [f1' 34 (by omega)]; exact u2_at
  have fx1 : ∀ x, x ≠ 103 → I1 x = I x := fun x hx => by rw [f1 x hx, u2r hx]
  have fk1 : ∀ k, k < 25 ∨ k = 32 → I1 103 k = I 103 k := fun k hk => by rw [f1' k (by omega), u2n (by omega)]
  have go : ∀ (I2 : Nat → Nat → Int) (t2 : TS), NF I1 I2 → RdM I2 tp n t2 → Tk n t2 → tP tp n t2 = pK tp n (rn blk tp n 0, 0, -1) → X G dp 0 0 M9_readQuestion 45 [some (rV (some 103)), some (iV n), some (iV a), none] [] (I2, Z) Q := by
    intro I2 t2 f2 g2 k2 e2
    have hE2 := hE1.fr f2.1
    refine s9_readQuestion_45 (by omega) (am_ow hM.1) fun Q' hK => r_pass (I := I2) (t := t2) (by omega) hB hE2.2.2.2 hM g2 k2 fun I3 f3 g3 => hK _ ?_
    rw [e2] at g3
    have f13 := f2.tr f3
    have rt := r_test (dp := dp - 1) (R := R) (a := a) (I0 := I) (f := pF tp n (R 0) 6) hz (by omega) hB hM hn (r_both (dp := dp - 1 - 1) (I0 := I) (f := pF tp n (R 0) 6) hz (by omega) hB hM hn (r_fact (I0 := I) hz hB hM hR ha hn 6 (dp - 1 - 1 - 1) (by omega) (by omega)) kf gf) (fun q hh => pB_k kf hh) (pB_gd gf kf)
    refine s9_readQuestion_49 (by omega) (am_ow hM.1) fun Q' hK => rt _ I3 (pK tp n (rn blk tp n 0, 0, -1)) (hE1.fr f13.1) g3 (pK_k t0) (by rw [f13.2 33 (by omega), z33]; rfl) (by rw [f13.2 34 (by omega)]; exact a34) fun I4 v f4 g4 hv hgv => hK _ _ ?_
    have f14 := f13.tr f4
    have g4 : RdM I4 tp n (pQ tp n (R 0) (rn blk tp n 0, 0, -1)).1 := g4
    have hgv : (pQ tp n (R 0) (rn blk tp n 0, 0, -1)).1.2.1 = 0 → ∀ b : Nat, a = b → gv R b (pQ tp n (R 0) (rn blk tp n 0, 0, -1)).2 v 16 := hgv
    have fx4 : ∀ x, x ≠ 103 → I4 x = I x := fun x hx => by rw [f14.1 x hx, fx1 x hx]
    have fk4 : ∀ k, k < 25 ∨ k = 32 → I4 103 k = I 103 k := fun k hk => by rw [f14.2 k (by omega), fk1 k hk]
    have e30 : (I4, Z).1 103 30 = (pQ tp n (R 0) (rn blk tp n 0, 0, -1)).1.2.1 := g4.2.2.2.2.2.1
    have e27 : (I4, Z).1 103 27 = kd tp n (pQ tp n (R 0) (rn blk tp n 0, 0, -1)).1.1 := g4.2.2.1
    unfold askT pEnd at h
    dsimp only at h
    refine s9_readQuestion_53 (by omega) (am_ow hM.1) (fun q => s9_readQuestion_73 ?_ hv) (fun q q2 => s9_readQuestion_73 ?_ hv) (fun q q2 Q' hK => ?_)
    · rw [e30] at q
      refine h I4 v fx4 fk4 ?_ hv ?_
      · by_cases z : kd tp n (pQ tp n (R 0) (rn blk tp n 0, 0, -1)).1.1 = 0
        · rw [if_pos z]; exact g4
        · rw [if_neg z, tF_no q]; exact g4
      · intro w
        by_cases z : kd tp n (pQ tp n (R 0) (rn blk tp n 0, 0, -1)).1.1 = 0
        · rw [if_pos z] at w; exact absurd w q
        · rw [if_neg z, tF_no q] at w; exact absurd w q
    · rw [e27] at q2
      rw [if_pos q2] at h
      exact h I4 v fx4 fk4 g4 hv hgv
    · rw [e27] at q2
      rw [if_neg q2] at h
      exact r_wrong (I := I4) (t := (pQ tp n (R 0) (rn blk tp n 0, 0, -1)).1) hM g4 fun I5 f5 g5 => hK _ (s9_readQuestion_73 (h I5 v (fun x hx => by rw [f5.1 x hx, fx4 x hx]) (fun k hk => by rw [f5.2 k (by omega), fk4 k hk]) g5 hv (fun w => absurd w (tF_w (by decide)))) hv)
  unfold pK at go
  refine s9_readQuestion_10 (by omega) (am_ow hM.1) fun Q' hK => r_isW (sby 31) rfl (I := I1) (t := (rn blk tp n 0, 0, -1)) (n := n) hz (by omega) (by decide) hE1.2.2.2 hM g1 t0 (hK _ _ ?_)
  by_cases e1 : iW tp n (rn blk tp n 0, 0, -1) (sby 31) = true
  · rw [if_pos (Or.inl e1)] at go
    rw [e1]
    exact s9_readQuestion_17 (by omega) (am_ow hM.1) (fun _ => go I1 _ NF.rfl g1 t0 rfl) (fun q => absurd q (by decide))
  rw [eq_false_of_ne_true e1]
  refine s9_readQuestion_17 (by omega) (am_ow hM.1) (fun q => absurd rfl q) (fun _ Q' hK => r_isW (sby 32) rfl (I := I1) (t := (rn blk tp n 0, 0, -1)) (n := n) hz (by omega) (by decide) hE1.2.2.2 hM g1 t0 (hK _ _ ?_))
  by_cases e2 : iW tp n (rn blk tp n 0, 0, -1) (sby 32) = true
  · rw [if_pos (Or.inr (Or.inl e2))] at go
    rw [e2]
    exact s9_readQuestion_27 (by omega) (am_ow hM.1) (fun _ => go I1 _ NF.rfl g1 t0 rfl) (fun q => absurd q (by decide))
  rw [eq_false_of_ne_true e2]
  refine s9_readQuestion_27 (by omega) (am_ow hM.1) (fun q => absurd rfl q) (fun _ Q' hK => r_isW (sby 33) rfl (I := I1) (t := (rn blk tp n 0, 0, -1)) (n := n) hz (by omega) (by decide) hE1.2.2.2 hM g1 t0 (hK _ _ ?_))
  by_cases e3 : iW tp n (rn blk tp n 0, 0, -1) (sby 33) = true
  · rw [if_pos (Or.inr (Or.inr e3))] at go
    rw [e3]
    exact s9_readQuestion_37 (by omega) (am_ow hM.1) (fun _ => go I1 _ NF.rfl g1 t0 rfl) (fun q => absurd q (by decide))
  rw [if_neg (fun z => z.elim e1 (fun z => z.elim e2 e3))] at go
  rw [eq_false_of_ne_true e3]
  exact s9_readQuestion_37 (by omega) (am_ow hM.1) (fun q => absurd rfl q) (fun _ Q' hK => r_wrong (I := I1) (t := (rn blk tp n 0, 0, -1)) hM g1 fun I2 f2 g2 => hK _ (go I2 _ f2 g2 (t0.F ⟨by decide, by decide⟩) (tP_no (tF_w (by decide)))))
end
