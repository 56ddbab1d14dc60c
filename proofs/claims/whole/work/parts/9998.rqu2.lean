/-! THE REFERENCE: facts, tests -/
def RcC (G : am_G) (Z : (Nat → Nat → Option Nat) × (Nat → Nat × Nat) × Nat × Bool) (tp : Nat → Int) (n : Nat) (R : Nat → Int) (a : Int) (M : am_Me) (o : Int) (f : TS → TC) (H dp : Nat) : Prop := ∀ (Q : am_Q) (I : Nat → Nat → Int) (t : TS), EnV I tp n R → RdM I tp n t → Tk n t → I 103 33 = o → I 103 34 = a → (∀ (I' : Nat → Nat → Int) (v : Int), NF I I' → RdM I' tp n (f t).1 → (v = 0 ∨ v = 1) → ((f t).1.2.1 = 0 → ∀ b : Nat, a = b → gv R b (f t).2 v H) → Q (.inl (some (iV v))) (I', Z)) → T G dp 0 0 M [rV (some 103)] (I, Z) Q
def RwC (G : am_G) (Z : (Nat → Nat → Option Nat) × (Nat → Nat × Nat) × Nat × Bool) (tp : Nat → Int) (n : Nat) (R : Nat → Int) (a : Int) (M : am_Me) (dp : Nat) : Prop := ∀ (Q : am_Q) (I : Nat → Nat → Int) (t : TS), EnV I tp n R → RdM I tp n t → Tk n t → t.2.1 ≠ 0 → I 103 34 = a → (∀ (I' : Nat → Nat → Int) (v : Int), NF I I' → RdM I' tp n t → (v = 0 ∨ v = 1) → Q (.inl (some (iV v))) (I', Z)) → T G dp 0 0 M [rV (some 103)] (I, Z) Q
theorem b10_t {c : Prop} [Decidable c] (h : c) : b10 c = 1 := if_pos h
theorem b10_f {c : Prop} [Decidable c] (h : ¬ c) : b10 c = 0 := if_neg h
theorem and01 {v w : Int} (hv : v = 0 ∨ v = 1) (hw : w = 0 ∨ w = 1) : sov 10 v w = if v = 1 ∧ w = 1 then 1 else 0 := by
  rcases hv with rfl | rfl <;> rcases hw with rfl | rfl <;> decide
theorem or01 {v w : Int} (hv : v = 0 ∨ v = 1) (hw : w = 0 ∨ w = 1) : sov 11 v w = if v = 1 ∨ w = 1 then 1 else 0 := by
  rcases hv with rfl | rfl <;> rcases hw with rfl | rfl <;> decide
section
variable {G : am_G} {dp : Nat} {Q : am_Q} {Z : (Nat → Nat → Option Nat) × (Nat → Nat × Nat) × Nat × Bool} {tp : Nat → Int} {n : Nat} {R : Nat → Int} {a : Int}
theorem r_cmpX {I : Nat → Nat → Int} {t : TS} (hz : SZ G) (hd : 7 ≤ dp) (hB : TpB tp) (hM : Md (I, Z)) (hR : RV R) (hE : EnV I tp n R) (hS : RdM I tp n t) (ht : Tk n t) (h34 : I 103 34 = a) (ha : a = -1 ∨ 0 ≤ a ∧ a < R 1) (h : ∀ (I' : Nat → Nat → Int) (v : Int), NF I I' → RdM I' tp n (pC tp n (R 0) t).1 → (v = 0 ∨ v = 1) → ((pC tp n (R 0) t).1.2.1 = 0 → ∀ b : Nat, a = b → gv R b (pC tp n (R 0) t).2 v 2) → Q (.inl (some (iV v))) (I', Z)) : X G dp 0 0 M9_readFact 45 [some (rV (some 103)), none, none, none] [iV 0] (I, Z) Q := by
  unfold pC at h
  dsimp only at h
  refine s9_readFact_45 (by omega) (am_ow hM.1) (fun _ Q' hK => r_readValue (I := I) hz (by omega) hB hM hR hE hS ht h34 ha fun I1 v1 f1 g1 hv1 => hK _ _ ?_) (fun q => absurd rfl q)
  have t1 : Tk n (pV tp n (R 0) t).1 := ht.V
  have hE1 := hE.fr f1.1
  have tail : ∀ (I2 : Nat → Nat → Int) (t2 : TS) (sg9 : Int), NF I I2 → RdM I2 tp n t2 → Tk n t2 → tP tp n t2 = (pOp tp n (pV tp n (R 0) t).1).1 → ((pOp tp n (pV tp n (R 0) t).1).1.2.1 = 0 → (pOp tp n (pV tp n (R 0) t).1).2 = (if sg9 < 0 then 6 else if sg9 = 0 then 7 else 8)) → X G dp 0 0 M9_readFact 131 [some (rV (some 103)), some (iV v1), some (iV sg9), none] [] (I2, Z) Q := by
    intro I2 t2 sg9 f2 g2 k2 e2 hop
    have hE2 := hE.fr f2.1
    refine s9_readFact_131 (by omega) (am_ow hM.1) fun Q' hK => r_pass (I := I2) (t := t2) (by omega) hB hE2.2.2.2 hM g2 k2 fun I3 f3 g3 => hK _ ?_
    rw [e2] at g3
    have f13 := f2.tr f3
    refine s9_readFact_135 (by omega) (am_ow hM.1) fun Q' hK => r_readValue (I := I3) hz (by omega) hB hM hR (hE.fr f13.1) g3 t1.O (by rw [f13.2 34 (by omega)]; exact h34) ha fun I4 v2 f4 g4 hv2 => hK _ _ ?_
    have f14 := f13.tr f4
    have go : ∀ r : Int, (r = 0 ∨ r = 1) → (r = sov (if sg9 < 0 then 6 else if sg9 = 0 then 7 else 8) v1 v2) → Q (.inl (some (iV r))) (I4, Z) := fun r hr he => h I4 r f14 g4 hr (fun w b hb => by
      have w2 := (pV_gd (tp := tp) (n := n) (K := R 0) _ t1.O w).1
      have w1 := (pOp_adv w2).1
      have hop := hop w2
      rw [he, ← hop]
      exact gv.two (hv1 w1 b hb) (hv2 w b hb) (by have := (pOp_adv w2).2.2; omega) (by have := (pOp_adv w2).2.2; omega))
    unfold sov at go
    refine s9_readFact_139 (fun c1 c2 c3 => ?_) (fun c1 c2 c3 => ?_) (fun c1 c2 c3 => ?_) (fun c1 c2 c3 => ?_) (fun c1 c3 => ?_) (fun c1 c3 => ?_)
    · exact go 0 (Or.inl rfl) (by rw [if_neg (show ¬ sg9 < 0 by omega), if_neg c2, if_neg (by decide), if_neg (by decide), if_pos rfl, b10_f (by omega)])
    · exact go 1 (Or.inr rfl) (by rw [if_neg (show ¬ sg9 < 0 by omega), if_neg c2, if_neg (by decide), if_neg (by decide), if_pos rfl, b10_t (by omega)])
    · exact go 0 (Or.inl rfl) (by rw [if_neg (show ¬ sg9 < 0 by omega), if_pos c2, if_neg (by decide), if_pos rfl, b10_f c3])
    · exact go 1 (Or.inr rfl) (by rw [if_neg (show ¬ sg9 < 0 by omega), if_pos c2, if_neg (by decide), if_pos rfl, b10_t c3])
    · exact go 0 (Or.inl rfl) (by rw [if_pos (show sg9 < 0 by omega), if_pos rfl, b10_f (by omega)])
    · exact go 1 (Or.inr rfl) (by rw [if_pos (show sg9 < 0 by omega), if_pos rfl, b10_t (by omega)])
  refine s9_readFact_79 (by omega) (am_ow hM.1) fun Q' hK => r_isSign (I := I1) (n := n) (tp := tp) (t := (pV tp n (R 0) t).1) hE1.2.2.2 hM g1 (hK _ _ ?_)
  unfold pOp at tail
  by_cases e1 : iS tp n (pV tp n (R 0) t).1 60 = true
  · rw [if_pos e1] at tail
    rw [e1]
    exact s9_readFact_86 (by omega) (am_ow hM.1) (fun q => absurd q (by decide)) (fun _ => tail I1 _ (-1) f1 g1 t1 rfl (fun _ => rfl))
  rw [if_neg e1] at tail
  rw [eq_false_of_ne_true e1]
  refine s9_readFact_86 (by omega) (am_ow hM.1) (fun _ Q' hK => r_isSign (I := I1) (n := n) (tp := tp) (t := (pV tp n (R 0) t).1) hE1.2.2.2 hM g1 (hK _ _ ?_)) (fun q => absurd rfl q)
  by_cases e2 : iS tp n (pV tp n (R 0) t).1 61 = true
  · rw [if_neg (iS_ex e2 (by decide))] at tail
    rw [e2]
    refine s9_readFact_99 (by omega) (am_ow hM.1) (fun q => absurd q (by decide)) (fun _ => tail I1 _ 0 f1 g1 t1 ?_ (fun _ => rfl))
    unfold tS
    rw [if_pos e2]
  rw [eq_false_of_ne_true e2]
  refine s9_readFact_99 (by omega) (am_ow hM.1) (fun _ Q' hK => r_isSign (I := I1) (n := n) (tp := tp) (t := (pV tp n (R 0) t).1) hE1.2.2.2 hM g1 (hK _ _ ?_)) (fun q => absurd rfl q)
  by_cases e3 : iS tp n (pV tp n (R 0) t).1 62 = true
  · rw [if_pos e3] at tail
    rw [e3]
    exact s9_readFact_112 (by omega) (am_ow hM.1) (fun q => absurd q (by decide)) (fun _ => tail I1 _ 1 f1 g1 t1 rfl (fun _ => rfl))
  rw [if_neg e3] at tail
  rw [eq_false_of_ne_true e3]
  have hw : (tF (pV tp n (R 0) t).1 1).2.1 ≠ 0 := tF_w (by decide)
  have es : tS tp n (pV tp n (R 0) t).1 61 = tF (pV tp n (R 0) t).1 1 := by unfold tS; rw [if_neg e2]
  refine s9_readFact_112 (by omega) (am_ow hM.1) (fun _ Q' hK => r_wrong (I := I1) (t := (pV tp n (R 0) t).1) hM g1 fun I2 f2 g2 => hK _ (tail I2 _ 2 (f1.tr f2) g2 (t1.F ⟨by decide, by decide⟩) ?_ (fun w => ?_))) (fun q => absurd rfl q)
  · rw [tP_no hw, es]
  · rw [es] at w; exact absurd w hw
/-- a fact that is a comparison -/
theorem r_factC {I : Nat → Nat → Int} {t : TS} (hz : SZ G) (hd : 7 ≤ dp) (hB : TpB tp) (hM : Md (I, Z)) (hR : RV R) (hE : EnV I tp n R) (hS : RdM I tp n t) (ht : Tk n t) (h34 : I 103 34 = a) (ha : a = -1 ∨ 0 ≤ a ∧ a < R 1) (n1 : ¬ iW tp n t (sby 34) = true) (n2 : ¬ iS tp n t 123 = true) (h : ∀ (I' : Nat → Nat → Int) (v : Int), NF I I' → RdM I' tp n (pC tp n (R 0) t).1 → (v = 0 ∨ v = 1) → ((pC tp n (R 0) t).1.2.1 = 0 → ∀ b : Nat, a = b → gv R b (pC tp n (R 0) t).2 v 2) → Q (.inl (some (iV v))) (I', Z)) : T G dp 0 0 M9_readFact [rV (some 103)] (I, Z) Q := by
  refine T9_readFact (s9_readFact_0 (by omega) (am_ow hM.1) fun Q' hK => r_isW (sby 34) rfl (I := I) (t := t) (n := n) hz (by omega) (by decide) hE.2.2.2 hM hS ht (hK _ _ ?_))
  rw [eq_false_of_ne_true n1]
  refine s9_readFact_7 (by omega) (am_ow hM.1) (fun _ Q' hK => r_isSign (I := I) (n := n) (tp := tp) (t := t) hE.2.2.2 hM hS (hK _ _ ?_)) (fun q => absurd rfl q)
  rw [eq_false_of_ne_true n2]
  exact r_cmpX hz hd hB hM hR hE hS ht h34 ha h
theorem r_factW {I0 : Nat → Nat → Int} (hz : SZ G) (hd : 7 ≤ dp) (hB : TpB tp) (hM : Md (I0, Z)) (hR : RV R) (ha : a = -1 ∨ 0 ≤ a ∧ a < R 1) : RwC G Z tp n R a M9_readFact dp := by
  intro Q I t hE hS ht hw h34 h
  exact r_factC (I := I) hz hd hB hM hR hE hS ht h34 ha (by rw [iW_no hw]; decide) (by rw [iS_no hw]; decide) (fun I' v f g hv _ => h I' v f (by rw [pC_no hw] at g; exact g) hv)
theorem r_bothW {I0 : Nat → Nat → Int} (hz : SZ G) (hd : 8 ≤ dp) (hB : TpB tp) (hM : Md (I0, Z)) (hR : RV R) (ha : a = -1 ∨ 0 ≤ a ∧ a < R 1) : RwC G Z tp n R a M9_readBoth dp := by
  intro Q I t hE hS ht hw h34 h
  refine T9_readBoth (s9_readBoth_0 (by omega) (am_ow hM.1) fun Q' hK => r_factW (I0 := I0) hz (by omega) hB hM hR ha _ I t hE hS ht hw h34 fun I1 v f1 g1 hv => hK _ _ (s9_readBoth_4 ?_))
  refine s9_readBoth_5 (by omega) (am_ow hM.1) fun Q' hK => r_isW (sby 42) rfl (I := I1) (t := t) (n := n) hz (by omega) (by decide) (hE.fr f1.1).2.2.2 hM g1 ht (hK _ _ ?_)
  rw [iW_no hw]
  exact s9_readBoth_12 (by omega) (am_ow hM.1) (fun _ => h I1 v f1 g1 hv) (fun q => absurd rfl q) (fun _ => hv)
theorem r_testW {I0 : Nat → Nat → Int} (hz : SZ G) (hd : 9 ≤ dp) (hB : TpB tp) (hM : Md (I0, Z)) (hR : RV R) (ha : a = -1 ∨ 0 ≤ a ∧ a < R 1) : RwC G Z tp n R a M9_readTest dp := by
  intro Q I t hE hS ht hw h34 h
  refine T9_readTest (s9_readTest_0 (by omega) (am_ow hM.1) fun Q' hK => r_bothW (I0 := I0) hz (by omega) hB hM hR ha _ I t hE hS ht hw h34 fun I1 v f1 g1 hv => hK _ _ (s9_readTest_4 ?_))
  refine s9_readTest_5 (by omega) (am_ow hM.1) fun Q' hK => r_isW (sby 43) rfl (I := I1) (t := t) (n := n) hz (by omega) (by decide) (hE.fr f1.1).2.2.2 hM g1 ht (hK _ _ ?_)
  rw [iW_no hw]
  exact s9_readTest_12 (by omega) (am_ow hM.1) (fun _ => h I1 v f1 g1 hv) (fun q => absurd rfl q) (fun _ => hv)
theorem r_both {I0 : Nat → Nat → Int} {o : Int} {f : TS → TC} {H : Nat} (hz : SZ G) (hd : 6 ≤ dp) (hB : TpB tp) (hM : Md (I0, Z)) (hn : n ≤ 200) (hf : RcC G Z tp n R a M9_readFact o f H (dp - 1)) (hkf : ∀ t, Tk n t → Tk n (f t).1) (hgf : GdF n (R 0) f) : RcC G Z tp n R a M9_readBoth o (pB tp n f) (H + 1) dp := by
  intro Q I t hE hS ht h33 h34 h
  have lp : ∀ (mu g : Nat) (J : Nat → Nat → Int) (s : TC) (v : Int) (o2 : Option am_V), (s.1.2.1 = 0 → n ≤ s.1.1 + mu) → mu ≤ g → lpA tp n f (sby 42) 10 g s = pB tp n f t → NF I J → RdM J tp n s.1 → Tk n s.1 → (v = 0 ∨ v = 1) → (s.1.2.1 = 0 → ∀ b : Nat, a = b → gv R b s.2 v (H + 1)) → X G dp 0 0 M9_readBoth 5 [some (rV (some 103)), some (iV v), o2] [] (J, Z) Q := by
    have out : ∀ (g : Nat) (J : Nat → Nat → Int) (s : TC) (v : Int) (o2 : Option am_V), ¬ iW tp n s.1 (sby 42) = true → lpA tp n f (sby 42) 10 g s = pB tp n f t → NF I J → RdM J tp n s.1 → Tk n s.1 → (v = 0 ∨ v = 1) → (s.1.2.1 = 0 → ∀ b : Nat, a = b → gv R b s.2 v (H + 1)) → X G dp 0 0 M9_readBoth 5 [some (rV (some 103)), some (iV v), o2] [] (J, Z) Q := by
      intro g J s v o2 e hs fJ g1 t1 hv hg
      rw [lpA_no e] at hs
      subst hs
      refine s9_readBoth_5 (by omega) (am_ow hM.1) fun Q' hK => r_isW (sby 42) rfl (I := J) (t := (pB tp n f t).1) (n := n) hz (by omega) (by decide) (hE.fr fJ.1).2.2.2 hM g1 t1 (hK _ _ ?_)
      rw [eq_false_of_ne_true e]
      exact s9_readBoth_12 (by omega) (am_ow hM.1) (fun _ => h J v fJ g1 hv hg) (fun q => absurd rfl q) (fun _ => hv)
    intro mu
    induction mu with
    | zero =>
      intro g J s v o2 hm hg9 hs fJ g1 t1 hv hg
      refine out g J s v o2 (fun e => ?_) hs fJ g1 t1 hv hg
      have q := of_decide_eq_true e
      have := kd_in (tp := tp) (n := n) (b := s.1.1) (by omega)
      have := hm q.1
      omega
    | succ mu ih =>
      intro g J s v o2 hm hg9 hs fJ g1 t1 hv hg
      by_cases e : iW tp n s.1 (sby 42) = true
      · obtain ⟨g', rfl⟩ : ∃ g', g = g' + 1 := ⟨g - 1, by omega⟩
        rw [lpA_s, if_pos e] at hs
        have ad := iW_adv e
        have hEJ := hE.fr fJ.1
        refine s9_readBoth_5 (by omega) (am_ow hM.1) fun Q' hK => r_isW (sby 42) rfl (I := J) (t := s.1) (n := n) hz (by omega) (by decide) hEJ.2.2.2 hM g1 t1 (hK _ _ ?_)
        rw [e]
        refine s9_readBoth_12 (by omega) (am_ow hM.1) (fun q => absurd q (by decide)) (fun _ Q' hK => r_pass (I := J) (t := s.1) (by omega) hB hEJ.2.2.2 hM g1 t1 fun J1 f1 g2 => hK _ ?_) (fun q => absurd q (by decide))
        have f01 := fJ.tr f1
        refine s9_readBoth_19 (by omega) (am_ow hM.1) fun Q' hK => hf _ J1 (tP tp n s.1) (hE.fr f01.1) g2 t1.P (by rw [f01.2 33 (by omega)]; exact h33) (by rw [f01.2 34 (by omega)]; exact h34) fun J2 w f2 g3 hw hgw => hK _ _ ?_
        have f02 := f01.tr f2
        have go : ∀ r : Int, (r = 0 ∨ r = 1) → r = sov 10 v w → X G dp 0 0 M9_readBoth 5 [some (rV (some 103)), some (iV r), some (iV w)] [] (J2, Z) Q := fun r hr he => by
          refine ih g' J2 ((f (tP tp n s.1)).1, s.2 ++ ((f (tP tp n s.1)).2 ++ [(10, 0)])) r _ (fun w9 => ?_) (by omega) hs f02 g3 (hkf _ t1.P) hr (fun w9 b hb => ?_)
          · have q := hgf (tP tp n s.1) t1.P w9
            have := hm ad.1
            dsimp only
            omega
          · rw [he]
            exact gv.two2 (hg ad.1 b hb) (hgw w9 b hb) (by decide) (by decide)
        refine s9_readBoth_23 (fun c => go 0 (Or.inl rfl) ?_) (fun c c2 => go 0 (Or.inl rfl) ?_) (fun c c2 => go 1 (Or.inr rfl) ?_)
        · rw [and01 hv hw, if_neg (by omega)]
        · rw [and01 hv hw, if_neg (by omega)]
        · rw [and01 hv hw, if_pos (by omega)]
      · exact out g J s v o2 e hs fJ g1 t1 hv hg
  refine T9_readBoth (s9_readBoth_0 (by omega) (am_ow hM.1) fun Q' hK => hf _ I t hE hS ht h33 h34 fun J1 v f1 g1 hv hgv => hK _ _ (s9_readBoth_4 ?_))
  exact lp 200 200 J1 (f t) v _ (fun _ => by omega) (Nat.le_refl _) rfl f1 g1 (hkf t ht) hv (fun w b hb => (hgv w b hb).le (by omega))
theorem r_test {I0 : Nat → Nat → Int} {o : Int} {f : TS → TC} {H : Nat} (hz : SZ G) (hd : 6 ≤ dp) (hB : TpB tp) (hM : Md (I0, Z)) (hn : n ≤ 200) (hf : RcC G Z tp n R a M9_readBoth o (pB tp n f) H (dp - 1)) (hkf : ∀ t, Tk n t → Tk n (pB tp n f t).1) (hgf : GdF n (R 0) (pB tp n f)) : RcC G Z tp n R a M9_readTest o (pT tp n f) (H + 1) dp := by
  intro Q I t hE hS ht h33 h34 h
  have lp : ∀ (mu g : Nat) (J : Nat → Nat → Int) (s : TC) (v : Int) (o2 : Option am_V), (s.1.2.1 = 0 → n ≤ s.1.1 + mu) → mu ≤ g → lpA tp n (pB tp n f) (sby 43) 11 g s = pT tp n f t → NF I J → RdM J tp n s.1 → Tk n s.1 → (v = 0 ∨ v = 1) → (s.1.2.1 = 0 → ∀ b : Nat, a = b → gv R b s.2 v (H + 1)) → X G dp 0 0 M9_readTest 5 [some (rV (some 103)), some (iV v), o2] [] (J, Z) Q := by
    have out : ∀ (g : Nat) (J : Nat → Nat → Int) (s : TC) (v : Int) (o2 : Option am_V), ¬ iW tp n s.1 (sby 43) = true → lpA tp n (pB tp n f) (sby 43) 11 g s = pT tp n f t → NF I J → RdM J tp n s.1 → Tk n s.1 → (v = 0 ∨ v = 1) → (s.1.2.1 = 0 → ∀ b : Nat, a = b → gv R b s.2 v (H + 1)) → X G dp 0 0 M9_readTest 5 [some (rV (some 103)), some (iV v), o2] [] (J, Z) Q := by
      intro g J s v o2 e hs fJ g1 t1 hv hg
      rw [lpA_no e] at hs
      subst hs
      refine s9_readTest_5 (by omega) (am_ow hM.1) fun Q' hK => r_isW (sby 43) rfl (I := J) (t := (pT tp n f t).1) (n := n) hz (by omega) (by decide) (hE.fr fJ.1).2.2.2 hM g1 t1 (hK _ _ ?_)
      rw [eq_false_of_ne_true e]
      exact s9_readTest_12 (by omega) (am_ow hM.1) (fun _ => h J v fJ g1 hv hg) (fun q => absurd rfl q) (fun _ => hv)
    intro mu
    induction mu with
    | zero =>
      intro g J s v o2 hm hg9 hs fJ g1 t1 hv hg
      refine out g J s v o2 (fun e => ?_) hs fJ g1 t1 hv hg
      have q := of_decide_eq_true e
      have := kd_in (tp := tp) (n := n) (b := s.1.1) (by omega)
      have := hm q.1
      omega
    | succ mu ih =>
      intro g J s v o2 hm hg9 hs fJ g1 t1 hv hg
      by_cases e : iW tp n s.1 (sby 43) = true
      · obtain ⟨g', rfl⟩ : ∃ g', g = g' + 1 := ⟨g - 1, by omega⟩
        rw [lpA_s, if_pos e] at hs
        have ad := iW_adv e
        have hEJ := hE.fr fJ.1
        refine s9_readTest_5 (by omega) (am_ow hM.1) fun Q' hK => r_isW (sby 43) rfl (I := J) (t := s.1) (n := n) hz (by omega) (by decide) hEJ.2.2.2 hM g1 t1 (hK _ _ ?_)
        rw [e]
        refine s9_readTest_12 (by omega) (am_ow hM.1) (fun q => absurd q (by decide)) (fun _ Q' hK => r_pass (I := J) (t := s.1) (by omega) hB hEJ.2.2.2 hM g1 t1 fun J1 f1 g2 => hK _ ?_) (fun q => absurd q (by decide))
        have f01 := fJ.tr f1
        refine s9_readTest_19 (by omega) (am_ow hM.1) fun Q' hK => hf _ J1 (tP tp n s.1) (hE.fr f01.1) g2 t1.P (by rw [f01.2 33 (by omega)]; exact h33) (by rw [f01.2 34 (by omega)]; exact h34) fun J2 w f2 g3 hw hgw => hK _ _ ?_
        have f02 := f01.tr f2
        have go : ∀ r : Int, (r = 0 ∨ r = 1) → r = sov 11 v w → X G dp 0 0 M9_readTest 5 [some (rV (some 103)), some (iV r), some (iV w)] [] (J2, Z) Q := fun r hr he => by
          refine ih g' J2 ((pB tp n f (tP tp n s.1)).1, s.2 ++ ((pB tp n f (tP tp n s.1)).2 ++ [(11, 0)])) r _ (fun w9 => ?_) (by omega) hs f02 g3 (hkf _ t1.P) hr (fun w9 b hb => ?_)
          · have q := hgf (tP tp n s.1) t1.P w9
            have := hm ad.1
            dsimp only
            omega
          · rw [he]
            exact gv.two2 (hg ad.1 b hb) (hgw w9 b hb) (by decide) (by decide)
        refine s9_readTest_23 (fun c => go 1 (Or.inr rfl) ?_) (fun c c2 => go 0 (Or.inl rfl) ?_) (fun c c2 => go 1 (Or.inr rfl) ?_)
        · rw [or01 hv hw, if_pos (by omega)]
        · rw [or01 hv hw, if_neg (by omega)]
        · rw [or01 hv hw, if_pos (by omega)]
      · exact out g J s v o2 e hs fJ g1 t1 hv hg
  refine T9_readTest (s9_readTest_0 (by omega) (am_ow hM.1) fun Q' hK => hf _ I t hE hS ht h33 h34 fun J1 v f1 g1 hv hgv => hK _ _ (s9_readTest_4 ?_))
  exact lp 200 200 J1 (pB tp n f t) v _ (fun _ => by omega) (Nat.le_refl _) rfl f1 g1 (hkf t ht) hv (fun w b hb => (hgv w b hb).le (by omega))
end
