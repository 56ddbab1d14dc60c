/-! THE REFERENCE reads a question and answers it for a ballot -/
def EnV (I : Nat → Nat → Int) (tp : Nat → Int) (n : Nat) (R : Nat → Int) : Prop := RowV I R ∧ LdV I R ∧ (∀ b : Nat, b < 200 → I 118 b = cnt (dw R (R 5)) (kN R) b) ∧ TbM I tp n
theorem EnV.fr {I J : Nat → Nat → Int} {tp : Nat → Int} {n : Nat} {R : Nat → Int} (h : EnV I tp n R) (f : ∀ x, x ≠ 103 → J x = I x) : EnV J tp n R :=
  ⟨fun j hj => by rw [f 104 (by omega)]; exact h.1 j hj, h.2.1.same (fun x a b => f x (by omega)), fun b hb => by rw [f 118 (by omega)]; exact h.2.2.1 b hb, h.2.2.2.1, fun j hj => by rw [f 121 (by omega)]; exact h.2.2.2.2 j hj⟩
theorem RdM.k {I : Nat → Nat → Int} {tp : Nat → Int} {n k : Nat} {t : TS} {z : Int} (h : RdM I tp n t) (hk : 32 ≤ k) : RdM (u2 I 103 k z) tp n t := by
  unfold RdM at h ⊢
  rw [u2n (by omega), u2n (by omega), u2n (by omega), u2n (by omega), u2n (by omega), u2n (by omega), u2n (by omega)]
  exact h
theorem gv_b {R : Nat → Int} {b : Nat} {k g : Int} (h : k ≤ 2) : gv R b [(k, g)] (bvl R b k g) 1 := fun st hs => by
  show stq R b (k, g) st = _
  unfold stq
  rw [if_pos h]
  exact psq_in (by omega)
theorem gv_r {R : Nat → Int} {b : Nat} {k g : Int} (h : 3 ≤ k) (h5 : k ≤ 5) : gv R b [(k, g)] (rvl R b k g) 1 := fun st hs => by
  show stq R b (k, g) st = _
  unfold stq
  rw [if_neg (by show ¬ k ≤ 2; omega), if_pos h5]
  exact psq_in (by omega)
theorem gv.two2 {R : Nat → Int} {b : Nat} {c d : QC} {v w op : Int} {H : Nat} (h : gv R b c v (H + 1)) (k : gv R b d w H) (h6 : 5 < op) (h9 : op ≠ 9) : gv R b (c ++ (d ++ [(op, 0)])) (sov op v w) (H + 1) := by
  intro st hs
  rw [rnC_app, h st hs, rnC_app, k (v :: st) (by rw [List.length_cons]; omega)]
  show rnC R b [] (stq R b (op, 0) (w :: v :: st)) = _
  unfold stq
  rw [if_neg (by show ¬ op ≤ 2; omega), if_neg (by show ¬ op ≤ 5; omega), if_neg h9]
  show psq (sov op v w) st = _
  exact psq_in (by omega)
/-- a token is but one word -/
theorem iW_ex {tp : Nat → Int} {n : Nat} {t : TS} {l l' : List Int} (h : iW tp n t l = true) (hne : l ≠ l') : ¬ iW tp n t l' = true := by
  intro k
  have a := of_decide_eq_true h
  have b := of_decide_eq_true k
  apply hne
  have hl : l.length = l'.length := a.2.2.1.symm.trans b.2.2.1
  refine List.ext_getElem hl fun i h1 h2 => ?_
  have q := (a.2.2.2 i h1).symm.trans (b.2.2.2 i h2)
  rw [List.getD_eq_getElem?_getD, List.getD_eq_getElem?_getD, List.getElem?_eq_getElem h1, List.getElem?_eq_getElem h2] at q
  exact q
theorem iW_kd {tp : Nat → Int} {n : Nat} {t : TS} {l : List Int} (h : kd tp n t.1 ≠ 1) : ¬ iW tp n t l = true := fun k => h (of_decide_eq_true k).2.1
theorem iS_ex {tp : Nat → Int} {n : Nat} {t : TS} {c c' : Int} (h : iS tp n t c = true) (hne : c ≠ c') : ¬ iS tp n t c' = true := fun k => hne ((of_decide_eq_true h).2.2.symm.trans (of_decide_eq_true k).2.2)
section
variable {G : am_G} {dp : Nat} {Q : am_Q} {Z : (Nat → Nat → Option Nat) × (Nat → Nat × Nat) × Nat × Bool} {tp : Nat → Int} {n : Nat} {R : Nat → Int} {a : Int}
theorem r_ofRace {I : Nat → Nat → Int} {t : TS} {wh : Nat} (hd : 4 ≤ dp) (hB : TpB tp) (hM : Md (I, Z)) (hR : RV R) (hwh : wh < 3) (hE : EnV I tp n R) (hS : RdM I tp n t) (ht : Tk n t) (h34 : I 103 34 = a) (ha : a = -1 ∨ 0 ≤ a ∧ a < R 1) (h : ∀ (I' : Nat → Nat → Int) (v : Int), NF I I' → RdM I' tp n (pVr tp n t (3 + wh) (R 0)).1 → ((pVr tp n t (3 + wh) (R 0)).1.2.1 = 0 → ∀ b : Nat, a = b → gv R b (pVr tp n t (3 + wh) (R 0)).2 v 1) → Q (.inl (some (iV v))) (I', Z)) : T G dp 0 0 M9_ofRace [rV (some 103), iV wh] (I, Z) Q := by
  have hc := hR.c
  have hn := hR.n
  refine T9_ofRace (s9_ofRace_0 (by omega) (am_ow hM.1) fun Q' hK => r_pass (I := I) (t := t) (by omega) hB hE.2.2.2 hM hS ht fun I1 f1 g1 => hK _ ?_)
  have hE1 := hE.fr f1.1
  refine s9_ofRace_4 (by omega) (am_ow hM.1) fun Q' hK => md_races (R := R) hM hE1.1 (hK _ _ ?_)
  refine s9_ofRace_10 (by omega) (am_ow hM.1) fun Q' hK => ?_
  rw [wr_of (by omega) (by omega)]
  refine r_number (I := I1) (t := tP tp n t) (lo := 0) (hi := R 0 - 1) (by omega) (by omega) (by omega) hB hE1.2.2.2 hM g1 ht.P fun I2 v f2 g2 hv hve => hK _ _ ?_
  have f12 := f1.tr f2
  have hE2 := hE.fr f12.1
  have e34 : (I2, Z).1 103 34 = a := by show I2 103 34 = a; rw [f12.2 34 (by omega)]; exact h34
  have e30 : (I2, Z).1 103 30 = (tN tp n (tP tp n t) 0 (R 0 - 1) 100000000).2.1 := g2.2.2.2.2.2.1
  have val : (tN tp n (tP tp n t) 0 (R 0 - 1) 100000000).2.1 = 0 → ∃ r : Nat, v = r ∧ r < rC R ∧ r < 3 ∧ tV tp n (tP tp n t) 0 (R 0 - 1) 100000000 = r := fun w => by
    have b := tN_adv w
    have e := hve w
    exact ⟨v.toNat, by omega, by omega, by omega, by omega⟩
  have done : ∀ (z : Int), ((tN tp n (tP tp n t) 0 (R 0 - 1) 100000000).2.1 = 0 → ∀ b : Nat, a = b → z = rvl R b (3 + wh) (tV tp n (tP tp n t) 0 (R 0 - 1) 100000000)) → Q (.inl (some (iV z))) (I2, Z) := fun z hz => h I2 z f12 g2 (fun w b hb => by
    rw [hz w b hb]
    exact gv_r (by omega) (by omega))
  refine s9_ofRace_15 (by omega) (am_ow hM.1) (fun q => ?_) (fun q q2 c0 c1 Q' hK => ?_) (fun q q2 c0 c1 Q' hK => ?_) (fun q q2 c0 Q' hK => ?_) (fun q q2 => ?_)
  · rw [e30] at q
    exact done 0 fun w => absurd w q
  · rw [e30] at q
    rw [e34] at q2 ⊢
    obtain ⟨r, rfl, hr, hr3, er⟩ := val q
    obtain ⟨b, rfl⟩ : ∃ b : Nat, a = b := ⟨a.toNat, by omega⟩
    refine md_mistakeAt (R := R) (b := b) (r := r) hM hR hE2.2.1 hr (by omega) (hK _ _ (s9_ofRace_75 ?_))
    refine done _ fun _ b' hb' => ?_
    have : b' = b := by omega
    subst this
    unfold rvl
    rw [er, Int.toNat_natCast, if_pos (by omega)]
  · rw [e30] at q
    rw [e34] at q2 ⊢
    obtain ⟨r, rfl, hr, hr3, er⟩ := val q
    obtain ⟨b, rfl⟩ : ∃ b : Nat, a = b := ⟨a.toNat, by omega⟩
    refine md_shown (R := R) (b := b) (r := r) (by omega) hM hE2.1 (by omega) hr3 (hK _ _ (s9_ofRace_63 (s9_ofRace_75 ?_)))
    refine done _ fun _ b' hb' => ?_
    have : b' = b := by omega
    subst this
    unfold rvl
    rw [er, Int.toNat_natCast, if_neg (by omega), if_neg (by omega)]
  · rw [e30] at q
    rw [e34] at q2 ⊢
    obtain ⟨r, rfl, hr, hr3, er⟩ := val q
    obtain ⟨b, rfl⟩ : ∃ b : Nat, a = b := ⟨a.toNat, by omega⟩
    refine md_recorded (R := R) (b := b) (r := r) (by omega) hM hE2.1 (by omega) hr3 (hK _ _ (s9_ofRace_46 (s9_ofRace_75 ?_)))
    refine done _ fun _ b' hb' => ?_
    have : b' = b := by omega
    subst this
    unfold rvl
    rw [er, Int.toNat_natCast, if_neg (by omega), if_pos (by omega)]
  · rw [e34] at q2
    exact done 0 fun _ b hb => by omega
theorem r_readValue {I : Nat → Nat → Int} {t : TS} (hz : SZ G) (hd : 6 ≤ dp) (hB : TpB tp) (hM : Md (I, Z)) (hR : RV R) (hE : EnV I tp n R) (hS : RdM I tp n t) (ht : Tk n t) (h34 : I 103 34 = a) (ha : a = -1 ∨ 0 ≤ a ∧ a < R 1) (h : ∀ (I' : Nat → Nat → Int) (v : Int), NF I I' → RdM I' tp n (pV tp n (R 0) t).1 → ((pV tp n (R 0) t).1.2.1 = 0 → ∀ b : Nat, a = b → gv R b (pV tp n (R 0) t).2 v 1) → Q (.inl (some (iV v))) (I', Z)) : T G dp 0 0 M9_readValue [rV (some 103)] (I, Z) Q := by
  have hn := hR.n
  have hT := hE.2.2.2
  have e30 : (I, Z).1 103 30 = t.2.1 := hS.2.2.2.2.2.1
  have e27 : (I, Z).1 103 27 = kd tp n t.1 := hS.2.2.1
  have num : pV tp n (R 0) t = (tN tp n t 0 9999 100000000, [(0, tV tp n t 0 9999 100000000)]) → ∀ Q' : am_Q, (∀ (z : Int) (m' : am_M), X G dp 0 0 M9_readValue 23 [some (rV (some 103)), none] [iV z] m' Q → Q' (.inl (some (iV z))) m') → T G (dp - 1) 0 0 M9_number [rV (some 103), iV 0, iV 9999] (I, Z) Q' := fun e Q' hK => by
    rw [e] at h
    refine r_number (I := I) (t := t) (lo := 0) (hi := 9999) (by omega) (by omega) (by omega) hB hT hM hS ht fun I1 v f1 g1 _ hve => hK _ _ (s9_readValue_23 (h I1 v f1 g1 fun w b hb => ?_))
    have := gv_b (R := R) (b := b) (k := 0) (g := tV tp n t 0 9999 100000000) (by decide)
    rw [hve w]
    exact this
  refine T9_readValue (s9_readValue_0 (by omega) (am_ow hM.1) (fun q => ?_) (fun q q2 Q' hK => ?_) (fun q q2 => ?_))
  · rw [e30] at q
    intro Q' hK
    refine r_number (I := I) (t := t) (lo := 0) (hi := 9999) (by omega) (by omega) (by omega) hB hT hM hS ht fun I1 v f1 g1 _ _ => hK _ _ (s9_readValue_23 (h I1 v f1 ?_ fun w => ?_))
    · rw [pV_no q]; rw [tN_no q] at g1; exact g1
    · rw [pV_no q] at w; exact absurd w q
  · rw [e30] at q
    rw [e27] at q2
    refine r_isW (sby 39) rfl (I := I) (t := t) (n := n) hz (by omega) (by decide) hT hM hS ht (hK _ _ ?_)
    by_cases e1 : iW tp n t (sby 39) = true
    · have ep : pV tp n (R 0) t = pVr tp n t 3 (R 0) := by
        unfold pV
        rw [if_neg (iW_ex e1 (by decide)), if_neg (iW_ex e1 (by decide)), if_neg (iW_ex e1 (by decide)), if_neg (iW_ex e1 (by decide)), if_pos e1]
      rw [ep] at h
      rw [e1]
      exact s9_readValue_31 (by omega) (am_ow hM.1) (fun q => absurd q (by decide)) (fun _ Q' hK => r_ofRace (I := I) (wh := 0) (by omega) hB hM hR (by omega) hE hS ht h34 ha fun I1 v f1 g1 hv => hK _ _ (s9_readValue_39 (h I1 v f1 g1 hv)))
    rw [eq_false_of_ne_true e1]
    refine s9_readValue_31 (by omega) (am_ow hM.1) (fun _ Q' hK => r_isW (sby 40) rfl (I := I) (t := t) (n := n) hz (by omega) (by decide) hT hM hS ht (hK _ _ ?_)) (fun q => absurd rfl q)
    by_cases e2 : iW tp n t (sby 40) = true
    · have ep : pV tp n (R 0) t = pVr tp n t 4 (R 0) := by
        unfold pV
        rw [if_neg (iW_ex e2 (by decide)), if_neg (iW_ex e2 (by decide)), if_neg (iW_ex e2 (by decide)), if_neg (iW_ex e2 (by decide)), if_neg (iW_ex e2 (by decide)), if_pos e2]
      rw [ep] at h
      rw [e2]
      exact s9_readValue_47 (by omega) (am_ow hM.1) (fun q => absurd q (by decide)) (fun _ Q' hK => r_ofRace (I := I) (wh := 1) (by omega) hB hM hR (by omega) hE hS ht h34 ha fun I1 v f1 g1 hv => hK _ _ (s9_readValue_55 (h I1 v f1 g1 hv)))
    rw [eq_false_of_ne_true e2]
    refine s9_readValue_47 (by omega) (am_ow hM.1) (fun _ Q' hK => r_isW (sby 41) rfl (I := I) (t := t) (n := n) hz (by omega) (by decide) hT hM hS ht (hK _ _ ?_)) (fun q => absurd rfl q)
    by_cases e3 : iW tp n t (sby 41) = true
    · have ep : pV tp n (R 0) t = pVr tp n t 5 (R 0) := by
        unfold pV
        rw [if_neg (iW_ex e3 (by decide)), if_neg (iW_ex e3 (by decide)), if_neg (iW_ex e3 (by decide)), if_neg (iW_ex e3 (by decide)), if_neg (iW_ex e3 (by decide)), if_neg (iW_ex e3 (by decide)), if_pos e3]
      rw [ep] at h
      rw [e3]
      exact s9_readValue_63 (by omega) (am_ow hM.1) (fun q => absurd q (by decide)) (fun _ Q' hK => r_ofRace (I := I) (wh := 2) (by omega) hB hM hR (by omega) hE hS ht h34 ha fun I1 v f1 g1 hv => hK _ _ (s9_readValue_71 (h I1 v f1 g1 hv)))
    rw [eq_false_of_ne_true e3]
    have h34' : (I, Z).1 103 34 = a := h34
    have fin : ∀ (v : Int) (k g : Int), k ≤ 2 → pV tp n (R 0) t = (tP tp n t, [(k, g)]) → (∀ b : Nat, a = b → v = bvl R b k g) → X G dp 0 0 M9_readValue 76 [some (rV (some 103)), none] [iV v] (I, Z) Q := fun v k g hk ep hv => by
      rw [ep] at h
      refine s9_readValue_76 (by omega) (am_ow hM.1) fun Q' hK => r_pass (I := I) (t := t) (by omega) hB hT hM hS ht fun I1 f1 g1 => hK _ (s9_readValue_81 (h I1 v f1 g1 fun _ b hb => ?_))
      rw [hv b hb]
      exact gv_b hk
    refine s9_readValue_63 (by omega) (am_ow hM.1) (fun _ Q' hK => T9_valueOfWord (s9_valueOfWord_0 (by omega) (am_ow hM.1) fun Q'' hK' => r_isW (sby 35) rfl (I := I) (t := t) (n := n) hz (by omega) (by decide) hT hM hS ht (hK' _ _ ?_))) (fun q => absurd rfl q)
    by_cases e4 : iW tp n t (sby 35) = true
    · rw [e4]
      exact s9_valueOfWord_7 (by omega) (am_ow hM.1) (fun q => absurd q (by decide)) (fun _ => hK _ _ (fin (-1) 0 (-1) (by decide) (by unfold pV; rw [if_pos e4]) (fun _ _ => rfl)))
    rw [eq_false_of_ne_true e4]
    refine s9_valueOfWord_7 (by omega) (am_ow hM.1) (fun _ Q'' hK' => r_isW (sby 36) rfl (I := I) (t := t) (n := n) hz (by omega) (by decide) hT hM hS ht (hK' _ _ ?_)) (fun q => absurd rfl q)
    by_cases e5 : iW tp n t (sby 36) = true
    · rw [e5]
      exact s9_valueOfWord_19 (by omega) (am_ow hM.1) (fun q => absurd q (by decide)) (fun _ => hK _ _ (fin (-2) 0 (-2) (by decide) (by unfold pV; rw [if_neg e4, if_pos e5]) (fun _ _ => rfl)))
    rw [eq_false_of_ne_true e5]
    refine s9_valueOfWord_19 (by omega) (am_ow hM.1) (fun _ Q'' hK' => r_isW (sby 37) rfl (I := I) (t := t) (n := n) hz (by omega) (by decide) hT hM hS ht (hK' _ _ ?_)) (fun q => absurd rfl q)
    by_cases e6 : iW tp n t (sby 37) = true
    · rw [e6]
      refine s9_valueOfWord_32 (by omega) (am_ow hM.1) (fun q => absurd q (by decide)) (fun _ => hK _ _ ?_)
      rw [h34']
      exact fin a 1 0 (by decide) (by unfold pV; rw [if_neg e4, if_neg e5, if_pos e6]) (fun b hb => hb)
    rw [eq_false_of_ne_true e6]
    refine s9_valueOfWord_32 (by omega) (am_ow hM.1) (fun _ Q'' hK' => r_isW (sby 38) rfl (I := I) (t := t) (n := n) hz (by omega) (by decide) hT hM hS ht (hK' _ _ ?_)) (fun q => absurd rfl q)
    by_cases e7 : iW tp n t (sby 38) = true
    · rw [e7]
      have ep : pV tp n (R 0) t = (tP tp n t, [(2, 0)]) := by unfold pV; rw [if_neg e4, if_neg e5, if_neg e6, if_pos e7]
      refine s9_valueOfWord_47 (by omega) (am_ow hM.1) hM.often.1 (am_rw hM.often.2) (fun _ q => hK _ _ ?_) (fun _ q => hK _ _ ?_) (fun q => absurd q (by decide)) (fun _ q => ?_) (fun _ q => ?_)
      · rw [h34'] at q ⊢
        obtain ⟨b, rfl⟩ : ∃ b : Nat, a = b := ⟨a.toNat, by omega⟩
        refine fin _ 2 0 (by decide) ep (fun b' hb' => ?_)
        have : b' = b := by omega
        subst this
        rw [Int.toNat_natCast]
        exact hE.2.2.1 b' (by omega)
      · rw [h34'] at q
        exact fin 0 2 0 (by decide) ep (fun b hb => by omega)
      · rw [h34'] at q ⊢
        omega
      · rw [h34'] at q ⊢
        omega
    rw [eq_false_of_ne_true e7]
    have ep : pV tp n (R 0) t = (tF t 1, [(0, tV tp n t 0 9999 100000000)]) := by
      unfold pV
      rw [if_neg e4, if_neg e5, if_neg e6, if_neg e7, if_neg e1, if_neg e2, if_neg e3]
      have : tN tp n t 0 9999 100000000 = tF t 1 := by
        unfold tN
        rw [if_neg (fun z => q2 (of_decide_eq_true z).2)]
      rw [this]
    rw [ep] at h
    refine s9_valueOfWord_47 (by omega) (am_ow hM.1) hM.often.1 (am_rw hM.often.2) (fun q => absurd rfl q) (fun q => absurd rfl q) (fun _ Q'' hK' => r_wrong (I := I) (t := t) hM hS fun I1 f1 g1 => hK' _ (s9_valueOfWord_55 (hK _ _ ?_))) (fun q => absurd rfl q) (fun q => absurd rfl q)
    have hw : (tF t 1).2.1 ≠ 0 := tF_w (by decide)
    refine s9_readValue_76 (by omega) (am_ow hM.1) fun Q' hK => r_pass (I := I1) (t := tF t 1) (by omega) hB (hT.nf f1) hM g1 (ht.F ⟨by decide, by decide⟩) fun I2 f2 g2 => hK _ (s9_readValue_81 (h I2 0 (f1.tr f2) ?_ fun w => absurd w hw))
    rw [tP_no hw] at g2
    exact g2
  · rw [e30] at q
    rw [e27] at q2
    refine num ?_
    unfold pV
    have no : ∀ l, ¬ iW tp n t l = true := fun l => iW_kd (by omega)
    rw [if_neg (no _), if_neg (no _), if_neg (no _), if_neg (no _), if_neg (no _), if_neg (no _), if_neg (no _)]
end
