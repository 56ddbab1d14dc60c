/-! THE REFERENCE: ask -/
theorem gv_qh {R : Nat → Int} {b : Nat} {c : QC} {v : Int} (h : gv R b c v 16) : qh R c b = decide (¬ v = 0) := by
  have e : rnC R b c [] = [v] := h [] (by decide)
  unfold qh
  rw [e]
  rfl
/-- what ask changes in the reference -/
def XA (I I' : Nat → Nat → Int) : Prop := (∀ x, x ≠ 103 → x < 109 ∨ 120 ≤ x → I' x = I x) ∧ ∀ j, j = 5 ∨ j = 6 ∨ j = 22 → I' 103 j = I 103 j
section
variable {G : am_G} {dp : Nat} {Q : am_Q} {Z : (Nat → Nat → Option Nat) × (Nat → Nat × Nat) × Nat × Bool} {tp : Nat → Int} {R : Nat → Int}
theorem r_ask {I : Nat → Nat → Int} {i : Int} {m : Nat} (hz : SZ G) (hd : 32 ≤ dp) (hM : Md (I, Z)) (hv : RowV I R) (hR : RV R) (hD : DR R) (hB : TpB tp) (hT : TpM I tp m) (h1 : ¬ (0 ≤ i ∧ i ≤ m ∧ i ≤ 200) → ∀ I' : Nat → Nat → Int, MF I I' → I' 103 7 = 1 → Q (.inl (some (iV 0))) (I', Z)) (hF : ∀ n : Nat, i = n → n ≤ m → n ≤ 200 → (askT tp n (R 0)).1.2.1 ≠ 0 → ∀ I' : Nat → Nat → Int, XA I I' → I' 103 7 = 0 → I' 103 24 = 0 → I' 103 32 = (askT tp n (R 0)).1.2.2 → Q (.inl (some (iV (-1000000000 - (askT tp n (R 0)).1.2.1)))) (I', Z)) (h0 : ∀ n : Nat, i = n → n ≤ m → n ≤ 200 → (askT tp n (R 0)).1.2.1 = 0 → ∀ I' : Nat → Nat → Int, XA I I' → I' 103 7 = 0 → I' 103 24 = 0 → I' 103 32 = -1 → Q (.inl (some (iV (askV R (askT tp n (R 0)).2 (askK tp n))))) (I', Z)) : T G dp 4 24 M9_ask [rV (some 103), iV i] (I, Z) Q := by
  have e24 : (u2 (I, Z).1 103 7 0) 103 24 = m := by rw [u2n (by omega)]; exact hT.1
  have hN := hR.n
  have hkN := kN_le R
  refine T9_ask (s9_ask_0 (by omega) hM.1 (fun q Q' hK => md_fail1 (I := I) hM MF.code fun I' a b => hK _ _ (s9_ask_29 (h1 (by omega) I' a b))) (fun _ q Q' hK => md_fail1 (I := I) hM MF.code fun I' a b => hK _ _ (s9_ask_29 (h1 (by rw [e24] at q; omega) I' a b))) (fun q q2 q3 Q' hK => ?_) (fun _ _ q Q' hK => md_fail1 (I := I) hM MF.code fun I' a b => hK _ _ (s9_ask_29 (h1 (by omega) I' a b))))
  rw [e24] at q2
  obtain ⟨n, rfl⟩ : ∃ n : Nat, i = n := ⟨i.toNat, by omega⟩
  have hnm : n ≤ m := by omega
  have hn2 : n ≤ 200 := by omega
  have hF := hF n rfl hnm hn2
  have h0 := h0 n rfl hnm hn2
  have ok := askT_k (tp := tp) (n := n) (K := R 0)
  have hm6 := hT.2.1
  refine md_goes0 (I := I) (by omega) hM hv hR hD fun I1 f1 c1 v1 a1 => hK _ ?_
  refine s9_ask_34 (by omega) (am_ow hM.1) fun Q' hK => md_layTimes (I := I1) hM v1 hR hD a1.1 fun I2 f2 g2 => hK _ ?_
  have hE2 : EnV I2 tp n R := ⟨fun j hj => by rw [f2 104 (by omega)]; exact v1 j hj, a1.2.1.same (fun x a b => f2 x (by omega)), g2, by omega, fun j hj => by rw [f2 121 (by omega), f1.1 121 (by omega) (by omega)]; exact hT.2.2 j (by omega)⟩
  refine s9_ask_38 (by omega) (am_ow hM.1) fun Q' hK => r_opens (I := I2) (n := n) (tp := tp) (by omega) hB hE2.2.2.2 hM fun I3 f3 f3' _ g3 => hK _ ?_
  have t0 : Tk n (rn blk tp n 0, 0, -1) := Tk.o
  have hE3 := hE2.fr f3
  have fx3 : ∀ x, x ≠ 103 → x < 109 ∨ 120 ≤ x → I3 x = I x := fun x a b => by rw [f3 x a, f2 x (by omega), f1.1 x a b]
  have fk3 : ∀ j, j < 25 → j ≠ 7 → j ≠ 16 → j ≠ 18 → I3 103 j = I 103 j := fun j a b c d => by rw [f3' j (by omega), f2 103 (by omega), f1.2 j b c d]
  have c3 : I3 103 7 = 0 := by rw [f3' 7 (by omega), f2 103 (by omega)]; exact c1
  have go : ∀ (kd9 : Int), kd9 = askK tp n → ∀ Q' : am_Q, (∀ (z : Int) (m' : am_M), X G dp 4 24 M9_ask 79 [some (rV (some 103)), some (iV n), some (iV kd9), none, none, none, none] [iV z] m' Q → Q' (.inl (some (iV z))) m') → T G (dp - 1) 0 0 M9_readQuestion [rV (some 103), iV n, iV (-1)] (I3, Z) Q' := by
    intro kd9 hkd Q' hK
    refine r_readQuestion (I := I3) (a := -1) hz (by omega) hB hM hR hn2 hE3 (Or.inl rfl) fun I4 v4 f4 f4' g4 _ _ => hK _ _ ?_
    refine s9_ask_79 (by omega) (am_ow hM.1) fun Q' hK => r_ends (I := I4) (t := (askT tp n (R 0)).1) hM g4 ok fun I5 f5 f5' a24 a32 => hK _ _ ?_
    have hE5 := (hE3.fr f4).fr f5
    have fx5 : ∀ x, x ≠ 103 → x < 109 ∨ 120 ≤ x → I5 x = I x := fun x a b => by rw [f5 x a, f4 x a, fx3 x a b]
    have fk5 : ∀ j, j < 24 → j ≠ 7 → j ≠ 16 → j ≠ 18 → I5 103 j = I 103 j := fun j a b c d => by rw [f5' j (by omega) (by omega), f4' j (by omega), fk3 j (by omega) b c d]
    have c5 : I5 103 7 = 0 := by rw [f5' 7 (by omega) (by omega), f4' 7 (by omega)]; exact c3
    by_cases w : (askT tp n (R 0)).1.2.1 = 0
    · have h0 := h0 w
      have a32 : I5 103 32 = -1 := by rw [a32]; exact ok.2.1 w
      rw [w]
      refine s9_ask_84 (fun _ => ?_) (fun q => absurd rfl q)
      have lp : ∀ (g b : Nat) (sm : Int) (J : Nat → Nat → Int) (o3 o4 : Int), rN R - b = g → b ≤ rN R → 0 ≤ sm → sm ≤ 300 * (b : Int) → (∀ x, x ≠ 103 → J x = I5 x) → (∀ k, k < 25 ∨ k = 32 → J 103 k = I5 103 k) → anS (qh R (askT tp n (R 0)).2) (fun b => cnt (dw R (R 5)) (kN R) b) kd9 g b sm = askV R (askT tp n (R 0)).2 kd9 → X G dp 4 24 M9_ask 104 [some (rV (some 103)), some (iV n), some (iV kd9), some (iV o3), some (iV o4), some (iV sm), some (iV b)] [] (J, Z) Q := by
        intro g
        induction g with
        | zero =>
          intro b sm J o3 o4 hu hb s0 s1 fJ fJ' hs
          have hs : (if kd9 = 1 then -1 else sm) = askV R (askT tp n (R 0)).2 kd9 := hs
          rw [← hkd] at h0
          have fin := h0 J ⟨fun x a c => by rw [fJ x a, fx5 x a c], fun j hj => by rw [fJ' j (by omega), fk5 j (by omega) (by omega) (by omega) (by omega)]⟩ (by rw [fJ' 7 (by omega)]; exact c5) (by rw [fJ' 24 (by omega)]; exact a24) (by rw [fJ' 32 (by omega)]; exact a32)
          rw [← hs] at fin
          refine s9_ask_104 (by omega) (am_ow hM.1) fun Q' hK => md_ballots (R := R) hM (hE5.fr fJ).1 (hK _ _ ?_)
          refine s9_ask_110 (by omega) (am_ow hM.1) (fun _ q => ?_) (fun _ q => ?_) (fun q => absurd (by omega) q)
          · rw [if_neg q] at fin; exact fin
          · rw [if_pos q] at fin; exact fin
        | succ g ih =>
          intro b sm J o3 o4 hu hb s0 s1 fJ fJ' hs
          rw [anS_s] at hs
          refine s9_ask_104 (by omega) (am_ow hM.1) fun Q' hK => md_ballots (R := R) hM (hE5.fr fJ).1 (hK _ _ ?_)
          refine s9_ask_110 (by omega) (am_ow hM.1) (fun q => absurd q (by omega)) (fun q => absurd q (by omega)) (fun _ Q' hK => ?_)
          refine r_readQuestion (I := J) (a := (b : Int)) hz (by omega) hB hM hR hn2 (hE5.fr fJ) (Or.inr ⟨by omega, by omega⟩) fun J1 v f6 f6' g6 hv hgv => hK _ _ ?_
          have fJ1 : ∀ x, x ≠ 103 → J1 x = I5 x := fun x a => by rw [f6 x a, fJ x a]
          have fJ1' : ∀ k, k < 25 ∨ k = 32 → J1 103 k = I5 103 k := fun k hk => by rw [f6' k hk, fJ' k hk]
          have hq := gv_qh (hgv w b rfl)
          have eo : (J1, Z).1 118 ((b : Int)).toNat = cnt (dw R (R 5)) (kN R) b := by
            rw [Int.toNat_natCast]
            exact ((hE5.fr fJ1).2.2.1) b (by omega)
          have hcn := cnt_rng (dw R (R 5)) b (kN R)
          refine s9_ask_120 (am_ow hM.1) hM.often.1 (am_rw hM.often.2) (fun q c c2 => ?_) (fun q c c2 => ?_) (fun q c => ?_) (fun q => ?_) (fun _ _ _ => by omega) (fun _ _ _ => by omega)
          · rw [hq, decide_eq_true q, if_pos rfl, if_neg c, if_neg c2] at hs
            rw [eo, wr_of (by omega) (by omega), wr_s (by omega)]
            exact ih (b + 1) _ J1 _ _ (by omega) (by omega) (by omega) (by omega) fJ1 fJ1' hs
          · rw [hq, decide_eq_true q, if_pos rfl, if_neg c, if_pos c2] at hs
            rw [wr_of (by omega) (by omega), wr_s (by omega)]
            exact ih (b + 1) _ J1 _ _ (by omega) (by omega) (by omega) (by omega) fJ1 fJ1' hs
          · rw [hq, decide_eq_true q, if_pos rfl, if_pos c] at hs
            rw [← hkd] at h0
            rw [hs]
            exact h0 J1 ⟨fun x a c => by rw [fJ1 x a, fx5 x a c], fun j hj => by rw [fJ1' j (by omega), fk5 j (by omega) (by omega) (by omega) (by omega)]⟩ (by rw [fJ1' 7 (by omega)]; exact c5) (by rw [fJ1' 24 (by omega)]; exact a24) (by rw [fJ1' 32 (by omega)]; exact a32)
          · rw [hq, decide_eq_false (fun z => z q), if_neg (by decide)] at hs
            rw [wr_s (by omega)]
            exact ih (b + 1) _ J1 _ _ (by omega) (by omega) (by omega) (by omega) fJ1 fJ1' hs
      exact lp (rN R) 0 0 I5 _ _ rfl (Nat.zero_le _) (Int.le_refl _) (by omega) (fun _ _ => rfl) (fun _ _ => rfl) rfl
    · have hw3 := ok.2.2
      refine s9_ask_84 (fun q => absurd q w) (fun _ => ?_)
      rw [wr_of (by omega) (by omega)]
      exact hF w I5 ⟨fx5, fun j hj => fk5 j (by omega) (by omega) (by omega) (by omega)⟩ c5 a24 a32
  unfold askK at go
  refine s9_ask_43 (by omega) (am_ow hM.1) fun Q' hK => r_isW (sby 31) rfl (I := I3) (t := (rn blk tp n 0, 0, -1)) (n := n) hz (by omega) (by decide) hE3.2.2.2 hM g3 t0 (hK _ _ ?_)
  by_cases e1 : iW tp n (rn blk tp n 0, 0, -1) (sby 31) = true
  · rw [e1]
    exact s9_ask_50 (by omega) (am_ow hM.1) (fun q => absurd q (by decide)) (fun _ => go 0 (by rw [if_pos e1]))
  rw [eq_false_of_ne_true e1]
  refine s9_ask_50 (by omega) (am_ow hM.1) (fun _ Q' hK => r_isW (sby 32) rfl (I := I3) (t := (rn blk tp n 0, 0, -1)) (n := n) hz (by omega) (by decide) hE3.2.2.2 hM g3 t0 (hK _ _ ?_)) (fun q => absurd rfl q)
  by_cases e2 : iW tp n (rn blk tp n 0, 0, -1) (sby 32) = true
  · rw [e2]
    exact s9_ask_64 (by omega) (am_ow hM.1) (fun q => absurd q (by decide)) (fun _ => go 1 (by rw [if_neg e1, if_pos e2]))
  rw [eq_false_of_ne_true e2]
  exact s9_ask_64 (by omega) (am_ow hM.1) (fun _ => go 2 (by rw [if_neg e1, if_neg e2])) (fun q => absurd rfl q)
end
