/-! THE CLASS: tell, takeTape, election -/
theorem tRcs_s {tp : Nat → Int} {n g : Nat} {s : TR} : tRcs tp n (g + 1) s = if iW tp n s.1 (sby 1) = true then tRcs tp n g (tRace tp n s) else s := rfl
theorem tLns_s {tp : Nat → Int} {n g : Nat} {s : TR} : tLns tp n (g + 1) s = if s.1.2.1 = 0 ∧ kd tp n s.1.1 ≠ 0 then tLns tp n g (tLine tp n s) else s := rfl
theorem tRcs_ok {tp : Nat → Int} {n : Nat} : ∀ (g : Nat) (s : TR), Tk n s.1 → RZ s.2 → s.2 1 = 0 → Tk n (tRcs tp n g s).1 ∧ RZ (tRcs tp n g s).2 ∧ (tRcs tp n g s).2 1 = 0 := by
  intro g
  induction g with
  | zero => intro s a b c; exact ⟨a, b, c⟩
  | succ g ih =>
    intro s a b c
    rw [tRcs_s]
    by_cases z : iW tp n s.1 (sby 1) = true
    · rw [if_pos z]
      have q := tRace_ok (tp := tp) a b c
      exact ih _ q.1 q.2.1 q.2.2
    · rw [if_neg z]; exact ⟨a, b, c⟩
theorem tLns_ok {tp : Nat → Int} {n : Nat} : ∀ (g : Nat) (s : TR), Tk n s.1 → RZ s.2 → Tk n (tLns tp n g s).1 ∧ RZ (tLns tp n g s).2 := by
  intro g
  induction g with
  | zero => intro s a b; exact ⟨a, b⟩
  | succ g ih =>
    intro s a b
    rw [tLns_s]
    by_cases z : s.1.2.1 = 0 ∧ kd tp n s.1.1 ≠ 0
    · rw [if_pos z]
      have q := tLine_ok (tp := tp) a b
      exact ih _ q.1 q.2.1
    · rw [if_neg z]; exact ⟨a, b⟩
theorem Tk.o {tp : Nat → Int} {n : Nat} : Tk n (rn blk tp n 0, 0, -1) := ⟨(rn_b (Nat.zero_le n)).2, fun _ => rfl, Int.le_refl _, (by decide : (0 : Int) ≤ 3)⟩
theorem tTell_ok {tp : Nat → Int} {n : Nat} : Tk n (tTell tp n).1 ∧ RZ (tTell tp n).2 := by
  have q := tRace_ok (tp := tp) (n := n) (s := ((rn blk tp n 0, 0, -1), row0)) Tk.o row0_ok.1 row0_ok.2.1
  have q2 := tRcs_ok (tp := tp) (n := n) 600 _ q.1 q.2.1 q.2.2
  exact tLns_ok (tp := tp) (n := n) 600 _ q2.1 q2.2.1
section
variable {G : am_G} {dp : Nat} {Q : am_Q} {Z : (Nat → Nat → Option Nat) × (Nat → Nat × Nat) × Nat × Bool}
theorem lp_rcs {I0 : Nat → Nat → Int} {tp : Nat → Int} {n e : Nat} {x y : Nat} (hz : SZ G) (hd : 8 ≤ dp) (hB : TpB tp) (hT : Tb I0 tp n) (hk : Rk (I0, Z)) (he : El (I0, Z) e) (hek : eok e) {S : TR} (h : ∀ I' : Nat → Nat → Int, EF e I0 I' → RdC I' tp n S.1 → EdV I' e S.2 → X G dp x y M4_tell 40 [some (rV (some 76)), some (rV (some e)), some (iV 0)] [] (I', Z) Q) : ∀ (g k : Nat) (I : Nat → Nat → Int) (s : TR), 600 - k = g → k ≤ 600 → tRcs tp n g s = S → EF e I0 I → RdC I tp n s.1 → EdV I e s.2 → Tk n s.1 → RZ s.2 → s.2 1 = 0 → X G dp x y M4_tell 11 [some (rV (some 76)), some (rV (some e)), some (iV k)] [] (I, Z) Q := by
  intro g
  induction g with
  | zero =>
    intro k I s hu hk9 hs f g1 g2 t1 t2 t3
    subst hs
    exact s4_tell_11 (by omega) (am_ow hk.1) (fun _ => h I f g1 g2) (fun q => absurd (show (600 : Int) ≤ k by omega) q)
  | succ g ih =>
    intro k I s hu hk9 hs f g1 g2 t1 t2 t3
    rw [tRcs_s] at hs
    refine s4_tell_11 (by omega) (am_ow hk.1) (fun q => absurd q (by omega)) (fun _ Q' hK => ct_isWord (I := I) (t := s.1) hz (by omega) (by decide) hB (hT.ef f hek) hk g1 t1 (hK _ _ ?_))
    by_cases z : iW tp n s.1 (sby 1) = true
    · rw [if_pos z] at hs
      rw [z]
      have q := tRace_ok (tp := tp) t1 t2 t3
      refine s4_tell_24 (by omega) (fun q => absurd q (by decide)) (fun _ Q' hK => ct_readRace (I := I) (s := s) hz (by omega) hB (hT.ef f hek) hk he hek g1 t1 g2 t2 t3 fun I2 f2 h1 h2 => hK _ (s4_tell_32 ?_))
      rw [wr_s (by omega)]
      exact ih (k + 1) I2 (tRace tp n s) (by omega) (by omega) hs (f.tr f2) h1 h2 q.1 q.2.1 q.2.2
    · rw [if_neg z] at hs
      subst hs
      rw [eq_false_of_ne_true z]
      exact s4_tell_24 (by omega) (fun _ => h I f g1 g2) (fun q => absurd rfl q)
theorem lp_lns {I0 : Nat → Nat → Int} {tp : Nat → Int} {n e : Nat} {x y : Nat} (hz : SZ G) (hd : 9 ≤ dp) (hB : TpB tp) (hT : Tb I0 tp n) (hk : Rk (I0, Z)) (he : El (I0, Z) e) (hek : eok e) {S : TR} (h : ∀ (I' : Nat → Nat → Int) (v : Int), EF e I0 I' → RdC I' tp n S.1 → EdV I' e S.2 → X G dp x y M4_tell 76 [some (rV (some 76)), some (rV (some e)), some (iV v)] [iV (if S.1.2.1 = 0 then 1 else 0)] (I', Z) Q) : ∀ (g k : Nat) (I : Nat → Nat → Int) (s : TR), 600 - k = g → k ≤ 600 → tLns tp n g s = S → EF e I0 I → RdC I tp n s.1 → EdV I e s.2 → Tk n s.1 → RZ s.2 → X G dp x y M4_tell 40 [some (rV (some 76)), some (rV (some e)), some (iV k)] [] (I, Z) Q := by
  intro g
  induction g with
  | zero =>
    intro k I s hu hk9 hs f g1 g2 t1 t2
    subst hs
    exact s4_tell_40 (by omega) (am_ow hk.1) (fun _ Q' hK => ct_isFine (I := I) (t := s.1) hk g1 (hK _ _ (h I _ f g1 g2))) (fun q => absurd (show (600 : Int) ≤ k by omega) q)
  | succ g ih =>
    intro k I s hu hk9 hs f g1 g2 t1 t2
    rw [tLns_s] at hs
    refine s4_tell_40 (by omega) (am_ow hk.1) (fun q => absurd q (by omega)) (fun _ Q' hK => ct_isFine (I := I) (t := s.1) hk g1 (hK _ _ ?_))
    by_cases w : s.1.2.1 = 0
    · rw [if_pos w]
      refine s4_tell_51 (by omega) (am_ow hk.1) (fun q => absurd q (by decide)) (fun _ Q' hK => ct_isEnd (I := I) (t := s.1) hk g1 (hK _ _ ?_))
      by_cases z : kd tp n s.1.1 = 0
      · rw [if_neg (fun y => y.2 z)] at hs
        subst hs
        rw [if_pos z]
        exact s4_tell_58 (by omega) (am_ow hk.1) (fun _ Q' hK => ct_isFine (I := I) (t := s.1) hk g1 (hK _ _ (h I _ f g1 g2))) (fun q => absurd q (by decide))
      · rw [if_pos ⟨w, z⟩] at hs
        rw [if_neg z]
        have q := tLine_ok (tp := tp) t1 t2
        refine s4_tell_58 (by omega) (am_ow hk.1) (fun q => absurd rfl q) (fun _ Q' hK => ct_readLine (I := I) (s := s) hz (by omega) hB (hT.ef f hek) hk he hek g1 t1 g2 t2 fun I2 f2 h1 h2 => hK _ (s4_tell_66 ?_))
        rw [wr_s (by omega)]
        exact ih (k + 1) I2 (tLine tp n s) (by omega) (by omega) hs (f.tr f2) h1 h2 q.1 q.2.1
    · rw [if_neg (fun y => w y.1)] at hs
      subst hs
      rw [if_neg w]
      exact s4_tell_51 (by omega) (am_ow hk.1) (fun _ Q' hK => ct_isFine (I := I) (t := s.1) hk g1 (hK _ _ (h I _ f g1 g2))) (fun q => absurd rfl q)
theorem ct_tell {I : Nat → Nat → Int} {tp : Nat → Int} {n e : Nat} (hz : SZ G) (hd : 9 ≤ dp) (hB : TpB tp) (hT : Tb I tp n) (hk : Rk (I, Z)) (he : El (I, Z) e) (hek : eok e) (hR : RdC I tp n (rn blk tp n 0, 0, -1)) (h : ∀ I' : Nat → Nat → Int, EF e I I' → RdC I' tp n (tTell tp n).1 → ((tTell tp n).1.2.1 = 0 → ElV I' e (tTell tp n).2) → Q (.inl none) (I', Z)) : T G dp 0 0 M4_tell [rV (some 76), rV (some e)] (I, Z) Q := by
  have hek' := hek
  unfold eok at hek'
  have q := tRace_ok (tp := tp) (n := n) (s := ((rn blk tp n 0, 0, -1), row0)) Tk.o row0_ok.1 row0_ok.2.1
  have q2 := tRcs_ok (tp := tp) (n := n) 600 _ q.1 q.2.1 q.2.2
  have hok := tTell_ok (tp := tp) (n := n)
  refine T4_tell (s4_tell_0 (by omega) (am_ow he.1) fun Q' hK => T3_empty (s3_empty_0 he.1 he.2.1.2 he.2.2.1.2 (hK _ ?_)))
  dsimp only
  have f0 : EF e I (u2 (u2 (u2 (u2 (u2 (u2 (u2 I e 2 0) e 3 0) e 4 0) e 5 0) (e + 2) ((0 : Int)).toNat 50) (e + 2) ((1 : Int)).toNat 110) (e + 2) ((2 : Int)).toNat 100) := ((((((EF.rfl.u (by omega)).u (by omega)).u (by omega)).u (by omega)).u (by omega)).u (by omega)).u (by omega)
  refine s4_tell_4 (by omega) fun Q' hK => ct_readRace (s := ((rn blk tp n 0, 0, -1), row0)) hz (by omega) hB (hT.ef f0 hek) hk he hek ?_ Tk.o ⟨?_, fun r hr => absurd hr (by show ¬ r < 0; omega)⟩ row0_ok.1 row0_ok.2.1 fun I1 f1 g1 v1 => hK _ (s4_tell_9 ?_)
  · unfold RdC
    rw [u2r (by omega), u2r (by omega), u2r (by omega), u2r (by omega), u2r (by omega), u2r (by omega), u2r (by omega)]
    exact hR
  · refine ⟨?_, ?_, ?_, ?_, ?_, ?_, ?_⟩
    · rw [u2r (by omega), u2r (by omega), u2r (by omega), u2n (by omega), u2n (by omega), u2n (by omega), u2_at]; rfl
    · rw [u2r (by omega), u2r (by omega), u2r (by omega), u2n (by omega), u2n (by omega), u2_at]; rfl
    · rw [u2r (by omega), u2r (by omega), u2r (by omega), u2n (by omega), u2_at]; rfl
    · rw [u2r (by omega), u2r (by omega), u2r (by omega), u2_at]; rfl
    · show u2 _ (e + 2) 2 100 (e + 2) 0 = 50
      rw [u2n (by omega)]
      show u2 _ (e + 2) 1 110 (e + 2) 0 = 50
      rw [u2n (by omega)]
      exact u2_at
    · show u2 _ (e + 2) 2 100 (e + 2) 1 = 110
      rw [u2n (by omega)]
      exact u2_at
    · exact u2_at
  · refine lp_rcs (I0 := I) (tp := tp) (n := n) (e := e) hz (by omega) hB hT hk he hek (S := tRcs tp n 600 (tRace tp n ((rn blk tp n 0, 0, -1), row0))) (fun I2 f2 g2 v2 => ?_) 600 0 I1 _ rfl (Nat.zero_le _) rfl (f0.tr f1) g1 v1 q.1 q.2.1 q.2.2
    refine lp_lns (I0 := I) (tp := tp) (n := n) (e := e) hz hd hB hT hk he hek (S := tTell tp n) (fun I3 v f3 g3 v3 => ?_) 600 0 I2 _ rfl (Nat.zero_le _) rfl f2 g2 v2 q2.1 q2.2.1
    by_cases w : (tTell tp n).1.2.1 = 0
    · rw [if_pos w]
      refine s4_tell_76 (by omega) (am_ow he.1) (fun z => absurd z (by decide)) (fun _ Q' hK => ct_reckonAll (I := I3) (by omega) he hok.2.1 v3.1 v3.2 fun I4 f4 v4 => hK _ (s4_tell_83 ?_))
      refine h I4 (f3.tr fun x _ a => f4 x (by omega)) ?_ (fun _ => v4)
      unfold RdC
      rw [f4 76 (by omega)]
      exact g3
    · rw [if_neg w]
      exact s4_tell_76 (by omega) (am_ow he.1) (fun _ => s4_tell_83 (h I3 f3 g3 fun z => absurd z w)) (fun z => absurd rfl z)
end
/-- the class's shape, some pointers changed -/
theorem El.cp {I I' : Nat → Nat → Int} {P P' : Nat → Nat → Option Nat} {Z : (Nat → Nat × Nat) × Nat × Bool} {e : Nat} (h : El (I, P, Z) e) (hp : ∀ x, e ≤ x → x < e + 21 → P' x = P x) : El (I', P', Z) e := by
  obtain ⟨a1, a2, a3, a4⟩ := h
  refine ⟨a1, ?_, a3, fun r hr => ?_⟩
  · show P' e 0 = _ ∧ P' e 1 = _
    rw [hp e (by omega) (by omega)]; exact a2
  · obtain ⟨b1, b2, b3, b4⟩ := a4 r hr
    refine ⟨?_, b2, ?_, b4⟩
    · show P' (e + 1) r = _
      rw [hp (e + 1) (by omega) (by omega)]; exact b1
    · show P' (ec e r) 0 = _ ∧ P' (ec e r) 1 = _ ∧ P' (ec e r) 2 = _ ∧ P' (ec e r) 3 = _ ∧ P' (ec e r) 4 = _
      rw [hp (ec e r) (by unfold ec; omega) (by unfold ec; omega)]; exact b3
theorem Au.cp {I I' : Nat → Nat → Int} {P P' : Nat → Nat → Option Nat} {Z : (Nat → Nat × Nat) × Nat × Bool} {e : Nat} (h : Au (I, P, Z) e) (hp : ∀ x, e ≤ x → x < e + 12 → P' x = P x) : Au (I', P', Z) e := by
  obtain ⟨a1, a2, a3, a4⟩ := h
  refine ⟨a1, ?_, a3, fun r hr => ?_⟩
  · show P' e 0 = _ ∧ P' e 1 = _ ∧ P' e 2 = _ ∧ P' e 3 = _ ∧ P' e 4 = _
    rw [hp e (by omega) (by omega)]; exact a2
  · obtain ⟨b1, b2⟩ := a4 r hr
    refine ⟨?_, b2⟩
    show P' (e + 1) r = _ ∧ P' (e + 5) r = _
    rw [hp (e + 1) (by omega) (by omega), hp (e + 5) (by omega) (by omega)]; exact b1
theorem Cl.cp {I I' : Nat → Nat → Int} {P P' : Nat → Nat → Option Nat} {Z : (Nat → Nat × Nat) × Nat × Bool} {w s w' s' : Nat} (h : Cl (I, P, Z) w s) (hp : ∀ x, x ≠ 1 → x ≠ 76 → P' x = P x) (h1 : ∀ j, j ≠ 4 → j ≠ 5 → P' 1 j = P 1 j) (h4 : P' 1 4 = some w') (h5 : P' 1 5 = some s') (hw : w' = 5 ∧ s' = 26 ∨ w' = 26 ∧ s' = 5) : Cl (I', P', Z) w' s' := by
  obtain ⟨a1, a2, a3, ⟨b0, b3, b4, b5, b6, b7, b8, b9, b10, b12⟩, a5, ⟨c1, c2, c3⟩, ⟨d1, d2⟩, ⟨k1, k2, k3⟩, ⟨p1, p2, p3⟩, a10, ⟨u1, u2_, u3⟩⟩ := h
  refine ⟨a1, hw, a3, ?_, a5, ⟨c1.cp fun x a b => hp x (by omega) (by omega), c2.cp fun x a b => hp x (by omega) (by omega), c3.cp fun x a b => hp x (by omega) (by omega)⟩, ⟨d1.cp fun x a b => hp x (by omega) (by omega), d2.cp fun x a b => hp x (by omega) (by omega)⟩, ⟨k1, ?_, k3⟩, ⟨p1, ?_, p3⟩, a10, ⟨u1, ?_, u3⟩⟩
  · show P' 1 0 = _ ∧ P' 1 3 = _ ∧ P' 1 4 = _ ∧ P' 1 5 = _ ∧ P' 1 6 = _ ∧ P' 1 7 = _ ∧ P' 1 8 = _ ∧ P' 1 9 = _ ∧ P' 1 10 = _ ∧ P' 1 12 = _
    rw [h1 0 (by omega) (by omega), h1 3 (by omega) (by omega), h1 6 (by omega) (by omega), h1 7 (by omega) (by omega), h1 8 (by omega) (by omega), h1 9 (by omega) (by omega), h1 10 (by omega) (by omega), h1 12 (by omega) (by omega)]
    exact ⟨b0, b3, h4, h5, b6, b7, b8, b9, b10, b12⟩
  · show P' 71 0 = _ ∧ P' 71 1 = _ ∧ P' 71 2 = _ ∧ P' 71 3 = _
    rw [hp 71 (by omega) (by omega)]; exact k2
  · show P' 3 0 = _
    rw [hp 3 (by omega) (by omega)]; exact p2
  · show P' 78 0 = _ ∧ P' 78 1 = _ ∧ P' 78 2 = _
    rw [hp 78 (by omega) (by omega)]; exact u2_
section
variable {G : am_G} {dp : Nat} {Q : am_Q} {Z : (Nat → Nat × Nat) × Nat × Bool}
theorem ct_takeTape {I : Nat → Nat → Int} {P : Nat → Nat → Option Nat} {tp : Nat → Int} {n w s : Nat} (hd : 2 ≤ dp) (hB : TpB tp) (hT : Tb I tp n) (hC : Cl (I, P, Z) w s) (h : ∀ I' : Nat → Nat → Int, (∀ x, x ≠ 1 → x ≠ 76 → I' x = I x) → (∀ j, j ≠ 1 → I' 1 j = I 1 j) → I' 1 1 = 0 → RdC I' tp n (rn blk tp n 0, 0, -1) → Q (.inl none) (I', u2 P 76 0 (some 2), Z)) : T G dp 0 0 M8_takeTape [rV (some 1), iV n] (I, P, Z) Q := by
  refine T8_takeTape (s8_takeTape_0 (by omega) (am_ow hC.o) hC.p9 hC.p.1 (am_ow hC.rd) fun Q' hK => ct_open (tp := tp) (by omega) hB hT hC.rd hC.tape fun I1 f1 g1 => hK _ (s8_takeTape_12 hC.o ?_))
  refine h _ (fun x a b => by dsimp only; rw [u2r a]; exact f1 x b) (fun j hj => by dsimp only; rw [u2n hj, f1 1 (by omega)]) u2_at ?_
  unfold RdC
  dsimp only
  rw [u2r (by omega)]
  exact g1
theorem Tb.of {I : Nat → Nat → Int} {tp : Nat → Int} {n m : Nat} (h : TpC I tp m) (hn : n ≤ m) : Tb I tp n := ⟨by have := h.2.1; omega, fun j hj => h.2.2 j (by omega)⟩
/-- what the class's text methods leave alone -/
def TxF (I I' : Nat → Nat → Int) : Prop := (∀ x, x ≠ 1 → (x < 5 ∨ 82 ≤ x) → I' x = I x) ∧ ∀ j, j ≠ 1 → j ≠ 2 → I' 1 j = I 1 j
theorem q_election {I : Nat → Nat → Int} {P : Nat → Nat → Option Nat} {tp : Nat → Int} {i : Int} {m w s na : Nat} {R : Nat → Int} {Pa : Nat → Nat → Int} (hz : SZ G) (hd : 10 ≤ dp) (hC : Cl (I, P, Z) w s) (hX : CX I w R na Pa) (hB : TpB tp) (hT : TpC I tp m) (h1 : ¬ (0 ≤ i ∧ i ≤ m) → Q (.inr 0) (I, P, Z)) (hF : ∀ n : Nat, i = n → n ≤ m → (tTell tp n).1.2.1 ≠ 0 → ∀ (I' : Nat → Nat → Int) (P' : Nat → Nat → Option Nat), Cl (I', P', Z) w s → (∀ x, x ≠ 1 → x ≠ 76 → P' x = P x) → TxF I I' → CX I' w R na Pa → I' 1 1 = 0 → I' 1 2 = (tTell tp n).1.2.2 → Q (.inl (some (iV (-10 - (tTell tp n).1.2.1)))) (I', P', Z)) (h0 : ∀ n : Nat, i = n → n ≤ m → (tTell tp n).1.2.1 = 0 → ∀ (I' : Nat → Nat → Int) (P' : Nat → Nat → Option Nat), Cl (I', P', Z) s w → (∀ x, x ≠ 1 → x ≠ 76 → P' x = P x) → TxF I I' → CX I' s (tTell tp n).2 0 Pa → I' 1 1 = 0 → I' 1 2 = -1 → Q (.inl (some (iV ((tTell tp n).2 1)))) (I', P', Z)) : T G dp 4 24 M8_election [rV (some 1), iV i] (I, P, Z) Q := by
  have e1 : (I, P, Z).1 1 1 = m := hT.1
  have hw := hC.ws
  refine T8_election (s8_election_0 (by omega) (by omega) (by omega) (am_ow hC.o) (fun q => hC.nx0 (h1 (by omega))) (fun q q2 Q' hK => ?_) (fun _ q => hC.nx0 (h1 (by omega))))
  rw [e1] at q2
  obtain ⟨n, rfl⟩ : ∃ n : Nat, i = n := ⟨i.toNat, by omega⟩
  have hnm : n ≤ m := by omega
  have hTn := Tb.of hT hnm
  have hF := hF n rfl hnm
  have h0 := h0 n rfl hnm
  have hek : eok s := by unfold eok; omega
  refine ct_takeTape (tp := tp) (by omega) hB hTn hC fun I1 f1 f1' t1 g1 => hK _ ?_
  have hC1 : Cl (I1, u2 P 76 0 (some 2), Z) w s := hC.cp (fun x _ b => u2_row P (by omega)) (fun j _ _ => by rw [u2_row P (by omega)]) (by rw [u2_row P (by omega)]; exact hC.p4) (by rw [u2_row P (by omega)]; exact hC.p.2.2.2.1) hw
  have hk1 : Rk (I1, u2 P 76 0 (some 2), Z) := ⟨hC.rd, (show u2 P 76 0 (some 2) 76 0 = some 2 from u2_same _ _ _ _), hC.tape⟩
  have hT1 : Tb I1 tp n := ⟨hTn.1, fun j hj => by rw [f1 2 (by omega) (by omega)]; exact hTn.2 j hj⟩
  refine s8_election_27 (by omega) (am_ow hC1.o) hC1.p9 hC1.p.2.2.2.1 fun Q' hK => ct_tell (I := I1) hz (by omega) hB hT1 hk1 hC1.spare hek g1 fun I2 f2 g2 v2 => hK _ ?_
  have ok := tTell_ok (tp := tp) (n := n)
  have a6 : (u2 I2 1 2 (I2 76 7)) 76 6 = (tTell tp n).1.2.1 := by rw [u2r (by omega)]; exact g2.2.2.2.2.2.1
  have a7 : I2 76 7 = (tTell tp n).1.2.2 := g2.2.2.2.2.2.2
  have fr : ∀ x, x ≠ 1 → x ≠ 76 → (x < s ∨ s + 21 ≤ x) → I2 x = I x := fun x a b c => by rw [f2 x b c, f1 x a b]
  have f21 : I2 1 = I1 1 := f2 1 (by omega) (by omega)
  have hX2 : CX (u2 I2 1 2 (I2 76 7)) w R na Pa := hX.same (fun x a b => by rw [u2r (by omega)]; exact fr x (by omega) (by omega) (by omega)) (fun x a b => by rw [u2r (by omega)]; exact fr x (by omega) (by omega) (by omega)) (fun x a b => by rw [u2r (by omega)]; exact fr x (by omega) (by omega) (by omega))
  have hTx : TxF I (u2 I2 1 2 (I2 76 7)) := ⟨fun x a b => by rw [u2r a]; exact fr x a (by omega) (by omega), fun j a b => by rw [u2n b, f21]; exact f1' j a⟩
  refine s8_election_38 (p2 := s) (p3 := w) (p4 := 71) (by omega) hC1.p9 (am_ow hC1.rd) hC1.o hC1.p.2.2.2.1 hC1.p4 ?_ (am_ow hC1.acts.1) (fun q Q' hK => ?_) (fun q => ?_)
  · show u2 (u2 (u2 P 76 0 (some 2)) 1 5 (some w)) 1 4 (some s) 1 8 = some 71
    rw [u2_ne _ (Or.inr (by omega)), u2_ne _ (Or.inr (by omega))]
    exact hC1.p8
  · dsimp only at q
    rw [a6] at q
    have v2 := v2 q
    obtain ⟨hI, A, hA, hU⟩ := hX2
    have hC2 : Cl (u2 I2 1 2 (I2 76 7), u2 (u2 (u2 P 76 0 (some 2)) 1 5 (some w)) 1 4 (some s), Z) s w := hC1.cp (fun x a _ => by rw [u2_row _ a, u2_row _ a]) (fun j a b => by rw [u2_ne _ (Or.inr a), u2_ne _ (Or.inr b)]) (u2_same _ _ _ _) (by rw [u2_ne _ (Or.inr (by omega))]; exact u2_same _ _ _ _) (by omega)
    dsimp only
    refine ct_forget (A := A) hC2.acts (fun I3 l1 l2 => hK _ ?_)
    have v3 : ElV I3 s (tTell tp n).2 := v2.same ok.2.1 fun x a b => by rw [l1 x (by omega), u2r (by omega)]
    refine s8_election_95 (by omega) (am_ow hC2.o) fun Q' hK => ct_replay (I := I3) (by omega) hC2 ok.2.1 v3 (fun I4 m1 m2 => hK _ ?_)
    have v4 : ElV I4 s (tTell tp n).2 := v3.same ok.2.1 fun x a b => m1 x (by omega)
    refine s8_election_99 (am_ow hC2.o) hC2.p4 (am_ow hC2.now.1) ?_
    have fr4 : ∀ x, x < 47 ∨ 59 ≤ x → x < 71 ∨ 76 ≤ x → I4 x = u2 I2 1 2 (I2 76 7) x := fun x a b => by rw [m1 x a, l1 x b]
    dsimp only
    rw [v4.2.1]
    refine h0 q I4 _ hC2 (fun x a b => by rw [u2_row _ a, u2_row _ a, u2_row _ b]) ⟨fun x a b => by rw [fr4 x (by omega) (by omega)]; exact hTx.1 x a b, fun j a b => by rw [fr4 1 (by omega) (by omega)]; exact hTx.2 j a b⟩ ⟨⟨ok.2.1, v4, m2⟩, A, l2.same (fun x q1 q2 => m1 x (by omega)), fun j hj => absurd hj (by omega)⟩ ?_ ?_
    · rw [fr4 1 (by omega) (by omega), u2n (by omega), f21]; exact t1
    · rw [fr4 1 (by omega) (by omega), u2_at, a7]; exact ok.1.2.1 q
  · dsimp only at q ⊢
    rw [a6] at q ⊢
    have hw3 := ok.1.2.2
    rw [wr_of (by omega) (by omega)]
    refine hF q _ _ (hC1.cp (fun _ _ _ => rfl) (fun _ _ _ => rfl) hC1.p4 hC1.p.2.2.2.1 hw) (fun x _ b => u2_row P b) hTx hX2 ?_ ?_
    · rw [u2n (by omega), f21]; exact t1
    · rw [u2_at]; exact a7
end
