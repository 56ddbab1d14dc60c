/-! THE CLASS answers a question -/
theorem sov01 {op l r : Int} : sov op l r = 0 ∨ sov op l r = 1 := by
  unfold sov b10
  repeat' split
  all_goals first | exact Or.inl rfl | exact Or.inr rfl
def qh (R : Nat → Int) (c : QC) (b : Nat) : Bool := decide (¬ (rnC R b c []).headD 0 = 0)
def anS (p : Nat → Bool) (o : Nat → Int) (kd9 : Int) : Nat → Nat → Int → Int
  | 0, _, s => if kd9 = 1 then -1 else s
  | g + 1, b, s => if p b = true then (if kd9 = 1 then (b : Int) else anS p o kd9 g (b + 1) (s + if kd9 = 0 then 1 else o b)) else anS p o kd9 g (b + 1) s
theorem anS_s {p : Nat → Bool} {o : Nat → Int} {kd9 s : Int} {g b : Nat} : anS p o kd9 (g + 1) b s = if p b = true then (if kd9 = 1 then (b : Int) else anS p o kd9 g (b + 1) (s + if kd9 = 0 then 1 else o b)) else anS p o kd9 g (b + 1) s := rfl
def askV (R : Nat → Int) (c : QC) (kd9 : Int) : Int := anS (qh R c) (fun b => cnt (dw R (R 5)) (kN R) b) kd9 (rN R) 0 0
theorem CdV.hf {I J : Nat → Nat → Int} {c : QC} (h : CdV I c) (f : HF I J) : CdV J c := by
  unfold CdV at h ⊢
  rw [f.2 3 (by omega), f.1 79 (by omega) (by omega), f.1 80 (by omega) (by omega)]
  exact h
theorem CI.hf {I J : Nat → Nat → Int} {w : Nat} {R : Nat → Int} (hI : CI I w R) (hw : w + 21 ≤ 76) (f : HF I J) : CI J w R := hI.same (fun x a b => f.1 x (by omega) (by omega)) (fun x a b => f.1 x (by omega) (by omega))
section
variable {G : am_G} {dp : Nat} {Q : am_Q} {Z : (Nat → Nat → Option Nat) × (Nat → Nat × Nat) × Nat × Bool}
theorem ct_holds {I : Nat → Nat → Int} {R : Nat → Int} {w b : Nat} {c : QC} (hd : 1 ≤ dp) (hq : Qu (I, Z) 78) (hE : El (I, Z) w) (hw : w + 21 ≤ 76) (hA : Au (I, Z) 47) (hI : CI I w R) (hb : b < rN R) (hC : CdV I c) (hl : c.length ≤ 200) (hV : VC (R 0) c) (h : ∀ I' : Nat → Nat → Int, HF I I' → Q (.inl (some (iV (b01 (qh R c b))))) (I', Z)) : T G dp 0 0 M5_holds [rV (some 78), rV (some w), rV (some 47), iV b] (I, Z) Q := by
  have hn := hI.1.n
  have lp : ∀ (d : QC) (k : Nat) (J : Nat → Nat → Int) (st : List Int) (o5 o6 : Option am_V), c.drop k = d → k ≤ c.length → HF I J → StV J st → rnC R b d st = rnC R b c [] → X G dp 0 0 M5_holds 8 [some (rV (some 78)), some (rV (some w)), some (rV (some 47)), some (iV b), some (iV k), o5, o6] [] (J, Z) Q := by
    intro d
    induction d with
    | nil =>
      intro k J st o5 o6 hdr hk9 f S hr
      have kl : c.length ≤ k := List.drop_eq_nil_iff.mp hdr
      have e3 : (J, Z).1 78 3 = (c.length : Int) := by rw [show (J, Z).1 78 3 = I 78 3 from f.2 3 (by omega), hC.1]; omega
      have ab : ∀ {C : Prop}, ¬ (J, Z).1 78 3 ≤ (k : Int) → C := fun q => absurd (by rw [e3]; omega) q
      have hr : st = rnC R b c [] := hr
      refine s5_holds_8 hd (am_ow hq.1) hq.2.1.1 (am_rw hq.2.2.1) hq.2.1.2.1 (am_rw hq.2.2.2.1) hq.2.1.2.1 (am_rw hq.2.2.2.1) (fun _ Q' hK => ct_pop (I := J) hq S fun J1 f1 S1 => hK _ _ ?_) (fun q => ab q) (fun q => ab q) (fun q => ab q) (fun q => ab q) (fun q => ab q) (fun q => ab q) (fun q => ab q) (fun q => ab q) (fun q => ab q)
      unfold qh b01 at h
      rw [← hr] at h
      refine s5_holds_147 (fun q => ?_) (fun q => ?_)
      · have := h J1 (f.tr f1)
        rw [decide_eq_false (fun z => z q), if_neg (by decide)] at this
        exact this
      · have := h J1 (f.tr f1)
        rw [decide_eq_true q, if_pos rfl] at this
        exact this
    | cons x d ih =>
      intro k J st o5 o6 hdr hk9 f S hr
      have kl : k < c.length := Decidable.byContradiction fun z => by rw [List.drop_eq_nil_iff.mpr (by omega)] at hdr; exact absurd hdr (by simp)
      have hx : c[k]? = some x := by
        have : (c.drop k)[0]? = some x := by rw [hdr]; rfl
        rw [List.getElem?_drop] at this
        exact this
      have hd2 : c.drop (k + 1) = d := by
        have : (c.drop k).drop 1 = d := by rw [hdr]; rfl
        rw [List.drop_drop] at this
        exact this
      have hvx := hV x (List.mem_of_getElem? hx)
      have hJ := (hC.hf f).2 k x (by omega) hx
      have e3 : (J, Z).1 78 3 = (c.length : Int) := by rw [show (J, Z).1 78 3 = I 78 3 from f.2 3 (by omega), hC.1]; omega
      have e79 : (J, Z).1 79 ((k : Int)).toNat = x.1 := by rw [Int.toNat_natCast]; exact hJ.1
      have e80 : (J, Z).1 80 ((k : Int)).toNat = x.2 := by rw [Int.toNat_natCast]; exact hJ.2
      have hr : rnC R b d (stq R b x st) = rnC R b c [] := hr
      have go : ∀ (J1 : Nat → Nat → Int) (st1 : List Int) (i5 : Int) (o6 : Option am_V), HF I J1 → StV J1 st1 → st1 = stq R b x st → X G dp 0 0 M5_holds 137 [some (rV (some 78)), some (rV (some w)), some (rV (some 47)), some (iV b), some (iV k), some (iV i5), o6] [] (J1, Z) Q := by
        intro J1 st1 i5 o6 f1 S1 e1
        refine s5_holds_137 ?_
        rw [wr_s (by omega)]
        exact ih (k + 1) J1 st1 _ _ hd2 (by omega) f1 S1 (by rw [e1]; exact hr)
      refine s5_holds_8 hd (am_ow hq.1) hq.2.1.1 (am_rw hq.2.2.1) hq.2.1.2.1 (am_rw hq.2.2.2.1) hq.2.1.2.1 (am_rw hq.2.2.2.1) (fun q => absurd q (by rw [e3]; omega)) (fun _ q => absurd q (by omega)) (fun _ _ a1 a2 a3 Q' hK => ?_) (fun _ _ a1 a2 a3 Q' hK => ?_) (fun _ _ a1 a2 Q' hK => ?_) (fun _ _ a1 Q' hK => ?_) (fun _ _ => by omega) (fun _ _ => by omega) (fun _ _ _ _ => by omega) (fun _ _ _ => by omega)
      · rw [e79] at a1 a2 a3
        rw [e79] at hK
        refine ct_pop (I := J) hq S fun J1 f1 S1 => hK _ _ ?_
        refine s5_holds_112 hd (am_ow hq.1) fun Q' hK' => ct_pop (I := J1) hq S1 fun J2 f2 S2 => hK' _ _ ?_
        refine s5_holds_121 hd fun Q' hK' => ct_isSo (I := J2) ⟨by omega, a3⟩ (hK' _ _ ?_)
        have hst : stq R b x st = psq (sov x.1 (st.tail.headD 0) (st.headD 0)) st.tail.tail := by unfold stq; rw [if_neg (by omega), if_neg (by omega), if_neg a3]
        rcases sov01 (op := x.1) (l := st.tail.headD 0) (r := st.headD 0) with z | z
        · rw [z]
          exact s5_holds_126 hd (am_ow hq.1) (fun _ Q' hK' => ct_push (I := J2) hq S2 fun J3 f3 S3 => hK' _ (go J3 _ _ _ (((f.tr f1).tr f2).tr f3) S3 (by rw [hst, z]))) (fun q => absurd rfl q)
        · rw [z]
          exact s5_holds_126 hd (am_ow hq.1) (fun q => absurd q (by decide)) (fun _ Q' hK' => ct_push (I := J2) hq S2 fun J3 f3 S3 => hK' _ (go J3 _ _ _ (((f.tr f1).tr f2).tr f3) S3 (by rw [hst, z])))
      · rw [e79] at a1 a2 a3
        rw [e79] at hK
        have hst : stq R b x st = psq (wr (1 - st.headD 0)) st.tail := by unfold stq; rw [if_neg (by omega), if_neg (by omega), if_pos a3]
        refine ct_pop (I := J) hq S fun J1 f1 S1 => hK _ _ ?_
        exact s5_holds_101 hd (am_ow hq.1) fun Q' hK' => ct_push (I := J1) hq S1 fun J2 f2 S2 => hK' _ (s5_holds_105 (go J2 _ _ _ ((f.tr f1).tr f2) S2 hst.symm))
      · rw [e79] at a1 a2
        rw [e79] at hK ⊢
        rw [e80]
        have hst : stq R b x st = psq (rvl R b x.1 x.2) st := by unfold stq; rw [if_neg (by omega), if_pos (by omega)]
        refine ct_raceValue (I := J) hE (hI.hf hw f) hb (hvx.2 (by omega) (by omega)) (hK _ _ ?_)
        exact s5_holds_82 hd (am_ow hq.1) fun Q' hK' => ct_push (I := J) hq S fun J3 f3 S3 => hK' _ (s5_holds_85 (go J3 _ _ _ (f.tr f3) S3 hst.symm))
      · rw [e79] at a1
        rw [e79] at hK ⊢
        rw [e80]
        have hst : stq R b x st = psq (bvl R b x.1 x.2) st := by unfold stq; rw [if_pos (by omega)]
        refine ct_ballotValue (I := J) hA (hI.hf hw f) (by omega) (hK _ _ ?_)
        exact s5_holds_55 hd (am_ow hq.1) fun Q' hK' => ct_push (I := J) hq S fun J3 f3 S3 => hK' _ (s5_holds_58 (go J3 _ _ _ (f.tr f3) S3 hst.symm))
  refine T5_holds (s5_holds_0 hq.1 ?_)
  exact lp c 0 _ [] _ _ rfl (Nat.zero_le _) ⟨fun x a b => u2r a, fun j hj => u2n hj⟩ ⟨u2_at, by decide, fun i v hv => absurd hv (by simp)⟩ rfl
theorem ct_answer {I : Nat → Nat → Int} {R : Nat → Int} {w : Nat} {c : QC} (hd : 2 ≤ dp) (hq : Qu (I, Z) 78) (hE : El (I, Z) w) (hw : w + 21 ≤ 76) (hA : Au (I, Z) 47) (hI : CI I w R) (hC : CdV I c) (hl : c.length ≤ 200) (hV : VC (R 0) c) (h : ∀ I' : Nat → Nat → Int, HF I I' → Q (.inl (some (iV (askV R c (I 78 5))))) (I', Z)) : T G dp 0 0 M5_answer [rV (some 78), rV (some w), rV (some 47)] (I, Z) Q := by
  have hn := hI.1.n
  have hk := kN_le R
  have lp : ∀ (g b : Nat) (sm : Int) (J : Nat → Nat → Int), rN R - b = g → b ≤ rN R → 0 ≤ sm → sm ≤ 300 * (b : Int) → HF I J → anS (qh R c) (fun b => cnt (dw R (R 5)) (kN R) b) (I 78 5) g b sm = askV R c (I 78 5) → X G dp 0 0 M5_answer 5 [some (rV (some 78)), some (rV (some w)), some (rV (some 47)), some (iV sm), some (iV b)] [] (J, Z) Q := by
    intro g
    induction g with
    | zero =>
      intro b sm J hu hb s0 s1 f hs
      have e3 : (J, Z).1 w 3 = (rN R : Int) := by rw [show (J, Z).1 w 3 = I w 3 from by rw [show (J, Z).1 w = I w from f.1 w (by omega) (by omega)], hI.2.1.2.1]; exact hn.1
      have e5 : (J, Z).1 78 5 = I 78 5 := f.2 5 (by omega)
      have ab : ∀ {C : Prop}, ¬ (J, Z).1 w 3 ≤ (b : Int) → C := fun q => absurd (by rw [e3]; omega) q
      have hs : (if I 78 5 = 1 then -1 else sm) = askV R c (I 78 5) := hs
      refine s5_answer_5 (by omega) (am_ow hE.1) (am_ow hq.1) (fun _ q => ?_) (fun _ q => ?_) (fun q => ab q) (fun q => ab q) (fun q => ab q)
      · rw [e5] at q
        rw [if_neg q] at hs
        rw [hs]; exact h J f
      · rw [e5] at q
        rw [if_pos q] at hs
        rw [hs]; exact h J f
    | succ g ih =>
      intro b sm J hu hb s0 s1 f hs
      have e3 : (J, Z).1 w 3 = (rN R : Int) := by rw [show (J, Z).1 w 3 = I w 3 from by rw [show (J, Z).1 w = I w from f.1 w (by omega) (by omega)], hI.2.1.2.1]; exact hn.1
      rw [anS_s] at hs
      refine s5_answer_5 (by omega) (am_ow hE.1) (am_ow hq.1) (fun q => absurd q (by rw [e3]; omega)) (fun q => absurd q (by rw [e3]; omega)) (fun _ q => absurd q (by omega)) (fun _ q => absurd q (by omega)) (fun _ _ Q' hK => ?_)
      refine ct_holds (I := J) (R := R) (c := c) (by omega) hq hE hw hA (hI.hf hw f) (by omega) (hC.hf f) hl hV fun J1 f1 => hK _ _ ?_
      have f01 := f.tr f1
      have e5 : (J1, Z).1 78 5 = I 78 5 := f01.2 5 (by omega)
      have e58 : (J1, Z).1 58 ((b : Int)).toNat = cnt (dw R (R 5)) (kN R) b := by
        rw [Int.toNat_natCast]
        show J1 58 b = _
        rw [f01.1 58 (by omega) (by omega)]
        exact hI.2.2.2.2.2.2.2.2 b (by omega)
      have hcn := cnt_rng (dw R (R 5)) b (kN R)
      by_cases z : qh R c b = true
      · rw [if_pos z] at hs
        rw [z]
        refine s5_answer_30 (am_ow hq.1) (am_ow hA.1) hA.2.1.2.2.2.2 (am_rw hA.2.2.1.2.2.2.2) (fun q => absurd q (by decide)) (fun _ q q2 => ?_) (fun _ q q2 => ?_) (fun _ q => ?_) (fun _ _ _ => by omega) (fun _ _ _ => by omega)
        · rw [e5] at q q2
          rw [if_neg q, if_neg q2] at hs
          rw [e58, wr_of (by omega) (by omega), wr_s (by omega)]
          exact ih (b + 1) _ J1 (by omega) (by omega) (by omega) (by omega) f01 hs
        · rw [e5] at q q2
          rw [if_neg q, if_pos q2] at hs
          rw [wr_of (by omega) (by omega), wr_s (by omega)]
          exact ih (b + 1) _ J1 (by omega) (by omega) (by omega) (by omega) f01 hs
        · rw [e5] at q
          rw [if_pos q] at hs
          rw [hs]; exact h J1 f01
      · rw [if_neg z] at hs
        rw [eq_false_of_ne_true z]
        refine s5_answer_30 (am_ow hq.1) (am_ow hA.1) hA.2.1.2.2.2.2 (am_rw hA.2.2.1.2.2.2.2) (fun _ => ?_) (fun q => absurd rfl q) (fun q => absurd rfl q) (fun q => absurd rfl q) (fun q => absurd rfl q) (fun q => absurd rfl q)
        rw [wr_s (by omega)]
        exact ih (b + 1) _ J1 (by omega) (by omega) (by omega) (by omega) f01 hs
  exact T5_answer (s5_answer_0 (lp (rN R) 0 0 I rfl (Nat.zero_le _) (Int.le_refl _) (by omega) HF.rf rfl))
end
section
variable {G : am_G} {dp : Nat} {Q : am_Q} {Z : (Nat → Nat × Nat) × Nat × Bool}
theorem q_ask {I : Nat → Nat → Int} {P : Nat → Nat → Option Nat} {tp : Nat → Int} {i : Int} {m w s na : Nat} {R : Nat → Int} {Pa : Nat → Nat → Int} (hz : SZ G) (hd : 30 ≤ dp) (hC : Cl (I, P, Z) w s) (hX : CX I w R na Pa) (hB : TpB tp) (hT : TpC I tp m) (h1 : ¬ (0 ≤ i ∧ i ≤ m ∧ i ≤ 200) → Q (.inr 0) (I, P, Z)) (hF : ∀ n : Nat, i = n → n ≤ m → n ≤ 200 → (askT tp n (R 0)).1.2.1 ≠ 0 → ∀ (I' : Nat → Nat → Int) (P' : Nat → Nat → Option Nat), Cl (I', P', Z) w s → (∀ x, x ≠ 1 → x ≠ 76 → P' x = P x) → TxF I I' → CX I' w R na Pa → I' 1 1 = 0 → I' 1 2 = (askT tp n (R 0)).1.2.2 → Q (.inl (some (iV (-1000000000 - (askT tp n (R 0)).1.2.1)))) (I', P', Z)) (h0 : ∀ n : Nat, i = n → n ≤ m → n ≤ 200 → (askT tp n (R 0)).1.2.1 = 0 → ∀ (I' : Nat → Nat → Int) (P' : Nat → Nat → Option Nat), Cl (I', P', Z) w s → (∀ x, x ≠ 1 → x ≠ 76 → P' x = P x) → TxF I I' → CX I' w R na Pa → I' 1 1 = 0 → I' 1 2 = -1 → Q (.inl (some (iV (askV R (askT tp n (R 0)).2 (askK tp n))))) (I', P', Z)) : T G dp 4 24 M8_ask [rV (some 1), iV i] (I, P, Z) Q := by
  have e1 : (I, P, Z).1 1 1 = m := hT.1
  have hw := hC.ws
  refine T8_ask (s8_ask_0 (by omega) (by omega) (by omega) (am_ow hC.o) (fun q => hC.nx0 (h1 (by omega))) (fun _ q => hC.nx0 (h1 (by omega))) (fun q q2 q3 Q' hK => ?_) (fun _ _ q => hC.nx0 (h1 (by omega))))
  rw [e1] at q2
  obtain ⟨n, rfl⟩ : ∃ n : Nat, i = n := ⟨i.toNat, by omega⟩
  have hnm : n ≤ m := by omega
  have hTn := Tb.of hT hnm
  have hF := hF n rfl hnm (by omega)
  have h0 := h0 n rfl hnm (by omega)
  have hR0 := hX.1.1.c
  refine ct_takeTape (tp := tp) (by omega) hB hTn hC fun I1 f1 f1' t1 g1 => hK _ ?_
  have hC1 : Cl (I1, u2 P 76 0 (some 2), Z) w s := hC.cp (fun x _ b => u2_row P (by omega)) (fun j _ _ => by rw [u2_row P (by omega)]) (by rw [u2_row P (by omega)]; exact hC.p4) (by rw [u2_row P (by omega)]; exact hC.p.2.2.2.1) hw
  have hk1 : Rk (I1, u2 P 76 0 (some 2), Z) := ⟨hC.rd, (show u2 P 76 0 (some 2) 76 0 = some 2 from u2_same _ _ _ _), hC.tape⟩
  have hT1 : Tb I1 tp n := ⟨hTn.1, fun j hj => by rw [f1 2 (by omega) (by omega)]; exact hTn.2 j hj⟩
  have ew : (I1, u2 P 76 0 (some 2), Z).1 w 2 = R 0 := by show I1 w 2 = _; rw [f1 w (by omega) (by omega)]; exact hX.1.2.1.1
  refine s8_ask_35 (by omega) (am_ow hC1.o) hC1.p10 hC1.p9 hC1.p4 (am_ow hC1.now.1) (am_ow hC1.qu.1) fun Q' hK => ?_
  rw [ew]
  refine ct_hear (I := I1) (tp := tp) (n := n) (K := R 0) hz (by omega) hB hT1 hk1 hC1.qu (by omega) g1 fun I2 f2 g2 c2 k2 => hK _ ?_
  have ok := askT_k (tp := tp) (n := n) (K := R 0)
  have a6 : (u2 I2 1 2 (I2 76 7)) 76 6 = (askT tp n (R 0)).1.2.1 := by rw [u2r (by omega)]; exact g2.2.2.2.2.2.1
  have a7 : I2 76 7 = (askT tp n (R 0)).1.2.2 := g2.2.2.2.2.2.2
  have fr : ∀ x, x ≠ 1 → (x < 76 ∨ 82 ≤ x) → I2 x = I x := fun x a b => by rw [f2 x (by omega) (by omega) (by omega) (by omega), f1 x a (by omega)]
  have f21 : I2 1 = I1 1 := f2 1 (by omega) (by omega) (by omega) (by omega)
  have hX2 : CX (u2 I2 1 2 (I2 76 7)) w R na Pa := hX.same (fun x a b => by rw [u2r (by omega)]; exact fr x (by omega) (by omega)) (fun x a b => by rw [u2r (by omega)]; exact fr x (by omega) (by omega)) (fun x a b => by rw [u2r (by omega)]; exact fr x (by omega) (by omega))
  have hTx : TxF I (u2 I2 1 2 (I2 76 7)) := ⟨fun x a b => by rw [u2r a]; exact fr x a (by omega), fun j a b => by rw [u2n b, f21]; exact f1' j a⟩
  have hC2 : ∀ J : Nat → Nat → Int, Cl (J, u2 P 76 0 (some 2), Z) w s := fun J => hC1.cp (fun _ _ _ => rfl) (fun _ _ _ => rfl) hC1.p4 hC1.p.2.2.2.1 hw
  refine s8_ask_53 (p2 := 78) (p3 := w) (p4 := 47) (by omega) hC1.p9 (am_ow hC1.rd) hC1.o hC1.p10 hC1.p4 hC1.p6 (am_ow hC1.qu.1) (fun q Q' hK => ?_) (fun q => ?_)
  · dsimp only at q
    rw [a6] at q
    have gd := askT_gd q
    have c3 : CdV (u2 I2 1 2 (I2 76 7)) (askT tp n (R 0)).2 := by
      unfold CdV at c2 ⊢
      rw [u2r (by omega), u2r (by omega), u2r (by omega)]
      exact c2
    have hC3 := hC2 (u2 I2 1 2 (I2 76 7))
    refine ct_answer (I := u2 I2 1 2 (I2 76 7)) (R := R) (c := (askT tp n (R 0)).2) (by omega) hC3.qu hC3.now (by omega) hC3.audit hX2.1 c3 (by omega) gd.2 fun I3 f3 => hK _ _ (s8_ask_101 ?_)
    rw [u2r (by omega), k2 q]
    have fr3 : ∀ x, x ≠ 78 → x ≠ 81 → I3 x = u2 I2 1 2 (I2 76 7) x := f3.1
    refine h0 q I3 _ (hC2 I3) (fun x _ b => u2_row P b) ⟨fun x a b => by rw [fr3 x (by omega) (by omega)]; exact hTx.1 x a b, fun j a b => by rw [fr3 1 (by omega) (by omega)]; exact hTx.2 j a b⟩ (hX2.same (fun x a b => fr3 x (by omega) (by omega)) (fun x a b => fr3 x (by omega) (by omega)) (fun x a b => fr3 x (by omega) (by omega))) ?_ ?_
    · rw [fr3 1 (by omega) (by omega), u2n (by omega), f21]; exact t1
    · rw [fr3 1 (by omega) (by omega), u2_at, a7]; exact ok.2.1 q
  · dsimp only at q ⊢
    rw [a6] at q ⊢
    have hw3 := ok.2.2
    rw [wr_of (by omega) (by omega)]
    refine hF q _ _ (hC2 _) (fun x _ b => u2_row P b) hTx hX2 ?_ ?_
    · rw [u2n (by omega), f21]; exact t1
    · rw [u2_at]; exact a7
end
