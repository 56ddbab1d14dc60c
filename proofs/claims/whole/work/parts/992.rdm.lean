/-! THE TOKENS of the reference -/
def RdM (I : Nat → Nat → Int) (tp : Nat → Int) (n : Nat) (t : TS) : Prop := I 103 25 = n ∧ I 103 26 = (en tp n t.1 : Nat) ∧ I 103 27 = kd tp n t.1 ∧ I 103 28 = t.1 ∧ I 103 29 = (en tp n t.1 : Nat) ∧ I 103 30 = t.2.1 ∧ (t.2.1 ≠ 0 → I 103 31 = t.2.2)
def TbM (I : Nat → Nat → Int) (tp : Nat → Int) (n : Nat) : Prop := n ≤ 600 ∧ ∀ j, j < n → I 121 j = tp j
/-- the tokens' frame -/
def NF (I I' : Nat → Nat → Int) : Prop := (∀ x, x ≠ 103 → I' x = I x) ∧ ∀ k, k < 26 ∨ 31 < k → I' 103 k = I 103 k
theorem NF.rfl {I : Nat → Nat → Int} : NF I I := ⟨fun _ _ => Eq.refl _, fun _ _ => Eq.refl _⟩
theorem NF.tr {I J K : Nat → Nat → Int} (h : NF I J) (k : NF J K) : NF I K := ⟨fun x hx => (k.1 x hx).trans (h.1 x hx), fun x hx => (k.2 x hx).trans (h.2 x hx)⟩
theorem NF.u {I0 I : Nat → Nat → Int} {k : Nat} {z : Int} (h : NF I0 I) (hk : 26 ≤ k ∧ k ≤ 31) : NF I0 (u2 I 103 k z) :=
  ⟨fun x hx => by rw [u2r hx]; exact h.1 x hx, fun j hj => by rw [u2n (by omega)]; exact h.2 j hj⟩
theorem TbM.nf {I I' : Nat → Nat → Int} {tp : Nat → Int} {n : Nat} (h : TbM I tp n) (f : NF I I') : TbM I' tp n := ⟨h.1, fun j hj => by rw [f.1 121 (by omega)]; exact h.2 j hj⟩
/-- while a token is sought -/
def RN (I0 I : Nat → Nat → Int) (n : Nat) : Prop := NF I0 I ∧ I 103 25 = n ∧ I 103 30 = I0 103 30 ∧ I 103 31 = I0 103 31
theorem RN.u {I0 I : Nat → Nat → Int} {n k : Nat} {z : Int} (h : RN I0 I n) (hk : 26 ≤ k ∧ k ≤ 29) : RN I0 (u2 I 103 k z) n :=
  ⟨h.1.u (by omega), by rw [u2n (by omega)]; exact h.2.1, by rw [u2n (by omega)]; exact h.2.2.1, by rw [u2n (by omega)]; exact h.2.2.2⟩
def bA (tp : Nat → Int) (n p : Nat) : Int := if p < n then tp p else -1
section
variable {G : am_G} {dp : Nat} {Q : am_Q} {Z : (Nat → Nat → Option Nat) × (Nat → Nat × Nat) × Nat × Bool} {x y : Nat}
theorem r_byteAt {I : Nat → Nat → Int} {tp : Nat → Int} {n p : Nat} {z : Int} (hM : Md (I, Z)) (hT : TbM I tp n) (h25 : I 103 25 = n) (hz : z = p) (h : Q (.inl (some (iV (bA tp n p)))) (I, Z)) : T G dp 0 0 M9_byteAt [rV (some 103), iV z] (I, Z) Q := by
  subst hz
  have hn := hT.1
  have e : (I, Z).1 103 25 = n := h25
  unfold bA at h
  refine T9_byteAt (s9_byteAt_0 (am_ow hM.1) hM.tape.1 (am_rw hM.tape.2) (fun q => ?_) (fun q => ?_))
  · rw [e] at q
    rw [if_neg (by omega)] at h
    exact h
  · rw [e] at q
    rw [if_pos (by omega)] at h
    rw [Int.toNat_natCast, show (I, Z).1 121 p = tp p from hT.2 p (by omega)]
    exact h
theorem r_isSmall {c : Int} {I : Nat → Nat → Int} (h : Q (.inl (some (iV (b01 (sml c))))) (I, Z)) : T G dp 0 0 M9_isSmall [iV c] (I, Z) Q := by
  unfold sml b01 at h
  refine T9_isSmall (s9_isSmall_0 (fun q => ?_) (fun q q2 => ?_) (fun q q2 => ?_))
  · rw [decide_eq_false (by omega), if_neg (by decide)] at h; exact h
  · rw [decide_eq_false (by omega), if_neg (by decide)] at h; exact h
  · rw [decide_eq_true (by omega), if_pos rfl] at h; exact h
theorem r_isFigure {c : Int} {I : Nat → Nat → Int} (h : Q (.inl (some (iV (b01 (fig c))))) (I, Z)) : T G dp 0 0 M9_isFigure [iV c] (I, Z) Q := by
  unfold fig b01 at h
  refine T9_isFigure (s9_isFigure_0 (fun q => ?_) (fun q q2 => ?_) (fun q q2 => ?_))
  · rw [decide_eq_false (by omega), if_neg (by decide)] at h; exact h
  · rw [decide_eq_false (by omega), if_neg (by decide)] at h; exact h
  · rw [decide_eq_true (by omega), if_pos rfl] at h; exact h
theorem bA_in {tp : Nat → Int} {n p : Nat} (h : p < n) : bA tp n p = tp p := if_pos h
theorem bA_out {tp : Nat → Int} {n p : Nat} (h : n ≤ p) : bA tp n p = -1 := if_neg (by omega)
theorem rn_bA {q : Int → Bool} {tp : Nat → Int} {n p : Nat} (hp : p ≤ n) (h : ¬ q (bA tp n p) = true) : rn q tp n p = p := by
  by_cases z : p < n
  · rw [bA_in z] at h; exact rn_no h
  · exact rn_end (by omega)
theorem rn_bG {q : Int → Bool} {tp : Nat → Int} {n p : Nat} (hq : ¬ q (-1) = true) (h : q (bA tp n p) = true) : p < n ∧ rn q tp n p = rn q tp n (p + 1) := by
  by_cases z : p < n
  · rw [bA_in z] at h; exact ⟨z, rn_go z h⟩
  · rw [bA_out (by omega)] at h; exact absurd h hq
theorem lp_rsml {I0 : Nat → Nat → Int} {tp : Nat → Int} {n b : Nat} {c : Int} {L : List (Option am_V)} (hL : L = [some (rV (some 103)), some (iV c)]) (hd : 1 ≤ dp) (hT : TbM I0 tp n) (hM : Md (I0, Z)) (hb : b < n) (hs : sml (tp b) = true) (h : ∀ I' : Nat → Nat → Int, NF I0 I' → RdM I' tp n (b, I0 103 30, I0 103 31) → Q (.inl none) (I', Z)) : ∀ (t p : Nat) (I : Nat → Nat → Int), n - p = t → p ≤ n → RN I0 I n → I 103 26 = p → I 103 28 = b → rn sml tp n b = rn sml tp n p → X G dp 0 0 M9_step 76 L [] (I, Z) Q := by
  subst hL
  intro t
  induction t with
  | zero =>
    intro p I ht hp hf e6 e8 er
    have hn := hT.1
    have k1 := kd_t1 hb hs
    refine s9_step_76 hd (am_ow hM.1) fun Q' hK => r_byteAt (I := I) (n := n) (tp := tp) (p := p) hM (hT.nf hf.1) hf.2.1 e6 (hK _ _ ?_)
    refine s9_step_84 hd fun Q' hK => r_isSmall (hK _ _ ?_)
    rw [bA_out (by omega)]
    refine s9_step_87 hM.1 (fun _ => h _ ((hf.u (by omega)).u (by omega)).1 ⟨?_, ?_, ?_, ?_, ?_, ?_, fun _ => ?_⟩) (fun q => absurd (show b01 (sml (-1)) = 0 by decide) q)
    · exact ((hf.u (by omega)).u (by omega)).2.1
    · dsimp only; rw [u2n (by omega), u2n (by omega), e6, k1.2, er, rn_end (by omega)]
    · dsimp only; rw [u2n (by omega), u2_at, k1.1]
    · dsimp only; rw [u2n (by omega), u2n (by omega)]; exact e8
    · dsimp only; rw [u2_at, u2n (by omega), e6, k1.2, er, rn_end (by omega)]
    · exact ((hf.u (by omega)).u (by omega)).2.2.1
    · exact ((hf.u (by omega)).u (by omega)).2.2.2
  | succ t ih =>
    intro p I ht hp hf e6 e8 er
    have hn := hT.1
    have k1 := kd_t1 hb hs
    refine s9_step_76 hd (am_ow hM.1) fun Q' hK => r_byteAt (I := I) (n := n) (tp := tp) (p := p) hM (hT.nf hf.1) hf.2.1 e6 (hK _ _ ?_)
    refine s9_step_84 hd fun Q' hK => r_isSmall (hK _ _ ?_)
    by_cases z : sml (bA tp n p) = true
    · rw [z]
      refine s9_step_87 hM.1 (fun q => absurd q (by decide)) (fun _ => ?_)
      dsimp only
      rw [e6, wr_s (by omega)]
      have g := rn_bG (q := sml) (by decide) z
      exact ih (p + 1) _ (by omega) (by omega) (hf.u (by omega)) u2_at (by rw [u2n (by omega)]; exact e8) (er.trans g.2)
    · have g := rn_bA (q := sml) hp z
      rw [eq_false_of_ne_true z]
      refine s9_step_87 hM.1 (fun _ => h _ ((hf.u (by omega)).u (by omega)).1 ⟨?_, ?_, ?_, ?_, ?_, ?_, fun _ => ?_⟩) (fun q => absurd rfl q)
      · exact ((hf.u (by omega)).u (by omega)).2.1
      · dsimp only; rw [u2n (by omega), u2n (by omega), e6, k1.2, er, g]
      · dsimp only; rw [u2n (by omega), u2_at, k1.1]
      · dsimp only; rw [u2n (by omega), u2n (by omega)]; exact e8
      · dsimp only; rw [u2_at, u2n (by omega), e6, k1.2, er, g]
      · exact ((hf.u (by omega)).u (by omega)).2.2.1
      · exact ((hf.u (by omega)).u (by omega)).2.2.2
theorem lp_rfig {I0 : Nat → Nat → Int} {tp : Nat → Int} {n b : Nat} {c : Int} {L : List (Option am_V)} (hL : L = [some (rV (some 103)), some (iV c)]) (hd : 1 ≤ dp) (hT : TbM I0 tp n) (hM : Md (I0, Z)) (hb : b < n) (hs : ¬ sml (tp b) = true) (hg : fig (tp b) = true) (h : ∀ I' : Nat → Nat → Int, NF I0 I' → RdM I' tp n (b, I0 103 30, I0 103 31) → Q (.inl none) (I', Z)) : ∀ (t p : Nat) (I : Nat → Nat → Int), n - p = t → p ≤ n → RN I0 I n → I 103 26 = p → I 103 28 = b → rn fig tp n b = rn fig tp n p → X G dp 0 0 M9_step 118 L [] (I, Z) Q := by
  subst hL
  intro t
  induction t with
  | zero =>
    intro p I ht hp hf e6 e8 er
    have hn := hT.1
    have k1 := kd_t2 hb hs hg
    refine s9_step_118 hd (am_ow hM.1) fun Q' hK => r_byteAt (I := I) (n := n) (tp := tp) (p := p) hM (hT.nf hf.1) hf.2.1 e6 (hK _ _ ?_)
    refine s9_step_126 hd fun Q' hK => r_isFigure (hK _ _ ?_)
    rw [bA_out (by omega)]
    refine s9_step_129 hM.1 (fun _ => h _ ((hf.u (by omega)).u (by omega)).1 ⟨?_, ?_, ?_, ?_, ?_, ?_, fun _ => ?_⟩) (fun q => absurd (show b01 (fig (-1)) = 0 by decide) q)
    · exact ((hf.u (by omega)).u (by omega)).2.1
    · dsimp only; rw [u2n (by omega), u2n (by omega), e6, k1.2, er, rn_end (by omega)]
    · dsimp only; rw [u2n (by omega), u2_at, k1.1]
    · dsimp only; rw [u2n (by omega), u2n (by omega)]; exact e8
    · dsimp only; rw [u2_at, u2n (by omega), e6, k1.2, er, rn_end (by omega)]
    · exact ((hf.u (by omega)).u (by omega)).2.2.1
    · exact ((hf.u (by omega)).u (by omega)).2.2.2
  | succ t ih =>
    intro p I ht hp hf e6 e8 er
    have hn := hT.1
    have k1 := kd_t2 hb hs hg
    refine s9_step_118 hd (am_ow hM.1) fun Q' hK => r_byteAt (I := I) (n := n) (tp := tp) (p := p) hM (hT.nf hf.1) hf.2.1 e6 (hK _ _ ?_)
    refine s9_step_126 hd fun Q' hK => r_isFigure (hK _ _ ?_)
    by_cases z : fig (bA tp n p) = true
    · rw [z]
      refine s9_step_129 hM.1 (fun q => absurd q (by decide)) (fun _ => ?_)
      dsimp only
      rw [e6, wr_s (by omega)]
      have g := rn_bG (q := fig) (by decide) z
      exact ih (p + 1) _ (by omega) (by omega) (hf.u (by omega)) u2_at (by rw [u2n (by omega)]; exact e8) (er.trans g.2)
    · have g := rn_bA (q := fig) hp z
      rw [eq_false_of_ne_true z]
      refine s9_step_129 hM.1 (fun _ => h _ ((hf.u (by omega)).u (by omega)).1 ⟨?_, ?_, ?_, ?_, ?_, ?_, fun _ => ?_⟩) (fun q => absurd rfl q)
      · exact ((hf.u (by omega)).u (by omega)).2.1
      · dsimp only; rw [u2n (by omega), u2n (by omega), e6, k1.2, er, g]
      · dsimp only; rw [u2n (by omega), u2_at, k1.1]
      · dsimp only; rw [u2n (by omega), u2n (by omega)]; exact e8
      · dsimp only; rw [u2_at, u2n (by omega), e6, k1.2, er, g]
      · exact ((hf.u (by omega)).u (by omega)).2.2.1
      · exact ((hf.u (by omega)).u (by omega)).2.2.2
theorem lp_rblk {I0 : Nat → Nat → Int} {tp : Nat → Int} {n e : Nat} {o1 : Option am_V} {L : List (Option am_V)} (hL : L = [some (rV (some 103)), o1]) (hd : 1 ≤ dp) (hB : TpB tp) (hT : TbM I0 tp n) (hM : Md (I0, Z)) (h : ∀ I' : Nat → Nat → Int, NF I0 I' → RdM I' tp n (rn blk tp n e, I0 103 30, I0 103 31) → Q (.inl none) (I', Z)) : ∀ (t p : Nat) (I : Nat → Nat → Int), n - p = t → p ≤ n → RN I0 I n → I 103 26 = p → rn blk tp n e = rn blk tp n p → X G dp 0 0 M9_step 0 L [] (I, Z) Q := by
  subst hL
  intro t
  induction t with
  | zero =>
    intro p I ht hp hf e6 er
    have hn := hT.1
    have k0 := kd_t0 (tp := tp) (n := n) (b := p) (by omega)
    have er : rn blk tp n e = p := er.trans (rn_end (by omega))
    rw [er] at h
    refine s9_step_0 hd (am_ow hM.1) fun Q' hK => r_byteAt (I := I) (n := n) (tp := tp) (p := p) hM (hT.nf hf.1) hf.2.1 e6 (hK _ _ ?_)
    rw [bA_out (by omega)]
    refine s9_step_8 hd hM.1 (fun q => absurd q (by decide)) fun _ Q' hK => r_byteAt (I := I) (n := n) (tp := tp) (p := p) hM (hT.nf hf.1) hf.2.1 e6 (hK _ _ ?_)
    rw [bA_out (by omega)]
    refine s9_step_21 hd hM.1 (fun _ Q' hK => r_byteAt (n := n) (tp := tp) (p := p) hM (hT.nf (hf.u (by omega)).1) (hf.u (by omega)).2.1 (by dsimp only; rw [u2n (by omega)]; exact e6) (hK _ _ ?_)) (fun q => absurd q (by decide))
    rw [bA_out (by omega)]
    refine s9_step_55 hd hM.1 (fun q => absurd rfl q) (fun _ => h _ (((hf.u (by omega)).u (by omega)).u (by omega)).1 ⟨?_, ?_, ?_, ?_, ?_, ?_, fun _ => ?_⟩)
    · exact (((hf.u (by omega)).u (by omega)).u (by omega)).2.1
    · dsimp only; rw [u2n (by omega), u2n (by omega), u2n (by omega), e6, k0.2]
    · dsimp only; rw [u2n (by omega), u2_at, k0.1]
    · dsimp only; rw [u2n (by omega), u2n (by omega), u2_at]; exact e6
    · dsimp only; rw [u2_at, u2n (by omega), u2n (by omega), e6, k0.2]
    · exact (((hf.u (by omega)).u (by omega)).u (by omega)).2.2.1
    · exact (((hf.u (by omega)).u (by omega)).u (by omega)).2.2.2
  | succ t ih =>
    intro p I ht hp hf e6 er
    have hn := hT.1
    have hpn : p < n := by omega
    have hv := hB p
    have hgo : blk (tp p) = true → X G dp 0 0 M9_step 0 [some (rV (some 103)), o1] [] (u2 I 103 26 (wr (I 103 26 + 1)), Z) Q := fun z => by
      rw [e6, wr_s (by omega)]
      exact ih (p + 1) _ (by omega) (by omega) (hf.u (by omega)) u2_at (er.trans (rn_go hpn z))
    refine s9_step_0 hd (am_ow hM.1) fun Q' hK => r_byteAt (I := I) (n := n) (tp := tp) (p := p) hM (hT.nf hf.1) hf.2.1 e6 (hK _ _ ?_)
    rw [bA_in hpn]
    refine s9_step_8 hd hM.1 (fun q => hgo (blk_t.mpr (Or.inl q))) fun q1 Q' hK => r_byteAt (I := I) (n := n) (tp := tp) (p := p) hM (hT.nf hf.1) hf.2.1 e6 (hK _ _ ?_)
    rw [bA_in hpn]
    refine s9_step_21 hd hM.1 (fun q2 Q' hK => r_byteAt (n := n) (tp := tp) (p := p) hM (hT.nf (hf.u (by omega)).1) (hf.u (by omega)).2.1 (by dsimp only; rw [u2n (by omega)]; exact e6) (hK _ _ ?_)) (fun q => hgo (blk_t.mpr (Or.inr q)))
    rw [bA_in hpn]
    have er : rn blk tp n e = p := er.trans (rn_no fun z => by rcases blk_t.mp z with z | z; exact q1 z; exact q2 z)
    rw [er] at h
    have hf1 := hf.u (k := 28) (z := (I, Z).1 103 26) (by omega)
    have e61 : (u2 (I, Z).1 103 28 ((I, Z).1 103 26)) 103 26 = p := by rw [u2n (by omega)]; exact e6
    have e81 : (u2 (I, Z).1 103 28 ((I, Z).1 103 26)) 103 28 = p := by rw [u2_at]; exact e6
    refine s9_step_55 hd hM.1 (fun _ Q' hK => r_isSmall (hK _ _ ?_)) (fun q => absurd q (by omega))
    by_cases hs : sml (tp p) = true
    · rw [hs]
      refine s9_step_73 hd (fun q => absurd q (by decide)) (fun _ => ?_)
      exact lp_rsml (I0 := I0) (b := p) (n := n) (tp := tp) rfl hd hT hM hpn hs h (n - p) p _ rfl hp hf1 e61 e81 rfl
    · rw [eq_false_of_ne_true hs]
      refine s9_step_73 hd (fun _ Q' hK => r_isFigure (hK _ _ ?_)) (fun q => absurd rfl q)
      by_cases hg : fig (tp p) = true
      · rw [hg]
        refine s9_step_115 hM.1 (fun q => absurd q (by decide)) (fun _ => ?_)
        exact lp_rfig (I0 := I0) (b := p) (n := n) (tp := tp) rfl hd hT hM hpn hs hg h (n - p) p _ rfl hp hf1 e61 e81 rfl
      · rw [eq_false_of_ne_true hg]
        have k3 := kd_t3 hpn hs hg
        refine s9_step_115 hM.1 (fun _ => ?_) (fun q => absurd rfl q)
        dsimp only
        dsimp only at e61 hf1 e81
        rw [e61, wr_s (by omega)]
        refine h _ (((hf1.u (by omega)).u (by omega)).u (by omega)).1 ⟨?_, ?_, ?_, ?_, ?_, ?_, fun _ => ?_⟩
        · exact (((hf1.u (by omega)).u (by omega)).u (by omega)).2.1
        · rw [u2n (by omega), u2n (by omega), u2_at, k3.2]
        · rw [u2n (by omega), u2_at, k3.1]
        · rw [u2n (by omega), u2n (by omega), u2n (by omega)]; exact e81
        · rw [u2_at, u2n (by omega), u2_at, k3.2]
        · exact (((hf1.u (by omega)).u (by omega)).u (by omega)).2.2.1
        · exact (((hf1.u (by omega)).u (by omega)).u (by omega)).2.2.2
theorem r_step {I : Nat → Nat → Int} {tp : Nat → Int} {n e : Nat} (hd : 1 ≤ dp) (hB : TpB tp) (hT : TbM I tp n) (hM : Md (I, Z)) (e1 : I 103 25 = n) (e3 : I 103 26 = e) (he : e ≤ n) (h : ∀ I' : Nat → Nat → Int, NF I I' → RdM I' tp n (rn blk tp n e, I 103 30, I 103 31) → Q (.inl none) (I', Z)) : T G dp 0 0 M9_step [rV (some 103)] (I, Z) Q :=
  T9_step (lp_rblk (I0 := I) (e := e) rfl hd hB hT hM h (n - e) e I rfl he ⟨NF.rfl, e1, rfl, rfl⟩ e3 rfl)
end
