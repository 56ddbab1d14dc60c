/-! THE READER of the class -/
theorem sb_c {v c : Int} (h0 : 0 ≤ v ∧ v ≤ 255) (hc : 0 ≤ c ∧ c < 128) : sb v = c ↔ v = c := by unfold sb; split <;> omega
theorem sb_sml {v : Int} (h0 : 0 ≤ v ∧ v ≤ 255) : sml v = true ↔ ¬ sb v < 97 ∧ ¬ 122 < sb v := by rw [sml_t]; unfold sb; split <;> omega
theorem sb_fig {v : Int} (h0 : 0 ≤ v ∧ v ≤ 255) : fig v = true ↔ ¬ sb v < 48 ∧ ¬ 57 < sb v := by rw [fig_t]; unfold sb; split <;> omega
theorem sb_id {v : Int} (h0 : 48 ≤ sb v ∧ sb v ≤ 57) (h1 : 0 ≤ v ∧ v ≤ 255) : sb v = v := by unfold sb at h0 ⊢; split <;> omega
theorem wr_s {p : Nat} (h : p ≤ 600) : wr ((p : Int) + 1) = ((p + 1 : Nat) : Int) := by rw [wr_of (by omega) (by omega)]; omega
theorem dstep {V c : Int} (h : 0 ≤ V) (h1 : 48 ≤ c) (h2 : c ≤ 57) : min 100000000 (wr (wr (wr (min 100000000 V * 10) + c) - 48)) = min 100000000 (V * 10 + c - 48) := by
  rw [wr_of (z := min 100000000 V * 10) (by omega) (by omega), wr_of (z := min 100000000 V * 10 + c) (by omega) (by omega), wr_of (by omega) (by omega)]
  omega
theorem vl_s {tp : Nat → Int} {b p : Nat} (h : b ≤ p) : vl tp b (p + 1 - b) = vl tp b (p - b) * 10 + tp p - 48 := by
  rw [show p + 1 - b = (p - b) + 1 by omega]
  have e : vl tp b ((p - b) + 1) = vl tp b (p - b) * 10 + tp (b + (p - b)) - 48 := rfl
  rw [e, show b + (p - b) = p by omega]
def Rk (m : am_M) : Prop := am_obw m 76 5 ∧ m.2.1 76 0 = some 2 ∧ am_arw m 2 102 600
/-- the class's reader stands at t -/
def RdC (I : Nat → Nat → Int) (tp : Nat → Int) (n : Nat) (t : TS) : Prop := I 76 1 = n ∧ I 76 2 = t.1 ∧ I 76 3 = (en tp n t.1 : Nat) ∧ I 76 4 = kd tp n t.1 ∧ (kd tp n t.1 = 2 → I 76 5 = min 100000000 (nv tp n t.1)) ∧ I 76 6 = t.2.1 ∧ I 76 7 = t.2.2
def Tb (I : Nat → Nat → Int) (tp : Nat → Int) (n : Nat) : Prop := n ≤ 600 ∧ ∀ j, j < n → I 2 j = sb (tp j)
def RB (I0 I : Nat → Nat → Int) (n : Nat) : Prop := (∀ x, x ≠ 76 → I x = I0 x) ∧ I 76 1 = n ∧ I 76 6 = I0 76 6 ∧ I 76 7 = I0 76 7
theorem RB.u {I0 I : Nat → Nat → Int} {n k : Nat} {z : Int} (h : RB I0 I n) (h1 : k ≠ 1 ∧ k ≠ 6 ∧ k ≠ 7) : RB I0 (u2 I 76 k z) n :=
  ⟨fun x hx => by rw [u2r hx]; exact h.1 x hx, by rw [u2n (by omega)]; exact h.2.1, by rw [u2n (by omega)]; exact h.2.2.1, by rw [u2n (by omega)]; exact h.2.2.2⟩
theorem RB.b {I0 I : Nat → Nat → Int} {tp : Nat → Int} {n p : Nat} (h : RB I0 I n) (hT : Tb I0 tp n) (hp : p < n) : I 2 p = sb (tp p) := by
  rw [h.1 2 (by omega)]
  exact hT.2 p hp
section
variable {G : am_G} {dp : Nat} {Q : am_Q} {Z : (Nat → Nat → Option Nat) × (Nat → Nat × Nat) × Nat × Bool}
theorem lp_fig {I0 : Nat → Nat → Int} {tp : Nat → Int} {n b : Nat} {x y : Nat} {L : List (Option am_V)} (hL : L = [some (rV (some 76))]) (hB : TpB tp) (hT : Tb I0 tp n) (hs : b < n → ¬ sml (tp b) = true) (hk : Rk (I0, Z)) (h : ∀ I' : Nat → Nat → Int, (∀ x, x ≠ 76 → I' x = I0 x) → RdC I' tp n (b, I0 76 6, I0 76 7) → Q (.inl none) (I', Z)) : ∀ (t p : Nat) (I : Nat → Nat → Int), n - p = t → p ≤ n → b ≤ p → RB I0 I n → I 76 2 = b → I 76 3 = p → I 76 4 = (if p = b then 0 else 2) → I 76 5 = min 100000000 (vl tp b (p - b)) → (b < p → fig (tp b) = true) → 0 ≤ vl tp b (p - b) → rn fig tp n b = rn fig tp n p → X G dp x y M6_step 144 L [] (I, Z) Q := by
  subst hL
  have fin : ∀ (p : Nat) (I : Nat → Nat → Int), p ≤ n → b ≤ p → RB I0 I n → I 76 2 = b → I 76 3 = p → I 76 4 = (if p = b then 0 else 2) → I 76 5 = min 100000000 (vl tp b (p - b)) → (b < p → fig (tp b) = true) → rn fig tp n b = p → (p < n → ¬ fig (tp p) = true) → X G dp x y M6_step 230 [some (rV (some 76))] [] (I, Z) Q := by
    intro p I hp hb hf e2 e3 e4 e5 hg er hx
    have e1 := hf.2.1
    refine s6_step_230 hk.1 (fun q => ?_) (fun q q2 => ?_) (fun q q2 => ?_)
    · have q : ¬ I 76 4 = 0 := q
      have pb : ¬ p = b := fun z => q (by rw [e4, if_pos z])
      have ht := kd_t2 (tp := tp) (n := n) (b := b) (by omega) (hs (by omega)) (hg (by omega))
      rw [if_neg pb] at e4
      refine h I hf.1 ⟨e1, e2, ?_, ?_, fun _ => ?_, hf.2.2.1, hf.2.2.2⟩
      · rw [ht.2, er]; exact e3
      · rw [ht.1]; exact e4
      · unfold nv; rw [ht.2, er]; exact e5
    · have q : I 76 4 = 0 := q
      have q2 : I 76 1 ≤ I 76 3 := q2
      have pb : p = b := Decidable.byContradiction fun z => by rw [if_neg z] at e4; omega
      have ht := kd_t0 (tp := tp) (n := n) (b := b) (by omega)
      refine h I hf.1 ⟨e1, e2, ?_, ?_, fun z => ?_, hf.2.2.1, hf.2.2.2⟩
      · rw [ht.2, e3, pb]
      · rw [ht.1]; exact q
      · rw [ht.1] at z; exact absurd z (by decide)
    · have q : I 76 4 = 0 := q
      have q2 : ¬ I 76 1 ≤ I 76 3 := q2
      have pb : p = b := Decidable.byContradiction fun z => by rw [if_neg z] at e4; omega
      have ht := kd_t3 (tp := tp) (n := n) (b := b) (by omega) (hs (by omega)) (by have := hx (by omega); rwa [pb] at this)
      have e9 : wr ((u2 I 76 4 3) 76 3 + 1) = ((b + 1 : Nat) : Int) := by
        rw [u2n (by omega), e3, pb, wr_s (by have := hT.1; omega)]
      dsimp only
      rw [e9]
      refine h _ ((hf.u (by omega)).u (by omega)).1 ⟨((hf.u (by omega)).u (by omega)).2.1, ?_, ?_, ?_, fun z => ?_, ((hf.u (by omega)).u (by omega)).2.2.1, ((hf.u (by omega)).u (by omega)).2.2.2⟩
      · rw [u2n (by omega), u2n (by omega)]; exact e2
      · rw [u2_at, ht.2]
      · rw [u2n (by omega), u2_at, ht.1]
      · rw [ht.1] at z; exact absurd z (by decide)
  intro t
  induction t with
  | zero =>
    intro p I ht hp hb hf e2 e3 e4 e5 hg hV er
    have e1 := hf.2.1
    have hn := hT.1
    exact s6_step_144 hk.2.1 (am_rw hk.2.2) hk.1 (fun q => fin p I hp hb hf e2 e3 e4 e5 hg (by rw [er, rn_end (by omega)]) (fun z => absurd z (by omega))) (fun q => absurd (show I 76 1 ≤ I 76 3 by omega) q) (fun q => absurd (show I 76 1 ≤ I 76 3 by omega) q) (fun q => absurd (show I 76 1 ≤ I 76 3 by omega) q) (fun q => absurd (show I 76 1 ≤ I 76 3 by omega) q) (fun q => absurd (show I 76 1 ≤ I 76 3 by omega) q) (fun q => absurd (show I 76 1 ≤ I 76 3 by omega) q) (fun q => absurd (show I 76 1 ≤ I 76 3 by omega) q)
  | succ t ih =>
    intro p I ht hp hb hf e2 e3 e4 e5 hg hV er
    have e1 := hf.2.1
    have hn := hT.1
    have eb : (I, Z).1 2 ((I, Z).1 76 3).toNat = sb (tp p) := by
      show I 2 (I 76 3).toNat = sb (tp p)
      rw [e3, Int.toNat_natCast]
      exact hf.b hT (by omega)
    have hv := hB p
    have no : ¬ fig (tp p) = true → X G dp x y M6_step 230 [some (rV (some 76))] [] (I, Z) Q := fun z => fin p I hp hb hf e2 e3 e4 e5 hg (by rw [er, rn_no z]) (fun _ => z)
    refine s6_step_144 hk.2.1 (am_rw hk.2.2) hk.1 (fun q => absurd (show I 76 1 ≤ I 76 3 from q) (by omega)) (fun _ q => no (fun z => by rw [eb] at q; exact ((sb_fig hv).mp z).1 q)) (fun _ _ q => no (fun z => by rw [eb] at q; exact ((sb_fig hv).mp z).2 q)) (fun _ q q2 => ?_) (fun _ => ?_) (fun _ => ?_) (fun _ _ _ => ?_) (fun _ _ _ => ?_)
    · rw [eb] at q q2
      have hF := (sb_fig hv).mpr ⟨q, q2⟩
      have hid := sb_id (v := tp p) ⟨by omega, by omega⟩ hv
      have hfv := fig_t.mp hF
      have a1 : (u2 I 76 4 2) 76 5 = min 100000000 (vl tp b (p - b)) := by rw [u2n (by omega)]; exact e5
      have a2 : (u2 I 76 4 2) 2 ((u2 I 76 4 2) 76 3).toNat = tp p := by
        rw [u2r (by omega), u2n (by omega), e3, Int.toNat_natCast, hf.b hT (by omega)]
        exact hid
      have a3 : ∀ z : Int, (u2 (u2 I 76 4 2) 76 5 z) 76 3 = p := fun z => by rw [u2n (by omega), u2n (by omega)]; exact e3
      have a6 : 0 ≤ vl tp b (p + 1 - b) := by
        rw [vl_s hb]
        omega
      dsimp only
      rw [a3, a1, a2, dstep hV hfv.1 hfv.2, ← vl_s hb, wr_s (by omega)]
      refine ih (p + 1) _ (by omega) (by omega) (by omega) (((hf.u (by omega)).u (by omega)).u (by omega)) ?_ ?_ ?_ ?_ (fun _ => ?_) a6 ?_
      · rw [u2n (by omega), u2n (by omega), u2n (by omega)]; exact e2
      · exact u2_at
      · rw [u2n (by omega), u2n (by omega), u2_at, if_neg (by omega)]
      · rw [u2n (by omega)]; exact u2_at
      · by_cases z : p = b
        · rw [← z]; exact hF
        · exact hg (by omega)
      · rw [er]; exact rn_go (by omega) hF
    · show 0 ≤ I 76 3
      omega
    · show I 76 3 < ((600 : Nat) : Int)
      omega
    · show 0 ≤ (u2 I 76 4 2) 76 3
      rw [u2n (by omega)]; omega
    · show (u2 I 76 4 2) 76 3 < ((600 : Nat) : Int)
      rw [u2n (by omega)]; omega
theorem lp_sml {I0 : Nat → Nat → Int} {tp : Nat → Int} {n b : Nat} {x y : Nat} {L : List (Option am_V)} (hL : L = [some (rV (some 76))]) (hB : TpB tp) (hT : Tb I0 tp n) (hk : Rk (I0, Z)) (h : ∀ I' : Nat → Nat → Int, (∀ x, x ≠ 76 → I' x = I0 x) → RdC I' tp n (b, I0 76 6, I0 76 7) → Q (.inl none) (I', Z)) : ∀ (t p : Nat) (I : Nat → Nat → Int), n - p = t → p ≤ n → b ≤ p → RB I0 I n → I 76 2 = b → I 76 3 = p → I 76 4 = (if p = b then 0 else 1) → (b < p → sml (tp b) = true) → rn sml tp n b = rn sml tp n p → X G dp x y M6_step 73 L [] (I, Z) Q := by
  subst hL
  have o1 : ∀ (p : Nat) (I : Nat → Nat → Int), p ≤ n → RB I0 I n → I 76 2 = b → I 76 3 = p → I 76 4 = (if p = b then 0 else 1) → (p < n → ¬ sml (tp p) = true) → ¬ I 76 4 = 1 → X G dp x y M6_step 144 [some (rV (some 76))] [] (u2 I 76 5 0, Z) Q := by
    intro p I hp hf e2 e3 e4 hx q
    have pb : p = b := Decidable.byContradiction fun z => by rw [if_neg z] at e4; exact q e4
    subst pb
    rw [if_pos rfl] at e4
    refine lp_fig rfl hB hT hx hk h (n - p) p _ rfl hp (Nat.le_refl _) (hf.u (by omega)) ?_ ?_ ?_ ?_ (fun z => absurd z (Nat.lt_irrefl _)) ?_ rfl
    · rw [u2n (by omega)]; exact e2
    · rw [u2n (by omega)]; exact e3
    · rw [u2n (by omega), if_pos rfl]; exact e4
    · rw [u2_at, Nat.sub_self]; rfl
    · rw [Nat.sub_self]; exact Int.le_refl _
  have o2 : ∀ (p : Nat) (I : Nat → Nat → Int), p ≤ n → b ≤ p → RB I0 I n → I 76 2 = b → I 76 3 = p → I 76 4 = (if p = b then 0 else 1) → (b < p → sml (tp b) = true) → rn sml tp n b = p → I 76 4 = 1 → Q (.inl none) (I, Z) := by
    intro p I hp hb hf e2 e3 e4 hs er q
    have pb : ¬ p = b := fun z => by rw [if_pos z] at e4; omega
    have ht := kd_t1 (tp := tp) (n := n) (b := b) (by omega) (hs (by omega))
    refine h I hf.1 ⟨hf.2.1, e2, ?_, ?_, fun z => ?_, hf.2.2.1, hf.2.2.2⟩
    · rw [ht.2, er]; exact e3
    · rw [ht.1]; exact q
    · rw [ht.1] at z; exact absurd z (by decide)
  intro t
  induction t with
  | zero =>
    intro p I ht hp hb hf e2 e3 e4 hs er
    have e1 := hf.2.1
    have hn := hT.1
    have ab : ∀ {C : Prop}, ¬ (I, Z).1 76 1 ≤ (I, Z).1 76 3 → C := fun q => absurd (show I 76 1 ≤ I 76 3 by omega) q
    exact s6_step_73 hk.1 hk.2.1 (am_rw hk.2.2) (fun _ q => o1 p I hp hf e2 e3 e4 (fun z => absurd z (by omega)) q) (fun _ q => o2 p I hp hb hf e2 e3 e4 hs (by rw [er, rn_end (by omega)]) q) (fun q => ab q) (fun q => ab q) (fun q => ab q) (fun q => ab q) (fun q => ab q) (fun q => ab q) (fun q => ab q)
  | succ t ih =>
    intro p I ht hp hb hf e2 e3 e4 hs er
    have e1 := hf.2.1
    have hn := hT.1
    have eb : (I, Z).1 2 ((I, Z).1 76 3).toNat = sb (tp p) := by
      show I 2 (I 76 3).toNat = sb (tp p)
      rw [e3, Int.toNat_natCast]
      exact hf.b hT (by omega)
    have hv := hB p
    have a : ∀ {C : Prop}, (I, Z).1 76 1 ≤ (I, Z).1 76 3 → C := fun q => absurd (show I 76 1 ≤ I 76 3 from q) (by omega)
    have n1 : ¬ sml (tp p) = true → ¬ I 76 4 = 1 → X G dp x y M6_step 144 [some (rV (some 76))] [] (u2 I 76 5 0, Z) Q := fun z q => o1 p I hp hf e2 e3 e4 (fun _ => z) q
    have n2 : ¬ sml (tp p) = true → I 76 4 = 1 → Q (.inl none) (I, Z) := fun z q => o2 p I hp hb hf e2 e3 e4 hs (by rw [er, rn_no z]) q
    have l1 : (I, Z).1 2 ((I, Z).1 76 3).toNat < 97 → ¬ sml (tp p) = true := fun q z => by rw [eb] at q; exact ((sb_sml hv).mp z).1 q
    have l2 : 122 < (I, Z).1 2 ((I, Z).1 76 3).toNat → ¬ sml (tp p) = true := fun q z => by rw [eb] at q; exact ((sb_sml hv).mp z).2 q
    refine s6_step_73 hk.1 hk.2.1 (am_rw hk.2.2) (fun q => a q) (fun q => a q) (fun _ q q2 => n1 (l1 q) q2) (fun _ q q2 => n2 (l1 q) q2) (fun _ _ q q2 => n1 (l2 q) q2) (fun _ _ q q2 => n2 (l2 q) q2) (fun _ q q2 => ?_) (fun _ => ?_) (fun _ => ?_)
    · rw [eb] at q q2
      have hF := (sb_sml hv).mpr ⟨q, q2⟩
      dsimp only
      rw [u2n (show 3 ≠ 4 by omega), e3, wr_s (by omega)]
      refine ih (p + 1) _ (by omega) (by omega) (by omega) ((hf.u (by omega)).u (by omega)) ?_ u2_at ?_ (fun _ => ?_) ?_
      · rw [u2n (by omega), u2n (by omega)]; exact e2
      · rw [u2n (by omega), u2_at, if_neg (by omega)]
      · by_cases z : p = b
        · rw [← z]; exact hF
        · exact hs (by omega)
      · rw [er]; exact rn_go (by omega) hF
    · show 0 ≤ I 76 3
      omega
    · show I 76 3 < ((600 : Nat) : Int)
      omega
theorem lp_blk {I0 : Nat → Nat → Int} {tp : Nat → Int} {n e : Nat} {x y : Nat} {L : List (Option am_V)} (hL : L = [some (rV (some 76))]) (hB : TpB tp) (hT : Tb I0 tp n) (hk : Rk (I0, Z)) (h : ∀ I' : Nat → Nat → Int, (∀ x, x ≠ 76 → I' x = I0 x) → RdC I' tp n (rn blk tp n e, I0 76 6, I0 76 7) → Q (.inl none) (I', Z)) : ∀ (t p : Nat) (I : Nat → Nat → Int), n - p = t → p ≤ n → RB I0 I n → I 76 2 = p → rn blk tp n e = rn blk tp n p → X G dp x y M6_step 8 L [] (I, Z) Q := by
  subst hL
  have fin : ∀ (p : Nat) (I : Nat → Nat → Int), p ≤ n → RB I0 I n → I 76 2 = p → rn blk tp n e = p → X G dp x y M6_step 73 [some (rV (some 76))] [] (u2 (u2 I 76 3 (I 76 2)) 76 4 0, Z) Q := by
    intro p I hp hf e2 er
    refine lp_sml (I0 := I0) (b := p) (n := n) (tp := tp) rfl hB hT hk (fun I' g1 g2 => h I' g1 (by rw [er]; exact g2)) (n - p) p _ rfl hp (Nat.le_refl _) ((hf.u (by omega)).u (by omega)) ?_ ?_ ?_ (fun z => absurd z (Nat.lt_irrefl _)) rfl
    · rw [u2n (by omega), u2n (by omega)]; exact e2
    · rw [u2n (by omega), u2_at]; exact e2
    · rw [u2_at, if_pos rfl]
  intro t
  induction t with
  | zero =>
    intro p I ht hp hf e2 er
    have e1 := hf.2.1
    have hn := hT.1
    have ab : ∀ {C : Prop}, ¬ (I, Z).1 76 1 ≤ (I, Z).1 76 2 → C := fun q => absurd (show I 76 1 ≤ I 76 2 by omega) q
    exact s6_step_8 hk.1 hk.2.1 (am_rw hk.2.2) (fun _ => fin p I hp hf e2 (by rw [er, rn_end (by omega)])) (fun q => ab q) (fun q => ab q) (fun q => ab q) (fun q => ab q) (fun q => ab q)
  | succ t ih =>
    intro p I ht hp hf e2 er
    have e1 := hf.2.1
    have hn := hT.1
    have eb : (I, Z).1 2 ((I, Z).1 76 2).toNat = sb (tp p) := by
      show I 2 (I 76 2).toNat = sb (tp p)
      rw [e2, Int.toNat_natCast]
      exact hf.b hT (by omega)
    have hv := hB p
    have go : blk (tp p) = true → X G dp x y M6_step 8 [some (rV (some 76))] [] (u2 I 76 2 (wr (I 76 2 + 1)), Z) Q := fun z => by
      rw [e2, wr_s (by omega)]
      exact ih (p + 1) _ (by omega) (by omega) (hf.u (by omega)) u2_at (by rw [er]; exact rn_go (by omega) z)
    refine s6_step_8 hk.1 hk.2.1 (am_rw hk.2.2) (fun q => absurd (show I 76 1 ≤ I 76 2 from q) (by omega)) (fun _ q => go ?_) (fun _ q q2 => fin p I hp hf e2 ?_) (fun _ q q2 => go ?_) (fun _ => ?_) (fun _ => ?_)
    · rw [eb] at q
      exact blk_t.mpr (Or.inl ((sb_c hv (by omega)).mp q))
    · rw [eb] at q q2
      rw [er]
      refine rn_no fun z => ?_
      rcases blk_t.mp z with z | z
      · exact q ((sb_c hv (by omega)).mpr z)
      · exact q2 ((sb_c hv (by omega)).mpr z)
    · rw [eb] at q2
      exact blk_t.mpr (Or.inr ((sb_c hv (by omega)).mp q2))
    · show 0 ≤ I 76 2
      omega
    · show I 76 2 < ((600 : Nat) : Int)
      omega
theorem ct_step {I : Nat → Nat → Int} {tp : Nat → Int} {n e : Nat} (hB : TpB tp) (hT : Tb I tp n) (hk : Rk (I, Z)) (e1 : I 76 1 = n) (e3 : I 76 3 = e) (he : e ≤ n) (h : ∀ I' : Nat → Nat → Int, (∀ x, x ≠ 76 → I' x = I x) → RdC I' tp n (rn blk tp n e, I 76 6, I 76 7) → Q (.inl none) (I', Z)) : T G dp 0 0 M6_step [rV (some 76)] (I, Z) Q := by
  refine T6_step (s6_step_0 hk.1 ?_)
  refine lp_blk (I0 := I) (e := e) rfl hB hT hk h (n - e) e _ rfl he ⟨fun x hx => by rw [u2r hx], by rw [u2n (by omega)]; exact e1, by rw [u2n (by omega)], by rw [u2n (by omega)]⟩ ?_ rfl
  rw [u2_at]
  exact e3
/-- a step from a place without fault -/
theorem ct_pass {I : Nat → Nat → Int} {tp : Nat → Int} {n : Nat} {t : TS} (hB : TpB tp) (hT : Tb I tp n) (hk : Rk (I, Z)) (hR : RdC I tp n t) (ht : Tk n t) (h0 : t.2.1 = 0) (h : ∀ I' : Nat → Nat → Int, (∀ x, x ≠ 76 → I' x = I x) → RdC I' tp n (tP tp n t) → Q (.inl none) (I', Z)) : T G dp 0 0 M6_step [rV (some 76)] (I, Z) Q := by
  refine ct_step hB hT hk hR.1 hR.2.2.1 (en_b ht.1).2 fun I' g1 g2 => h I' g1 ?_
  unfold tP
  rw [if_pos h0]
  rw [hR.2.2.2.2.2.1, hR.2.2.2.2.2.2] at g2
  exact g2
theorem ct_fail {I : Nat → Nat → Int} {tp : Nat → Int} {n : Nat} {t : TS} {k : Int} (hk : Rk (I, Z)) (hR : RdC I tp n t) (h : ∀ I' : Nat → Nat → Int, (∀ x, x ≠ 76 → I' x = I x) → RdC I' tp n (tF t k) → Q (.inl none) (I', Z)) : T G dp 0 0 M6_fail [rV (some 76), iV k] (I, Z) Q := by
  obtain ⟨r1, r2, r3, r4, r5, r6, r7⟩ := hR
  refine T6_fail (s6_fail_0 hk.1 (fun q => h I (fun _ _ => rfl) ?_) (fun q => h _ (fun x hx => by rw [u2r hx, u2r hx]) ?_))
  · have q : ¬ I 76 6 = 0 := q
    rw [tF_no (by rw [← r6]; exact q)]
    exact ⟨r1, r2, r3, r4, r5, r6, r7⟩
  · have q : I 76 6 = 0 := q
    unfold tF
    rw [if_pos (by rw [← r6]; exact q)]
    dsimp only
    refine ⟨?_, ?_, ?_, ?_, fun z => ?_, ?_, ?_⟩
    · rw [u2n (by omega), u2n (by omega)]; exact r1
    · rw [u2n (by omega), u2n (by omega)]; exact r2
    · rw [u2n (by omega), u2n (by omega)]; exact r3
    · rw [u2n (by omega), u2n (by omega)]; exact r4
    · rw [u2n (by omega), u2n (by omega)]; exact r5 z
    · rw [u2n (by omega), u2_at]
    · rw [u2_at, u2n (by omega)]; exact r2
theorem ct_isFine {I : Nat → Nat → Int} {tp : Nat → Int} {n : Nat} {t : TS} (hk : Rk (I, Z)) (hR : RdC I tp n t) (h : Q (.inl (some (iV (if t.2.1 = 0 then 1 else 0)))) (I, Z)) : T G dp 0 0 M6_isFine [rV (some 76)] (I, Z) Q := by
  have r6 := hR.2.2.2.2.2.1
  refine T6_isFine (s6_isFine_0 (am_ow hk.1) (fun q => ?_) (fun q => ?_))
  · rw [if_neg (by rw [← r6]; exact q)] at h; exact h
  · rw [if_pos (by rw [← r6]; exact q)] at h; exact h
theorem ct_isEnd {I : Nat → Nat → Int} {tp : Nat → Int} {n : Nat} {t : TS} (hk : Rk (I, Z)) (hR : RdC I tp n t) (h : Q (.inl (some (iV (if kd tp n t.1 = 0 then 1 else 0)))) (I, Z)) : T G dp 0 0 M6_isEnd [rV (some 76)] (I, Z) Q := by
  have r4 := hR.2.2.2.1
  refine T6_isEnd (s6_isEnd_0 (am_ow hk.1) (fun q => ?_) (fun q => ?_))
  · rw [if_neg (by rw [← r4]; exact q)] at h; exact h
  · rw [if_pos (by rw [← r4]; exact q)] at h; exact h
theorem ct_isNumber {I : Nat → Nat → Int} {tp : Nat → Int} {n : Nat} {t : TS} (hk : Rk (I, Z)) (hR : RdC I tp n t) (h : Q (.inl (some (iV (b01 (iN tp n t))))) (I, Z)) : T G dp 0 0 M6_isNumber [rV (some 76)] (I, Z) Q := by
  have r4 := hR.2.2.2.1
  have r6 := hR.2.2.2.2.2.1
  unfold iN b01 at h
  refine T6_isNumber (s6_isNumber_0 (am_ow hk.1) (fun q => ?_) (fun _ q => ?_) (fun q q2 => ?_))
  · rw [decide_eq_false (fun z => q (r6.trans z.1)), if_neg (by decide)] at h; exact h
  · rw [decide_eq_false (fun z => q (r4.trans z.2)), if_neg (by decide)] at h; exact h
  · rw [decide_eq_true ⟨r6.symm.trans q, r4.symm.trans q2⟩, if_pos rfl] at h; exact h
theorem ct_isSign {I : Nat → Nat → Int} {tp : Nat → Int} {n : Nat} {t : TS} {c : Int} (hc : 0 ≤ c ∧ c < 128) (hB : TpB tp) (hT : Tb I tp n) (hk : Rk (I, Z)) (hR : RdC I tp n t) (h : Q (.inl (some (iV (b01 (iS tp n t c))))) (I, Z)) : T G dp 0 0 M6_isSign [rV (some 76), iV c] (I, Z) Q := by
  have r1 := hR.1
  have r2 := hR.2.1
  have r4 := hR.2.2.2.1
  have r6 := hR.2.2.2.2.2.1
  have hn := hT.1
  have lt : I 76 4 = 3 → t.1 < n := fun q => kd_in (tp := tp) (by rw [← r4, q]; decide)
  have eb : I 76 4 = 3 → (I, Z).1 2 ((I, Z).1 76 2).toNat = sb (tp t.1) := fun q => by
    show I 2 (I 76 2).toNat = sb (tp t.1)
    rw [r2, Int.toNat_natCast]
    exact hT.2 _ (lt q)
  unfold iS b01 at h
  refine T6_isSign (s6_isSign_0 (am_ow hk.1) hk.2.1 (am_rw hk.2.2) (fun q => ?_) (fun _ q => ?_) (fun _ q q2 => ?_) (fun _ q _ q3 => ?_) (fun q q2 _ q3 => ?_) (fun _ q _ => ?_) (fun _ q _ => ?_))
  · rw [decide_eq_false (fun z => q (r6.trans z.1)), if_neg (by decide)] at h; exact h
  · rw [decide_eq_false (fun z => q (r4.trans z.2.1)), if_neg (by decide)] at h; exact h
  · have := lt q
    have q2 : I 76 1 ≤ I 76 2 := q2
    omega
  · rw [eb q] at q3
    rw [decide_eq_false (fun z => q3 ((sb_c (hB _) hc).mpr z.2.2)), if_neg (by decide)] at h; exact h
  · rw [eb q2] at q3
    rw [decide_eq_true ⟨r6.symm.trans q, r4.symm.trans q2, (sb_c (hB _) hc).mp q3⟩, if_pos rfl] at h; exact h
  · show 0 ≤ I 76 2
    omega
  · have := lt q
    show I 76 2 < ((600 : Nat) : Int)
    omega
end
