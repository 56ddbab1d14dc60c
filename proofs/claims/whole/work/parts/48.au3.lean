/-! AUDITS: drawing -/
theorem ian_rng (x : Int) : 0 ≤ ian x 32767 ∧ ian x 32767 ≤ 32767 := by
  have h : ∀ y : Int32, 0 ≤ (y &&& Int32.ofInt 32767).toInt ∧ (y &&& Int32.ofInt 32767).toInt ≤ 32767 := fun y => by
    have e : (y &&& Int32.ofInt 32767).toInt = (y.toBitVec &&& 32767#32).toInt := rfl
    have hn : (y.toBitVec &&& 32767#32).toNat ≤ 32767 := by
      rw [BitVec.toNat_and]
      exact Nat.and_le_right
    rw [e, BitVec.toInt_eq_toNat_of_lt (by omega)]
    omega
  exact h _
theorem dw_rng {R : Nat → Int} {z : Int} {k : Nat} (h : 0 < R 1) : 0 ≤ dw R z k ∧ dw R z k < R 1 := by
  have h1 := ian_rng (iushx (lx z (k + 1)) 16)
  unfold dw
  exact ⟨Int.tmod_nonneg _ h1.1, Int.tmod_lt_of_pos _ h⟩
theorem ct_close {G : am_G} {dp : Nat} {Q : am_Q} {a e k : Nat} {R d : Nat → Int} {Z : (Nat → Nat → Option Nat) × (Nat → Nat × Nat) × Nat × Bool} {I0 : Nat → Nat → Int} (hd : 2 ≤ dp) (ha : Au (I0, Z) a) (he : El (I0, Z) e) (hv : ElV I0 e R) (hR : RV R) (hs : e + 21 ≤ a ∨ a + 12 ≤ e) (hk3 : k + 1 ≤ 300) (h5 : I0 a 5 = ((k + 1 : Nat) : Int)) (h7 : I0 a 7 = pnd R d k (rC R)) (hau : AuR I0 a R d (fun _ => k + 1) (fun _ => k)) (h : ∀ I' : Nat → Nat → Int, (∀ x, x ≠ a → x ≠ a + 9 → I' x = I0 x) → (∀ j, j ≠ 7 → I' a j = I0 a j) → I' a 7 = pnd R d (k + 1) (rC R) → AuR I' a R d (fun _ => k + 1) (fun _ => k + 1) → Q (.inl none) (I', Z)) : T G dp 0 0 M1_closeRaces [rV (some a), rV (some e)] (I0, Z) Q := by
  refine T1_closeRaces (s1_closeRaces_0 (lp_close hd ha he hv hR hs hk3 h _ 0 I0 rfl (by omega) (fun _ _ _ => rfl) (fun _ _ => rfl) h5 ?_ (fun r hr => ?_)))
  · rw [h7]; rfl
  · have := hau r hr
    dsimp only at this ⊢
    rw [if_neg (by omega)]
    exact this
theorem stM_own {I : Nat → Nat → Int} {a r : Nat} {R : Nat → Int} {ch : Int} {j : Nat} : stM I a r R (I (a + 2 + r)) ch 1 (rK R r) (a + 2 + r) j = stO R r (I (a + 2 + r)) ch j := by
  unfold stM stR
  rw [if_neg (show ¬ (1 : Int) = 0 by omega)]
  by_cases h : j < rK R r
  · rw [if_pos ⟨rfl, h⟩]
  · rw [if_neg (fun q => h q.2)]
    unfold stO
    rw [if_neg (fun q => h q.1)]
theorem lp_race {G : am_G} {dp : Nat} {Q : am_Q} {a e k b : Nat} {R d : Nat → Int} {Z : (Nat → Nat → Option Nat) × (Nat → Nat × Nat) × Nat × Bool} {I0 : Nat → Nat → Int} (hd : 4 ≤ dp) (ha : Au (I0, Z) a) (he : El (I0, Z) e) (hv : ElV I0 e R) (hR : RV R) (hs : e + 21 ≤ a ∨ a + 12 ≤ e) (hk3 : k + 1 ≤ 300) (hb : d k = b) (hbn : b < rN R) (h5 : I0 a 5 = k) (h7 : I0 a 7 = pnd R d k (rC R)) (h : ∀ I' : Nat → Nat → Int, (∀ x, x < a ∨ a + 10 ≤ x → I' x = I0 x) → (∀ j, j ≠ 7 → j ≠ 5 → I' a j = I0 a j) → I' a 5 = ((k + 1 : Nat) : Int) → I' a 7 = pnd R d (k + 1) (rC R) → AuR I' a R d (fun _ => k + 1) (fun _ => k + 1) → Q (.inl none) (I', Z)) : ∀ (t i : Nat) (I : Nat → Nat → Int), rC R - i = t → i ≤ rC R → (∀ x, x < a + 2 ∨ a + 9 ≤ x → I x = I0 x) → AuR I a R d (fun r => if r < i then k + 1 else k) (fun _ => k) → X G dp 0 0 M1_drawOne 101 [some (rV (some a)), some (rV (some e)), some (iV b), some (iV i)] [] (I, Z) Q := by
  intro t
  induction t with
  | zero =>
    intro i I ht hi h1 hau
    have e0 : i = rC R := by omega
    subst e0
    have hc := hR.c
    have hc0 : I e 2 = R 0 := by rw [h1 e (by omega)]; exact hv.1
    have k5 : I a 5 = k := by rw [h1 a (by omega)]; exact h5
    refine s1_drawOne_101 (n_p1 := 3) (p2 := 0) (by omega) (am_ow he.1) ha.1 ha.2.1.2.1 (Or.inr rfl) (am_rw ha.2.2.1.2.1) (fun c1 => absurd (by dsimp only; rw [hc0]; omega) c1) (fun c1 Q' hK => ?_) (fun c1 => absurd (by dsimp only; rw [hc0]; omega) c1) (fun c1 => absurd (by dsimp only; rw [hc0]; omega) c1) (h7 := fun c1 => absurd (by dsimp only; rw [hc0]; omega) c1) (h8 := fun c1 => absurd (by dsimp only; rw [hc0]; omega) c1)
    dsimp only
    rw [k5, wrs (by omega)]
    have hv2 : ElV (u2 I a 5 ((k + 1 : Nat) : Int)) e R := hv.same hR fun x hx1 hx2 => by rw [u2r (by omega)]; exact h1 x (by omega)
    refine ct_close (k := k) (d := d) (by omega) ha he hv2 hR hs hk3 u2_at ?_ (fun r hr => ?_) (fun I' g1 g2 g3 g4 => hK _ (s1_drawOne_172 (h I' (fun x hx => ?_) (fun j hj hj2 => ?_) ?_ g3 g4)))
    · rw [u2n (by omega), h1 a (by omega)]; exact h7
    · have := hau r hr
      dsimp only at this ⊢
      rw [if_pos hr] at this
      exact this.same (u2r (by omega)) (u2r (by omega)) (by rw [u2r (by omega)])
    · rw [g1 x (by omega) (by omega), u2r (by omega)]; exact h1 x (by omega)
    · rw [g2 j hj, u2n hj2, h1 a (by omega)]
    · rw [g2 5 (by omega)]; exact u2_at
  | succ t ih =>
    intro i I ht hi h1 hau
    have hir : i < rC R := by omega
    have hc := hR.c
    have hi3 : i < 3 := by omega
    have hra := ha.2.2.2 i hi3
    have hc0 : I e 2 = R 0 := by rw [h1 e (by omega)]; exact hv.1
    have k5 : I a 5 = k := by rw [h1 a (by omega)]; exact h5
    have hvI : ElV I e R := hv.same hR fun x hx1 hx2 => h1 x (by omega)
    have hi0 := hau i hir
    dsimp only at hi0
    rw [if_neg (Nat.lt_irrefl i)] at hi0
    have hrg := rs_rng R d i k
    -- what is laid behind: own risks g, risk v
    have fin : ∀ (I2 : Nat → Nat → Int) (v : Int), (∀ x, x ≠ a + 2 + i → I2 x = I x) → (∀ j, j < 4 → I2 (a + 2 + i) j = (rs R d i (k + 1)).1 j) → v = (rs R d i (k + 1)).2.1 → X G dp 0 0 M1_drawOne 150 [some (rV (some a)), some (rV (some e)), some (iV b), some (iV i)] [lV v, iV ((k + 1 : Nat) : Int), rV (some (a + 6 + i))] (I2, Z) Q := fun I2 v g1 g2 g3 => by
      refine s1_drawOne_150 (n_r92 := 301) hra.2.2 ?_
      rw [wrs (by omega)]
      refine ih (i + 1) _ (by omega) (by omega) (fun x hx => ?_) (fun r hr => ?_)
      · dsimp only; rw [tnc, u2r (by omega), g1 x (by omega)]; exact h1 x hx
      · have hq := hau r hr
        dsimp only at hq ⊢
        rw [tnc]
        by_cases hri : r = i
        · subst hri
          rw [if_pos (by omega)]
          refine ⟨fun j hj => ?_, fun j hj => ?_, ?_⟩
          · rw [u2r (by omega)]; exact g2 j hj
          · by_cases hj2 : j = k + 1
            · rw [hj2, u2_at]; exact g3
            · rw [u2n hj2, g1 _ (by omega)]; exact hi0.2.1 j (by omega)
          · rw [u2r (by omega), g1 _ (by omega)]; exact hi0.2.2
        · have hq2 : RcV (u2 I2 (a + 6 + i) (k + 1) v) a R d r (if r < i then k + 1 else k) k := hq.same (by rw [u2r (by omega), g1 _ (by omega)]) (by rw [u2r (by omega), g1 _ (by omega)]) (by rw [u2r (by omega), g1 _ (by omega)])
          by_cases hri2 : r < i
          · rw [if_pos hri2] at hq2; rw [if_pos (by omega)]; exact hq2
          · rw [if_neg hri2] at hq2; rw [if_neg (by omega)]; exact hq2
    refine s1_drawOne_101 (n_p1 := 3) (by omega) (am_ow he.1) ha.1 ha.2.1.2.1 (Or.inr rfl) (am_rw ha.2.2.1.2.1) (fun _ _ => hra.1.2) (fun c1 => absurd c1 (by dsimp only; rw [hc0]; omega)) (fun _ c1 => absurd c1 (by omega)) (fun c1 _ Q' hK => ct_isDone ha hi3 (hK _ _ ?_))
    dsimp only
    rw [k5, wrs (by omega)]
    refine s1_drawOne_131 (by omega) (am_ow ha.1) (fun c2 Q' hK => ?_) (fun c2 Q' hK => ct_latestRisk (k := k) ha hi3 k5 (by omega) (hK _ _ (s1_drawOne_139 ?_)))
    · have q : I (a + 9) i = -1 := by by_cases q : I (a + 9) i = -1; exact q; rw [if_neg q] at c2; omega
      rw [hi0.2.2] at q
      have hgo := rs_go q
      have hcu : I (a + 6 + i) k = (rs R d i k).2.1 := hi0.2.1 k (by omega)
      have hbk : (d k).toNat = b := by omega
      have hown : ∀ j, j < 4 → 1 ≤ I (a + 2 + i) j ∧ I (a + 2 + i) j ≤ 10000000000000 := fun j hj => by rw [hi0.1 j hj]; exact hrg.1 j
      have hK4 := hR.k hir
      have eO : ∀ j, j < 4 → stO R i (I (a + 2 + i)) (rP_ R i b) j = stO R i (rs R d i k).1 (rP_ R i b) j := fun j hj => by unfold stO; rw [hi0.1 j hj]
      refine ct_stepped (k := k) (by omega) ha he hvI hR hs hir hbn k5 (by omega) hown (by dsimp only; rw [hcu]; exact hrg.2.1) (hK _ _ (fin _ _ (fun x hx => ?_) (fun j hj => ?_) ?_))
      · dsimp only
        split
        · rfl
        · unfold stM; exact stR_row hx
      · rw [hgo, hbk]
        dsimp only
        by_cases hy : rY R i = 0
        · rw [if_pos hy, if_pos hy]; exact hi0.1 j hj
        · rw [if_neg hy, if_neg hy, stM_own]; exact eO j hj
      · rw [hgo, hbk]
        dsimp only
        rw [hcu]
        unfold stC
        split
        · rfl
        · exact grt_congr _ fun j hj _ => eO j (by omega)
    · have q : I (a + 9) i ≠ -1 := fun q => c2 (by rw [if_pos q])
      rw [hi0.2.2] at q
      have hdn := rs_done q
      exact fin I _ (fun _ _ => rfl) (fun j hj => by rw [hdn]; exact hi0.1 j hj) (by rw [hdn]; exact hi0.2.1 k (by omega))
