/-! THE REFERENCE: a ballot drawn, race by race -/
/-- race r stands at st, also in done -/
def MdR (I : Nat → Nat → Int) (R : Nat → Int) (r : Nat) (st : (Nat → Int) × Int × Int) : Prop := MrV I R r st ∧ I 116 r = st.2.2
theorem MdR.same {I I' : Nat → Nat → Int} {R : Nat → Int} {r : Nat} {st : (Nat → Int) × Int × Int} (h : MdR I R r st) (h1 : ∀ c, c < 4 → I' 115 (4 * r + c) = I 115 (4 * r + c)) (h2 : I' 116 r = I 116 r) : MdR I' R r st := by
  obtain ⟨⟨a, b⟩, c⟩ := h
  refine ⟨⟨fun q => ?_, fun q => ⟨fun c hc => by rw [h1 c hc]; exact (b q).1 c hc, (b q).2⟩⟩, by rw [h2]; exact c⟩
  have := h1 0 (by omega)
  rw [Nat.add_zero] at this
  rw [this]; exact a q
section
variable {G : am_G} {dp : Nat} {Q : am_Q} {R : Nat → Int} {Z : (Nat → Nat → Option Nat) × (Nat → Nat × Nat) × Nat × Bool}
theorem lp_dball {I0 : Nat → Nat → Int} {d : Nat → Int} {k b : Nat} (hd : 5 ≤ dp) (hM : Md (I0, Z)) (hv : RowV I0 R) (hR : RV R) (hL : LdV I0 R) (hb : d k = b) (hbn : b < rN R) (hk : I0 103 16 = ((k + 1 : Nat) : Int)) (h : ∀ I' : Nat → Nat → Int, (∀ x, x ≠ 115 → x ≠ 116 → I' x = I0 x) → (∀ r, r < rC R → MdR I' R r (rs R d r (k + 1))) → ∀ Q' : am_Q, (∀ m' : am_M, X G dp 0 0 M9_drawsBallot 88 [some (rV (some 103)), some (iV b), some (iV (rC R))] [] m' Q → Q' (.inl none) m') → T G (dp - 1) 0 0 M9_writesHistory [rV (some 103)] (I', Z) Q') : ∀ (t i : Nat) (I : Nat → Nat → Int), rC R - i = t → i ≤ rC R → (∀ x, x ≠ 115 → x ≠ 116 → I x = I0 x) → (∀ r, r < rC R → MdR I R r (rs R d r (if r < i then k + 1 else k))) → X G dp 0 0 M9_drawsBallot 12 [some (rV (some 103)), some (iV b), some (iV i)] [] (I, Z) Q := by
  have hc := hR.c
  have hn := hR.n
  have hf3 := hR.2.2.2.1
  intro t
  induction t with
  | zero =>
    intro i I ht hi hf h1
    have hvI : RowV I R := fun j hj => by rw [hf 104 (by omega) (by omega)]; exact hv j hj
    have e : i = rC R := by omega
    subst e
    refine s9_drawsBallot_12 (by omega) (am_ow hM.1) fun Q' hK => md_races (m := (I, Z)) hM hvI (hK _ _ ?_)
    refine s9_drawsBallot_17 (n_p1 := 3) (by omega) (am_ow hM.1) hM.done.1 (am_rw hM.done.2) (fun _ Q' hK => h I hf (fun r hr => ?_) Q' hK) (fun c1 => absurd (by omega) c1) (fun c1 => absurd (by omega) c1)
    have := h1 r hr
    rw [if_pos hr] at this
    exact this
  | succ t ih =>
    intro i I ht hi hf h1
    have hir : i < rC R := by omega
    have hvI : RowV I R := fun j hj => by rw [hf 104 (by omega) (by omega)]; exact hv j hj
    have hLI : LdV I R := hL.same fun x a b => hf x (by omega) (by omega)
    have hi0 := h1 i hir
    rw [if_neg (Nat.lt_irrefl i)] at hi0
    have hrg := rs_rng R d i k
    have hbk : (d k).toNat = b := by omega
    have nxt : ∀ J : Nat → Nat → Int, (∀ x, x ≠ 115 → x ≠ 116 → J x = I x) → (∀ j, j < 4 * i ∨ 4 * i + 4 ≤ j → J 115 j = I 115 j) → (∀ r, r ≠ i → J 116 r = I 116 r) → MdR J R i (rs R d i (k + 1)) → X G dp 0 0 M9_drawsBallot 12 [some (rV (some 103)), some (iV b), some (iV ((i + 1 : Nat) : Int))] [] (J, Z) Q := fun J a1 a2 a3 a4 => by
      refine ih (i + 1) J (by omega) (by omega) (fun x p q => by rw [a1 x p q]; exact hf x p q) (fun r hr => ?_)
      by_cases e : r = i
      · subst e; rw [if_pos (by omega)]; exact a4
      · have := (h1 r hr).same (I' := J) (fun c hc => a2 _ (by omega)) (a3 r e)
        by_cases q : r < i
        · rw [if_pos q] at this; rw [if_pos (by omega)]; exact this
        · rw [if_neg q] at this; rw [if_neg (by omega)]; exact this
    refine s9_drawsBallot_12 (by omega) (am_ow hM.1) fun Q' hK => md_races (m := (I, Z)) hM hvI (hK _ _ ?_)
    refine s9_drawsBallot_17 (n_p1 := 3) (by omega) (am_ow hM.1) hM.done.1 (am_rw hM.done.2) (fun c1 => absurd c1 (by omega)) (fun c1 c2 Q' hK => md_mistakeAt hM hR hLI hir hbn (hK _ _ ?_)) (fun c1 c2 => ?_)
    · dsimp only at c2
      rw [tnc, hi0.2] at c2
      have hgo := rs_go c2
      refine s9_drawsBallot_41 (by omega) (am_ow hM.1) fun Q' hK => md_shown (m := (I, Z)) (by omega) hM hvI (by omega) (by omega) (hK _ _ ?_)
      refine s9_drawsBallot_47 (n_p1 := 1514) (by omega) (am_ow hM.1) hM.row.1 (am_rw hM.row.2) (am_ow hM.1) fun Q' hK => ?_
      have e3 : I 104 3 = R 3 := hvI 3 (by omega)
      have hmi := hR.m i b
      dsimp only
      rw [show (3 : Int).toNat = 3 from rfl, e3]
      refine md_draws (st := rs R d i k) (z := if stC R i (R 3) (rs R d i k).1 (rs R d i k).2.1 (rM R i b) (rP_ R i b) ≤ goal R then ((k + 1 : Nat) : Int) else -1) (by omega) hM hvI hR hLI hir hi0.1 hrg.1 hrg.2.1 hf3.1 hf3.2 hmi.1 hmi.2 (fun I1 g1 g2 g3 => hK _ ?_)
      rw [hbk] at hgo
      rw [← hgo] at g3
      have hv1 : RowV I1 R := fun j hj => by rw [g1 104 (by omega)]; exact hvI j hj
      have hL1 : LdV I1 R := hLI.same fun x a b => g1 x (by omega)
      refine s9_drawsBallot_56 (by omega) (am_ow hM.1) fun Q' hK => md_riskNow (by omega) hM hv1 hR hL1 hir g3 (hK _ _ ?_)
      have ev : (rs R d i (k + 1)).2.1 = stC R i (R 3) (rs R d i k).1 (rs R d i k).2.1 (rM R i b) (rP_ R i b) := by rw [hgo]
      have ed : (rs R d i (k + 1)).2.2 = if stC R i (R 3) (rs R d i k).1 (rs R d i k).2.1 (rM R i b) (rP_ R i b) ≤ goal R then ((k + 1 : Nat) : Int) else -1 := by rw [hgo]
      rw [← ev] at ed
      have e116 : I1 116 = I 116 := g1 116 (by omega)
      have ek : I1 103 16 = ((k + 1 : Nat) : Int) := by rw [g1 103 (by omega), hf 103 (by omega) (by omega)]; exact hk
      refine s9_drawsBallot_62 (by omega) (am_ow hM.1) fun Q' hK => md_isLittle hM hv1 hR (fun c3 => hK _ _ (s9_drawsBallot_65 (n_p1 := 3) (am_ow hM.1) hM.done.1 hM.done.2 (fun c => absurd c (by decide)) (fun _ => ?_))) (fun c3 => hK _ _ (s9_drawsBallot_65 (n_p1 := 3) (am_ow hM.1) hM.done.1 hM.done.2 (fun _ => ?_) (fun c => absurd rfl c)))
      · rw [wrs (by omega)]
        dsimp only
        rw [tnc, ek]
        rw [if_pos c3] at ed
        exact nxt _ (fun x p q => by rw [u2r q]; exact g1 x p) (fun j hj => by rw [u2r (by omega)]; exact g2 j hj) (fun r hr => by rw [u2n hr, e116]) ⟨(by unfold MrV at g3 ⊢; rw [u2r (show 115 ≠ 116 by omega)]; exact g3), by rw [u2_at, ed]⟩
      · rw [wrs (by omega)]
        rw [if_neg c3] at ed
        exact nxt I1 (fun x p _ => g1 x p) g2 (fun r hr => by rw [e116]) ⟨g3, by rw [e116, hi0.2, c2, ed]⟩
    · dsimp only at c2
      rw [tnc, hi0.2] at c2
      rw [wrs (by omega)]
      exact nxt I (fun _ _ _ => rfl) (fun _ _ => rfl) (fun _ _ => rfl) (by rw [rs_done c2]; exact hi0)
end
