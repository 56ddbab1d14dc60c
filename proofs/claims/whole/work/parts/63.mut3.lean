/-! THE CLASS: undoing, images -/
section
variable {G : am_G} {dp : Nat} {Q : am_Q} {w s n : Nat} {R : Nat → Int} {P : Nat → Nat → Int} {Z : (Nat → Nat → Option Nat) × (Nat → Nat × Nat) × Nat × Bool} {I : Nat → Nat → Int}
theorem UndL.pop {k : Nat} {A : Nat → Int × Int × Int × Int} {S : Nat → Int} (h : UndL (k + 1) A P S) : UndL k A P (P k) := by
  intro j hj
  have := h j (by omega)
  rw [if_pos (by omega)] at this
  by_cases e : j + 1 < k
  · rw [if_pos e]; exact this
  · rw [if_neg e]
    rw [show j + 1 = k by omega] at this
    exact this
/-- behind the undoing of an act: replay, and answer -/
theorem un_end {k : Nat} {A : Nat → Int × Int × Int × Int} {S : Nat → Int} {v : Int} {a b : Nat} {I2 : Nat → Nat → Int} (hd : 8 ≤ dp) (hC : Cl (I, Z) w s) (hS : RV S) (hv : ElV I2 w S) (hA : AcV I2 71 k A) (hU : UndL k A P (P k)) (hP : Rsm S (P k)) (hf : ∀ x, x < 5 ∨ 76 ≤ x → I2 x = I x) (h0 : ∀ I' : Nat → Nat → Int, (∀ x, x < 5 ∨ 76 ≤ x → I' x = I x) → CX I' w (P k) k P → Q (.inl (some (iV k))) (I', Z)) : X G dp a b M8_undo 121 [some (rV (some 1)), some (iV v)] [] (I2, Z) Q := by
  have hw := hC.ws
  have hC2 : Cl (I2, Z) w s := hC
  refine s8_undo_121 (by omega) (am_ow hC.o) fun Q' hK => ct_replay (by omega) hC2 hS hv (fun I3 m1 m2 => hK _ ?_)
  refine s8_undo_125 (am_ow hC.o) hC.p8 (am_ow hC.acts.1) ?_
  have hA3 : AcV I3 71 k A := hA.same fun x q1 q2 => m1 x (by omega)
  dsimp only
  rw [hA3.1]
  refine h0 I3 (fun x hx => ?_) ⟨(show CI I3 w S from ⟨hS, hv.same hS fun x q1 q2 => m1 x (by omega), m2⟩).sm hP, A, hA3, hU⟩
  rw [m1 x (by omega)]; exact hf x hx
theorem q_undo (hd : 9 ≤ dp) (hC : Cl (I, Z) w s) (hX : CX I w R n P) (h1 : n = 0 → Q (.inl (some (iV (-1)))) (I, Z)) (h0 : ∀ k, n = k + 1 → ∀ I' : Nat → Nat → Int, (∀ x, x < 5 ∨ 76 ≤ x → I' x = I x) → CX I' w (P k) k P → Q (.inl (some (iV k))) (I', Z)) : T G dp 4 24 M8_undo [rV (some 1)] (I, Z) Q := by
  obtain ⟨hI, A, hA, hU⟩ := hX
  have hR := hI.1
  have hw := hC.ws
  have hc := hR.c
  refine T8_undo (s8_undo_0 (by omega) (am_ow hC.o) hC.p8 (am_ow hC.acts.1) fun Q' hK => ct_takeLatest hC.acts hA (fun e => hK _ _ ?_) (fun k ek I1 g1 g2 f5 f6 f7 f8 => hK _ _ ?_))
  · exact s8_undo_7 (by omega) (am_ow hC.o) hC.p8 (am_ow hC.acts.1) hC.p4 hC.now.1 hC.p4 (am_ow hC.now.1) hC.p4 (am_ow hC.now.1) hC.p4 (am_ow hC.now.1) (fun c1 => absurd rfl c1) (fun c1 => absurd rfl c1) (fun c1 => absurd rfl c1) (fun c1 => absurd rfl c1) (fun _ => h1 e)
  · subst ek
    have hv1 : ElV I1 w R := hI.2.1.same hR fun x q1 q2 => g1 x (by omega)
    have hf1 : ∀ x, x < 5 ∨ 76 ≤ x → I1 x = I x := fun x hx => g1 x (by omega)
    have hk := hU k (by omega)
    rw [if_neg (by omega)] at hk
    obtain ⟨hPk, hk⟩ := hk
    have hU2 := hU.pop
    have h0 := h0 k rfl
    have frE : ∀ (I2 : Nat → Nat → Int), (∀ x, x < w ∨ w + 21 ≤ x → I2 x = I1 x) → ∀ x, x < 5 ∨ 76 ≤ x → I2 x = I x := fun I2 q x hx => by rw [q x (by omega)]; exact hf1 x hx
    have acE : ∀ (I2 : Nat → Nat → Int), (∀ x, x < w ∨ w + 21 ≤ x → I2 x = I1 x) → AcV I2 71 k A := fun I2 q => g2.same fun x q1 q2 => q x (by omega)
    refine s8_undo_7 (by omega) (am_ow hC.o) hC.p8 (am_ow hC.acts.1) hC.p4 hC.now.1 hC.p4 (am_ow hC.now.1) hC.p4 (am_ow hC.now.1) hC.p4 (am_ow hC.now.1) (fun _ c2 => ?_) (fun _ c2 Q' hK => ?_) (fun _ c2 Q' hK => ?_) (fun _ c2 c3 c4 Q' hK => ?_) (fun c1 => absurd c1 (by decide))
    all_goals dsimp only at *
    · rw [f5] at c2
      rcases hk with ⟨a, q⟩ | ⟨a, _⟩ | ⟨a, _⟩ | ⟨a, _⟩
      · rw [f8]
        have hS := hPk.sm q.symm
        exact un_end (by omega) hC hS (hv1.drawn hR) (g2.same fun x q1 q2 => u2r (by omega)) hU2 q (fun x hx => by rw [u2r (by omega)]; exact hf1 x hx) h0
      · omega
      · omega
      · omega
    · rw [f5] at c2
      rcases hk with ⟨a, q⟩ | ⟨a, r, b, e1, e2, l1, l2, q⟩ | ⟨a, _⟩ | ⟨a, _⟩
      · omega
      · rw [f8] at hK
        rw [f6, f7, f8, e1, e2]
        have hS := hPk.sm q.symm
        have hw2 := (hS.2.2.2.2.2.2.2 r (by rw [rs1_c (by omega)]; exact l1)).2.2 b (by rw [rs1_n (by omega)]; exact l2)
        have hch : -2 ≤ (A k).2.2.2 ∧ (A k).2.2.2 < R (8 + 2 * r) := by
          have := hw2.2
          unfold rP_ at this
          rw [rs1_at, rs1_ne (by omega)] at this
          exact this
        exact ct_show (by omega) hC.now hR hv1 l1 l2 hch (fun I2 m1 m2 => hK _ (s8_undo_85 (un_end (by omega) hC hS m2 (acE I2 m1) hU2 q (frE I2 m1) h0)))
      · omega
      · omega
    · rw [f5] at c2
      rcases hk with ⟨a, q⟩ | ⟨a, _⟩ | ⟨a, r, e1, l1, q⟩ | ⟨a, _⟩
      · omega
      · omega
      · rw [f8] at hK
        rw [f6, f8, e1]
        exact ct_setMethod hC.now hR hv1 l1 (fun I2 m1 m2 => hK _ (s8_undo_103 (un_end (by omega) hC (hPk.sm q.symm) m2 (acE I2 m1) hU2 q (frE I2 m1) h0)))
      · omega
    · rw [f5] at c2 c3 c4
      rcases hk with ⟨a, q⟩ | ⟨a, _⟩ | ⟨a, _⟩ | ⟨a, r, e1, l1, q⟩
      · omega
      · omega
      · omega
      · rw [f8] at hK
        rw [f6, f8, e1]
        exact ct_setRule hC.now hR hv1 l1 (fun I2 m1 m2 => hK _ (un_end (by omega) hC (hPk.sm q.symm) m2 (acE I2 m1) hU2 q (frE I2 m1) h0))
theorem q_image (hd : 6 ≤ dp) (hC : Cl (I, Z) w s) (hI : CI I w R) (h0 : ∀ I' : Nat → Nat → Int, (∀ x, x ≠ 1 → x < 82 ∨ 103 ≤ x → I' x = I x) → (∀ j, j ≠ 11 → I' 1 j = I 1 j) → I' 1 11 = 1 → ElV I' 82 R → Q (.inl none) (I', Z)) : T G dp 4 24 M8_image [rV (some 1)] (I, Z) Q := by
  have hw := hC.ws
  refine T8_image (s8_image_0 (by omega) hC.o hC.p12 hC.p4 (am_ow hC.kept.1) fun Q' hK => ?_)
  refine ct_copyE (R := R) (by omega) hC.z hC.kept hC.now (by omega) hI.1 (hI.2.1.same hI.1 fun x q1 q2 => u2r (by omega)) (fun I1 k1 k2 => hK _ (s8_image_16 (h0 I1 (fun x hx hx2 => ?_) (fun j hj => ?_) ?_ k2)))
  · rw [k1 x (by omega), u2r hx]
  · rw [k1 1 (by omega), u2n hj]
  · rw [k1 1 (by omega), u2_at]
theorem q_back {Ri : Nat → Int} (hd : 9 ≤ dp) (hC : Cl (I, Z) w s) (hX : CX I w R n P) (h1 : I 1 11 = 0 → Q (.inl (some (iV 0))) (I, Z)) (hi : I 1 11 ≠ 0 → RV Ri ∧ ElV I 82 Ri) (h0 : I 1 11 ≠ 0 → ∀ I' : Nat → Nat → Int, (∀ x, x < 5 ∨ 76 ≤ x → I' x = I x) → CX I' w Ri 0 P → Q (.inl (some (iV 1))) (I', Z)) : T G dp 4 24 M8_back [rV (some 1)] (I, Z) Q := by
  obtain ⟨hI, A, hA, hU⟩ := hX
  have hw := hC.ws
  refine T8_back (s8_back_0 (by omega) (am_ow hC.o) hC.p4 hC.p12 (am_ow hC.now.1) (fun c1 Q' hK => ?_) (fun c1 => h1 c1))
  dsimp only at c1
  obtain ⟨hRi, hvi⟩ := hi c1
  refine ct_copyE (R := Ri) (by omega) hC.z hC.now hC.kept (by omega) hRi hvi (fun I1 k1 k2 => hK _ ?_)
  refine s8_back_20 (by omega) (am_ow hC.o) hC.p8 (am_ow hC.acts.1) fun Q' hK => ct_forget (A := A) hC.acts (fun I2 l1 l2 => hK _ ?_)
  have hv2 : ElV I2 w Ri := k2.same hRi fun x q1 q2 => l1 x (by omega)
  refine s8_back_27 (by omega) (am_ow hC.o) fun Q' hK => ct_replay (by omega) hC hRi hv2 (fun I3 m1 m2 => hK _ (s8_back_31 ?_))
  refine h0 c1 I3 (fun x hx => ?_) ⟨⟨hRi, hv2.same hRi fun x q1 q2 => m1 x (by omega), m2⟩, A, l2.same (fun x q1 q2 => m1 x (by omega)), fun j hj => absurd hj (by omega)⟩
  rw [m1 x (by omega), l1 x (by omega)]; exact k1 x (by omega)
end
