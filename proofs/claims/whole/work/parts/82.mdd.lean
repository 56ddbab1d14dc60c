/-! THE REFERENCE: the audit's state behind k draws -/
/-- the reference's audit behind k draws d -/
def MaV (I : Nat → Nat → Int) (R : Nat → Int) (d : Nat → Int) (k : Nat) : Prop := I 103 16 = k ∧ LdV I R ∧ (∀ r, r < rC R → MdR I R r (rs R d r k)) ∧ ∀ j, j ≤ k → ∀ r, r < rC R → I 117 (3 * j + r) = (rs R d r j).2.1
section
variable {G : am_G} {dp : Nat} {Q : am_Q} {R : Nat → Int} {Z : (Nat → Nat → Option Nat) × (Nat → Nat × Nat) × Nat × Bool}
theorem md_drawsBallot {I : Nat → Nat → Int} {d : Nat → Int} {k b : Nat} (hd : 6 ≤ dp) (hM : Md (I, Z)) (hv : RowV I R) (hR : RV R) (hA : MaV I R d k) (hk : k + 1 ≤ 300) (hb : d k = b) (hbn : b < rN R) (h : ∀ I' : Nat → Nat → Int, (∀ x, x ≠ 103 → x < 115 ∨ 118 ≤ x → I' x = I x) → (∀ j, j ≠ 16 → I' 103 j = I 103 j) → MaV I' R d (k + 1) → Q (.inl none) (I', Z)) : T G dp 0 0 M9_drawsBallot [rV (some 103), iV b] (I, Z) Q := by
  have hc := hR.c
  obtain ⟨h1, h2, h3, h4⟩ := hA
  refine T9_drawsBallot (s9_drawsBallot_0 hM.1 ?_)
  dsimp only
  rw [h1, wrs (by omega)]
  have r0 : ∀ x, x ≠ 103 → u2 I 103 16 ((k + 1 : Nat) : Int) x = I x := fun x hx => u2r hx
  refine lp_dball (I0 := u2 I 103 16 ((k + 1 : Nat) : Int)) (d := d) (k := k) (by omega) hM (fun j hj => by rw [r0 104 (by omega)]; exact hv j hj) hR (h2.same fun x a b => r0 x (by omega)) hb hbn u2_at (fun I1 g1 g2 Q' hK => ?_) (rC R) 0 _ rfl (by omega) (fun _ _ _ => rfl) (fun r hr => by rw [if_neg (by omega)]; exact (h3 r hr).same (fun c hc => by rw [r0 115 (by omega)]) (by rw [r0 116 (by omega)]))
  have f1 : ∀ x, x ≠ 103 → x ≠ 115 → x ≠ 116 → I1 x = I x := fun x a b c => by rw [g1 x b c]; exact r0 x a
  have L1 : LdV I1 R := h2.same fun x a b => f1 x (by omega) (by omega) (by omega)
  have e16 : I1 103 16 = ((k + 1 : Nat) : Int) := by rw [g1 103 (by omega) (by omega)]; exact u2_at
  refine md_history (n := k + 1) (S := fun r => rs R d r (k + 1)) (by omega) hM (fun j hj => by rw [f1 104 (by omega) (by omega) (by omega)]; exact hv j hj) hR L1 e16 hk (fun r hr => (g2 r hr).1) (fun I2 m1 m2 m3 => hK _ (s9_drawsBallot_88 (h I2 (fun x a b => ?_) (fun j hj => ?_) ⟨?_, L1.same fun x a b => m1 x (by omega), fun r hr => (g2 r hr).same (fun c hc => by rw [m1 115 (by omega)]) (by rw [m1 116 (by omega)]), fun j hj r hr => ?_⟩)))
  · rw [m1 x (by omega)]; exact f1 x a (by omega) (by omega)
  · rw [m1 103 (by omega), g1 103 (by omega) (by omega), u2n hj]
  · rw [m1 103 (by omega)]; exact e16
  · by_cases e : j = k + 1
    · subst e; exact m2 r hr
    · rw [m3 _ (by omega), f1 117 (by omega) (by omega) (by omega)]; exact h4 j (by omega) r hr
theorem lp_begins {I0 : Nat → Nat → Int} (hd : 4 ≤ dp) (hM : Md (I0, Z)) (hv : RowV I0 R) (hR : RV R) (hL : LdV I0 R) (h0 : I0 103 16 = 0) (d : Nat → Int) (h : ∀ I' : Nat → Nat → Int, (∀ x, x < 115 ∨ 118 ≤ x → I' x = I0 x) → MaV I' R d 0 → Q (.inl none) (I', Z)) : ∀ (t i : Nat) (I : Nat → Nat → Int), rC R - i = t → i ≤ rC R → (∀ x, x ≠ 115 → x ≠ 116 → I x = I0 x) → (∀ r, r < i → (∀ c, c < 4 → I 115 (4 * r + c) = 1000000000) ∧ I 116 r = -1) → X G dp 0 0 M9_begins 11 [some (rV (some 103)), some (iV i)] [] (I, Z) Q := by
  have hc := hR.c
  intro t
  induction t with
  | zero =>
    intro i I ht hi hf h1
    have hvI : RowV I R := fun j hj => by rw [hf 104 (by omega) (by omega)]; exact hv j hj
    have hLI : LdV I R := hL.same fun x a b => hf x (by omega) (by omega)
    have e : i = rC R := by omega
    subst e
    have hMd : ∀ r, r < rC R → MdR I R r (rs R d r 0) := fun r hr => by
      obtain ⟨a, b⟩ := h1 r hr
      have hK4 := hR.k hr
      refine ⟨⟨fun _ => ?_, fun _ => ⟨fun c hc4 => a c hc4, ?_⟩⟩, b⟩
      · have := a 0 (by omega)
        rw [Nat.add_zero] at this
        exact this
      · show grt 0 (rW R r) (fun _ => 1000000000) (rK R r) = 1000000000
        have hW := hR.w hr
        have z : ∀ n, (∃ j, j < n ∧ j ≠ rW R r) → grt 0 (rW R r) (fun _ => 1000000000) n = 1000000000 := fun n => by
          induction n with
          | zero => intro q; obtain ⟨j, q1, _⟩ := q; omega
          | succ n ih =>
            intro q
            have bd := grt_rng (z := 0) (w := rW R r) (own := fun _ => 1000000000) (A := 0) (B := 1000000000) (by omega) (by omega) n (fun _ _ => Int.le_refl _)
            unfold grt
            by_cases e : n = rW R r
            · rw [if_pos e]
              obtain ⟨j, q1, q2⟩ := q
              exact ih ⟨j, by omega, q2⟩
            · rw [if_neg e]; omega
        refine z _ ?_
        by_cases q : rW R r = 0
        · exact ⟨1, by omega, by omega⟩
        · exact ⟨0, by omega, by omega⟩
    refine s9_begins_11 (by omega) (am_ow hM.1) fun Q' hK => md_races (m := (I, Z)) hM hvI (hK _ _ ?_)
    refine s9_begins_16 (by omega) (am_ow hM.1) (fun _ Q' hK => md_history (n := 0) (S := fun r => rs R d r 0) (by omega) hM hvI hR hLI (by rw [hf 103 (by omega) (by omega)]; exact h0) (by omega) (fun r hr => (hMd r hr).1) (fun I2 m1 m2 m3 => hK _ (s9_begins_34 (h I2 (fun x hx => ?_) ⟨?_, hLI.same fun x a b => m1 x (by omega), fun r hr => (hMd r hr).same (fun c hc => by rw [m1 115 (by omega)]) (by rw [m1 116 (by omega)]), fun j hj r hr => ?_⟩)))) (fun c1 => absurd (by omega) c1)
    · rw [m1 x (by omega)]; exact hf x (by omega) (by omega)
    · rw [m1 103 (by omega), hf 103 (by omega) (by omega)]; exact h0
    · rw [show j = 0 by omega]; exact m2 r hr
  | succ t ih =>
    intro i I ht hi hf h1
    have hvI : RowV I R := fun j hj => by rw [hf 104 (by omega) (by omega)]; exact hv j hj
    refine s9_begins_11 (by omega) (am_ow hM.1) fun Q' hK => md_races (m := (I, Z)) hM hvI (hK _ _ ?_)
    refine s9_begins_16 (by omega) (am_ow hM.1) (fun c1 => absurd c1 (by omega)) (fun _ Q' hK => md_clear hM (by omega) (fun I1 g1 g2 g3 g4 g5 => hK _ (s9_begins_24 ?_)))
    rw [wrs (by omega)]
    refine ih (i + 1) I1 (by omega) (by omega) (fun x a b => by rw [g1 x a b]; exact hf x a b) (fun r hr => ?_)
    by_cases e : r = i
    · subst e; exact ⟨g2, g4⟩
    · have q := h1 r (by omega)
      exact ⟨fun c hc => by rw [g3 _ (by omega)]; exact q.1 c hc, by rw [g5 r e]; exact q.2⟩
end
