/-! THE CLASS: where all lies; replaying -/
theorem ElV.way {I : Nat → Nat → Int} {e r : Nat} {v : Int} {R : Nat → Int} (h : ElV I e R) (hR : RV R) (hr : r < rC R) : ElV (u2 I (ec e r) 6 v) e (rs1 R (8 + 2 * r + 1) v) := by
  have hc := hR.c
  have n : ∀ j, j ≠ 8 + 2 * r + 1 → rs1 R (8 + 2 * r + 1) v j = R j := fun j hj => rs1_ne hj
  obtain ⟨a0, a1, a2, a3, a4, a5⟩ := h
  have u : ∀ x, x ≠ ec e r → u2 I (ec e r) 6 v x = I x := fun x hx => u2r hx
  have w : ∀ q, q < rC R → (q ≠ r → CtV (u2 I (ec e r) 6 v) (ec e q) R q) := fun q hq hqr => (a5 q hq).same fun x hx1 hx2 => u x (by unfold ec at *; omega)
  refine ⟨by rw [u e (by unfold ec; omega), n 0 (by omega)]; exact a0, by rw [u e (by unfold ec; omega), n 1 (by omega)]; exact a1, by rw [u e (by unfold ec; omega), n 5 (by omega)]; exact a2, by rw [u e (by unfold ec; omega), n 6 (by omega)]; exact a3, by rw [u (e + 2) (by unfold ec; omega), n 2 (by omega), n 3 (by omega), n 4 (by omega)]; exact a4, fun q hq => ?_⟩
  rw [rC_of (n 0 (by omega))] at hq
  by_cases eq : q = r
  · subst eq
    obtain ⟨b1, b2, b3, b4, b5, b6, b7⟩ := a5 q hq
    have eN : rN (rs1 R (8 + 2 * q + 1) v) = rN R := rN_of (n 1 (by omega))
    have eK : rK (rs1 R (8 + 2 * q + 1) v) q = rK R q := by unfold rK; rw [n _ (by omega)]
    have eV : rV_ (rs1 R (8 + 2 * q + 1) v) q = rV_ R q := funext fun b => n _ (by omega)
    have eP : rP_ (rs1 R (8 + 2 * q + 1) v) q = rP_ R q := funext fun b => n _ (by omega)
    unfold CtV
    have ur : ∀ j, j ≠ 0 → u2 I (ec e q) 6 v (ec e q + j) = I (ec e q + j) := fun j hj => u2r (by omega)
    rw [ur 1 (by omega), ur 2 (by omega), ur 3 (by omega), ur 4 (by omega), ur 5 (by omega)]
    unfold rW rO rG rT rH rM rY at *
    rw [eN, eK, eV, eP, n (8 + 2 * q) (by omega), rs1_at]
    exact ⟨by rw [u2n (by omega)]; exact b1, u2_at, by rw [u2n (by omega)]; exact b3, by rw [u2n (by omega)]; exact b4, by rw [u2n (by omega)]; exact b5, b6, b7⟩
  · exact (w q hq eq).congr (n 1 (by omega)) (n _ (by omega)) (n _ (by omega)) (fun c _ => n _ (by omega)) (fun c _ => n _ (by omega)) hR hq
theorem ElV.head {I I' : Nat → Nat → Int} {e k : Nat} {v : Int} {R : Nat → Int} (h : ElV I e R) (hR : RV R) (hk : k = 2 ∨ k = 3 ∨ k = 4 ∨ k = 6) (hs : ∀ x, x ≠ e → x ≠ e + 2 → I' x = I x) (hH : ElH I' e (rs1 R k v)) : ElV I' e (rs1 R k v) := by
  have hc := hR.c
  have n : ∀ j, j ≠ k → rs1 R k v j = R j := fun j hj => rs1_ne hj
  refine hH.to fun q hq => ?_
  rw [rC_of (n 0 (by omega))] at hq
  exact ((h.2.2.2.2.2 q hq).same (I' := I') fun x hx1 hx2 => hs x (by unfold ec at *; omega) (by unfold ec at *; omega)).congr (n 1 (by omega)) (n _ (by omega)) (n _ (by omega)) (fun c _ => n _ (by omega)) (fun c _ => n _ (by omega)) hR hq
theorem ElV.rule {I : Nat → Nat → Int} {e w : Nat} {v : Int} {R : Nat → Int} (h : ElV I e R) (hR : RV R) (hw : w < 3) : ElV (u2 I (e + 2) w v) e (rs1 R (2 + w) v) := by
  refine h.head hR (by omega) (fun x _ hx => u2r hx) ?_
  obtain ⟨a0, a1, a2, a3, a4, a5⟩ := h
  have u : u2 I (e + 2) w v e = I e := u2r (by omega)
  unfold ElH
  rw [u, rs1_ne (show 0 ≠ 2 + w by omega), rs1_ne (show 1 ≠ 2 + w by omega), rs1_ne (show 5 ≠ 2 + w by omega), rs1_ne (show 6 ≠ 2 + w by omega)]
  have f : ∀ j, j < 3 → I (e + 2) j = R (2 + j) → u2 I (e + 2) w v (e + 2) j = rs1 R (2 + w) v (2 + j) := fun j hj hq => by
    by_cases ej : j = w
    · subst ej; rw [u2_at, rs1_at]
    · rw [u2n ej, rs1_ne (by omega)]; exact hq
  exact ⟨a0, a1, a2, a3, f 0 (by omega) a4.1, f 1 (by omega) a4.2.1, f 2 (by omega) a4.2.2⟩
theorem ElV.drawn {I : Nat → Nat → Int} {e : Nat} {v : Int} {R : Nat → Int} (h : ElV I e R) (hR : RV R) : ElV (u2 I e 5 v) e (rs1 R 6 v) := by
  refine h.head hR (by omega) (fun x hx _ => u2r hx) ?_
  obtain ⟨a0, a1, a2, a3, a4, a5⟩ := h
  unfold ElH
  rw [u2n (by omega), u2n (by omega), u2n (by omega), u2_at, u2r (show e + 2 ≠ e by omega), rs1_ne (by omega), rs1_ne (by omega), rs1_ne (by omega), rs1_at, rs1_ne (by omega), rs1_ne (by omega), rs1_ne (by omega)]
  exact ⟨a0, a1, a2, rfl, a4⟩
theorem ct_setMethod {G : am_G} {dp : Nat} {Q : am_Q} {e r : Nat} {v : Int} {R : Nat → Int} {Z : (Nat → Nat → Option Nat) × (Nat → Nat × Nat) × Nat × Bool} {I : Nat → Nat → Int} (he : El (I, Z) e) (hR : RV R) (hv : ElV I e R) (hr : r < rC R) (h : ∀ I' : Nat → Nat → Int, (∀ x, x < e ∨ e + 21 ≤ x → I' x = I x) → ElV I' e (rs1 R (8 + 2 * r + 1) v) → Q (.inl none) (I', Z)) : T G dp 0 0 M3_setMethod [rV (some e), iV r, iV v] (I, Z) Q := by
  have hc := hR.c
  have her := he.2.2.2 r (by omega)
  exact T3_setMethod (s3_setMethod_0 (n_p1 := 3) (am_ow he.1) he.2.1.1 (Or.inl rfl) (am_rw he.2.2.1.1) (fun _ _ => her.1) (fun _ _ => her.2.1) (fun c1 => absurd c1 (by omega)) (fun c1 c2 => absurd c2 (by dsimp only; rw [hv.1]; omega)) (fun c1 c2 => h _ (fun x hx => u2r (by unfold ec; omega)) (hv.way hR hr)))
theorem ct_setRule {G : am_G} {dp : Nat} {Q : am_Q} {e w : Nat} {v : Int} {R : Nat → Int} {Z : (Nat → Nat → Option Nat) × (Nat → Nat × Nat) × Nat × Bool} {I : Nat → Nat → Int} (he : El (I, Z) e) (hR : RV R) (hv : ElV I e R) (hw : w < 3) (h : ∀ I' : Nat → Nat → Int, (∀ x, x < e ∨ e + 21 ≤ x → I' x = I x) → ElV I' e (rs1 R (2 + w) v) → Q (.inl none) (I', Z)) : T G dp 0 0 M3_setRule [rV (some e), iV w, iV v] (I, Z) Q :=
  T3_setRule (s3_setRule_0 (n_p1 := 3) (am_ow he.1) he.2.1.2 he.2.2.1.2 (fun c1 => absurd c1 (by omega)) (fun c1 c2 => absurd c2 (by omega)) (fun c1 c2 => h _ (fun x hx => u2r (by omega)) (hv.rule hR hw)))
def Sp (m : am_M) (q : Nat) : Prop := am_obw m q 6 ∧ m.2.1 q 0 = some (q + 1) ∧ am_arw m (q + 1) 100 64
def Qu (m : am_M) (q : Nat) : Prop := am_obw m q 4 ∧ (m.2.1 q 0 = some (q + 1) ∧ m.2.1 q 1 = some (q + 2) ∧ m.2.1 q 2 = some (q + 3)) ∧ am_arw m (q + 1) 100 200 ∧ am_arw m (q + 2) 100 200 ∧ am_arw m (q + 3) 100 64
/-- the object at 1, all that it owns; its election w, the spare one s -/
def Cl (m : am_M) (w s : Nat) : Prop := m.2.2.2.2 = false ∧ (w = 5 ∧ s = 26 ∨ w = 26 ∧ s = 5) ∧ am_obw m 1 7 ∧ (m.2.1 1 0 = some 2 ∧ m.2.1 1 3 = some 3 ∧ m.2.1 1 4 = some w ∧ m.2.1 1 5 = some s ∧ m.2.1 1 6 = some 47 ∧ m.2.1 1 7 = some 59 ∧ m.2.1 1 8 = some 71 ∧ m.2.1 1 9 = some 76 ∧ m.2.1 1 10 = some 78 ∧ m.2.1 1 12 = some 82) ∧ am_arw m 2 102 600 ∧ (El m 5 ∧ El m 26 ∧ El m 82) ∧ (Au m 47 ∧ Au m 59) ∧ Ac m 71 ∧ Sp m 3 ∧ am_obw m 76 5 ∧ Qu m 78
theorem Cl.z {m : am_M} {w s : Nat} (h : Cl m w s) : m.2.2.2.2 = false := h.1
theorem Cl.ws {m : am_M} {w s : Nat} (h : Cl m w s) : w = 5 ∧ s = 26 ∨ w = 26 ∧ s = 5 := h.2.1
theorem Cl.o {m : am_M} {w s : Nat} (h : Cl m w s) : am_obw m 1 7 := h.2.2.1
theorem Cl.p {m : am_M} {w s : Nat} (h : Cl m w s) : m.2.1 1 0 = some 2 ∧ m.2.1 1 3 = some 3 ∧ m.2.1 1 4 = some w ∧ m.2.1 1 5 = some s ∧ m.2.1 1 6 = some 47 ∧ m.2.1 1 7 = some 59 ∧ m.2.1 1 8 = some 71 ∧ m.2.1 1 9 = some 76 ∧ m.2.1 1 10 = some 78 ∧ m.2.1 1 12 = some 82 := h.2.2.2.1
theorem Cl.p4 {m : am_M} {w s : Nat} (h : Cl m w s) : m.2.1 1 4 = some w := h.p.2.2.1
theorem Cl.p6 {m : am_M} {w s : Nat} (h : Cl m w s) : m.2.1 1 6 = some 47 := h.p.2.2.2.2.1
theorem Cl.p7 {m : am_M} {w s : Nat} (h : Cl m w s) : m.2.1 1 7 = some 59 := h.p.2.2.2.2.2.1
theorem Cl.p8 {m : am_M} {w s : Nat} (h : Cl m w s) : m.2.1 1 8 = some 71 := h.p.2.2.2.2.2.2.1
theorem Cl.p9 {m : am_M} {w s : Nat} (h : Cl m w s) : m.2.1 1 9 = some 76 := h.p.2.2.2.2.2.2.2.1
theorem Cl.p10 {m : am_M} {w s : Nat} (h : Cl m w s) : m.2.1 1 10 = some 78 := h.p.2.2.2.2.2.2.2.2.1
theorem Cl.p12 {m : am_M} {w s : Nat} (h : Cl m w s) : m.2.1 1 12 = some 82 := h.p.2.2.2.2.2.2.2.2.2
theorem Cl.tape {m : am_M} {w s : Nat} (h : Cl m w s) : am_arw m 2 102 600 := h.2.2.2.2.1
theorem Cl.now {m : am_M} {w s : Nat} (h : Cl m w s) : El m w := by
  rcases h.ws with q | q
  · rw [q.1]; exact h.2.2.2.2.2.1.1
  · rw [q.1]; exact h.2.2.2.2.2.1.2.1
theorem Cl.spare {m : am_M} {w s : Nat} (h : Cl m w s) : El m s := by
  rcases h.ws with q | q
  · rw [q.2]; exact h.2.2.2.2.2.1.2.1
  · rw [q.2]; exact h.2.2.2.2.2.1.1
theorem Cl.kept {m : am_M} {w s : Nat} (h : Cl m w s) : El m 82 := h.2.2.2.2.2.1.2.2
theorem Cl.audit {m : am_M} {w s : Nat} (h : Cl m w s) : Au m 47 := h.2.2.2.2.2.2.1.1
theorem Cl.trial {m : am_M} {w s : Nat} (h : Cl m w s) : Au m 59 := h.2.2.2.2.2.2.1.2
theorem Cl.acts {m : am_M} {w s : Nat} (h : Cl m w s) : Ac m 71 := h.2.2.2.2.2.2.2.1
theorem Cl.sp {m : am_M} {w s : Nat} (h : Cl m w s) : Sp m 3 := h.2.2.2.2.2.2.2.2.1
theorem Cl.rd {m : am_M} {w s : Nat} (h : Cl m w s) : am_obw m 76 5 := h.2.2.2.2.2.2.2.2.2.1
theorem Cl.qu {m : am_M} {w s : Nat} (h : Cl m w s) : Qu m 78 := h.2.2.2.2.2.2.2.2.2.2
/-- how many draws count -/
def kN (R : Nat → Int) : Nat := goes R (dw R (R 5)) (R 6) 300 0
theorem kN_le (R : Nat → Int) : kN R ≤ 300 := by have := (goes_le (R := R) (d := dw R (R 5)) (most := R 6) 300 0).2; unfold kN; omega
theorem ct_replay {G : am_G} {dp : Nat} {Q : am_Q} {w s : Nat} {R : Nat → Int} {Z : (Nat → Nat → Option Nat) × (Nat → Nat × Nat) × Nat × Bool} {I : Nat → Nat → Int} (hd : 6 ≤ dp) (hC : Cl (I, Z) w s) (hR : RV R) (hv : ElV I w R) (h : ∀ I' : Nat → Nat → Int, (∀ x, x < 47 ∨ 59 ≤ x → I' x = I x) → AuV I' 47 R (R 5) (kN R) → Q (.inl none) (I', Z)) : T G dp 0 0 M8_replay [rV (some 1)] (I, Z) Q := by
  have hw := hC.ws
  refine T8_replay (s8_replay_0 (by omega) (am_ow hC.o) hC.p6 hC.p4 (am_ow hC.now.1) (am_ow hC.audit.1) fun Q' hK => ?_)
  dsimp only
  rw [hv.2.2.1]
  refine ct_begin (R := R) (by omega) hC.audit hC.now hv hR (by omega) (fun I1 g1 g2 => hK _ ?_)
  refine s8_replay_18 (by omega) (am_ow hC.o) hC.p6 hC.p4 (am_ow hC.now.1) (am_ow hC.audit.1) fun Q' hK => ?_
  have hv1 : ElV I1 w R := hv.same hR fun x hx1 hx2 => g1 x (by omega)
  dsimp only
  rw [hv1.2.2.2.1]
  refine ct_goOn (k := 0) (R := R) (by omega) hC.audit hC.now hv1 hR (by omega) (by omega) g2 (fun I2 q1 q2 => hK _ (s8_replay_36 (h I2 (fun x hx => ?_) q2)))
  rw [q1 x (by omega)]; exact g1 x (by omega)
