/-! CONSTRUCTORS: an object and its rows, laid one behind the other -/
/-- the newest cell is c; behind it, and in it, all is blank -/
def Fz (m : am_M) (c : Nat) : Prop := m.2.2.2.2 = true ∧ m.2.2.2.1 = c + 1 ∧ ∀ x, c ≤ x → (∀ j, m.1 x j = 0) ∧ ∀ j, m.2.1 x j = none
/-- c's rows so far: field, kind, length -/
def Bd (m0 m : am_M) (c : Nat) (l : List (Nat × Nat × Nat)) : Prop := m.1 = m0.1 ∧ (∀ x, x ≠ c → m.2.1 x = m0.2.1 x) ∧ (∀ x, x < c + 1 → m.2.2.1 x = m0.2.2.1 x) ∧ m.2.2.2.1 = c + 1 + l.length ∧ m.2.2.2.2 = true ∧ ∀ (i : Nat) (q : Nat × Nat × Nat), l[i]? = some q → m.2.1 c q.1 = some (c + 1 + i) ∧ m.2.2.1 (c + 1 + i) = q.2
theorem Bd.o {m0 : am_M} {c : Nat} (h : Fz m0 c) : Bd m0 m0 c [] := ⟨rfl, fun _ _ => rfl, fun _ _ => rfl, h.2.1, h.1, fun i q hq => absurd hq (by simp)⟩
theorem Bd.ob {m0 m : am_M} {c ci : Nat} {l : List (Nat × Nat × Nat)} (h : Bd m0 m c l) (hc : c ≠ 0) (hci : (m0.2.2.1 c).1 = ci) : am_obw m c ci := ⟨by rw [h.2.2.2.1]; omega, by rw [h.2.2.1 c (by omega)]; exact hci, hc⟩
theorem Bd.ar {m0 m : am_M} {c i : Nat} {l : List (Nat × Nat × Nat)} {q : Nat × Nat × Nat} (h : Bd m0 m c l) (hq : l[i]? = some q) : m.2.1 c q.1 = some (c + 1 + i) ∧ am_arw m (c + 1 + i) q.2.1 q.2.2 := by
  have a := h.2.2.2.2.2 i q hq
  have b := (List.getElem?_eq_some_iff.mp hq).1
  exact ⟨a.1, by rw [h.2.2.2.1]; omega, a.2, by omega⟩
theorem Bd.fz {m0 m : am_M} {c : Nat} {l : List (Nat × Nat × Nat)} (h : Bd m0 m c l) (hF : Fz m0 c) (x : Nat) (hx : c < x) : (∀ j, m.1 x j = 0) ∧ ∀ j, m.2.1 x j = none :=
  ⟨fun j => by rw [h.1]; exact (hF.2.2 x (by omega)).1 j, fun j => by rw [h.2.1 x (by omega)]; exact (hF.2.2 x (by omega)).2 j⟩
theorem X_mkA {G : am_G} {d a b : Nat} {M : am_Me} {pc : Nat} {L : List (Option am_V)} {st : List am_V} {m0 m : am_M} {Q : am_Q} {idx ci c f t n : Nat} {z : Int} {at9 : ArrayType} {l : List (Nat × Nat × Nat)} (hd : decode M.2.1 pc = .ok (.newarray at9, 2)) (hd2 : decode M.2.1 (pc + 2) = .ok (.putfield idx, 3)) (hf : am_ff M.2.2.2.2.1 idx ci f) (hi : M.1.name = "<init>") (hk : am_fk (am_ty ci f) = 1) (ht : t = 100 ∧ at9 = .int ∨ t = 101 ∧ at9 = .long ∨ t = 102 ∧ at9 = .byte) (hcl : Cond.arrayClass (newarray.typeOf at9) ∈ lw_tbl) (hz : z = n) (hn : n ≤ 20000) (hF : Fz m0 c) (hB : Bd m0 m c l) (hc : c ≠ 0) (hci : (m0.2.2.1 c).1 = ci) (hnew : ∀ q, q ∈ l → q.1 ≠ f) (ha : 1 ≤ a) (hb : n ≤ b) (k : ∀ m', Bd m0 m' c (l ++ [(f, t, n)]) → X G d (a - 1) (b - n) M (pc + 5) L st m' Q) : X G d a b M pc L (iV z :: rV (some c) :: st) m Q := by
  have hcnt := hB.2.2.2.1
  have hfz := hB.fz hF m.2.2.2.1 (by omega)
  refine X_newA (t := t) (n := n) hd ht hcl hz hn ⟨hB.2.2.2.2.1, hfz.1, hfz.2⟩ ha hb ?_
  have ob : am_obw (am_al m t n) c ci := ⟨by show c < m.2.2.2.1 + 1; omega, by
    show ((if c = m.2.2.2.1 then (t, n) else m.2.2.1 c)).1 = ci
    rw [if_neg (by omega), hB.2.2.1 c (by omega)]; exact hci, hc⟩
  refine X_putPF hd2 hf hi hk ob (k _ ⟨hB.1, fun x hx => ?_, fun x hx => ?_, ?_, hB.2.2.2.2.1, fun i q hq => ?_⟩)
  · show u2 m.2.1 c f (some m.2.2.2.1) x = _
    rw [u2_row _ hx]; exact hB.2.1 x hx
  · show (if x = m.2.2.2.1 then (t, n) else m.2.2.1 x) = _
    rw [if_neg (by omega)]; exact hB.2.2.1 x hx
  · show m.2.2.2.1 + 1 = c + 1 + (l ++ [(f, t, n)]).length
    rw [List.length_append, List.length_singleton]; omega
  · show u2 m.2.1 c f (some m.2.2.2.1) c q.1 = some (c + 1 + i) ∧ (if c + 1 + i = m.2.2.2.1 then (t, n) else m.2.2.1 (c + 1 + i)) = q.2
    by_cases e : i < l.length
    · rw [List.getElem?_append_left e] at hq
      have a := hB.2.2.2.2.2 i q hq
      rw [u2_ne _ (Or.inr (hnew q (List.mem_of_getElem? hq))), if_neg (by omega)]
      exact a
    · have hl := (List.getElem?_eq_some_iff.mp hq).1
      rw [List.length_append, List.length_singleton] at hl
      have e2 : i = l.length := by omega
      rw [e2, List.getElem?_append_right (Nat.le_refl _), Nat.sub_self] at hq
      have hq : (f, t, n) = q := Option.some.inj hq
      subst hq
      rw [u2_same, if_pos (by omega)]
      exact ⟨by rw [e2, hcnt], rfl⟩
theorem am_w0 {m : am_M} {c k : Nat} (h : m.1 c k = 0) : am_wI m c k 0 = m := by
  have : u2 m.1 c k 0 = m.1 := by
    funext x y
    by_cases e : x = c ∧ y = k
    · rw [e.1, e.2, u2_same, h]
    · exact if_neg e
  show (u2 m.1 c k 0, m.2) = m
  rw [this]
theorem X_put0 {G : am_G} {d a b : Nat} {M : am_Me} {pc : Nat} {L : List (Option am_V)} {st : List am_V} {m : am_M} {Q : am_Q} {idx ci k r : Nat} (hd : decode M.2.1 pc = .ok (.putfield idx, 3)) (hf : am_fw M.2.2.2.2.1 idx ci k) (hk : am_ty ci k = .int) (hr : am_obw m r ci) (h0 : m.1 r k = 0) (kk : X G d a b M (pc + 3) L st m Q) : X G d a b M pc L (iV 0 :: rV (some r) :: st) m Q :=
  X_putI hd hf hk hr (by rw [am_w0 h0]; exact kk)
theorem X_put0Z {G : am_G} {d a b : Nat} {M : am_Me} {pc : Nat} {L : List (Option am_V)} {st : List am_V} {m : am_M} {Q : am_Q} {idx ci k r : Nat} (hd : decode M.2.1 pc = .ok (.putfield idx, 3)) (hf : am_fw M.2.2.2.2.1 idx ci k) (hk : am_ty ci k = .boolean) (hr : am_obw m r ci) (h0 : m.1 r k = 0) (kk : X G d a b M (pc + 3) L st m Q) : X G d a b M pc L (iV 0 :: rV (some r) :: st) m Q :=
  X_putZ hd hf hk (Or.inl rfl) hr (by rw [am_w0 h0]; exact kk)
theorem ob_i : Cond.instanceMethod Lib.objectInit ∈ lw_tbl := List.mem_of_getElem? (i := 134) (by decide +kernel)
theorem ob_c : Cond.code Lib.objectInit ⟨#[0xb1]⟩ 1 none ∈ lw_tbl := List.mem_of_getElem? (i := 135) (by decide +kernel)
theorem ac_b : Cond.arrayClass .byte ∈ lw_tbl := List.mem_of_getElem? (i := 151) (by decide +kernel)
theorem ac_i : Cond.arrayClass .int ∈ lw_tbl := List.mem_of_getElem? (i := 152) (by decide +kernel)
theorem ac_l : Cond.arrayClass .long ∈ lw_tbl := List.mem_of_getElem? (i := 305) (by decide +kernel)
