/-! THE CLASS is made: what one new part tells of the memory -/
def Gz (m : am_M) (cnt : Nat) : Prop := m.2.2.2.2 = true ∧ m.2.2.2.1 = cnt ∧ ∀ x, cnt ≤ x → (∀ j, m.1 x j = 0) ∧ ∀ j, m.2.1 x j = none
def Gn (m m2 : am_M) (cnt cnt2 : Nat) : Prop := (∀ x, x < cnt → m2.1 x = m.1 x) ∧ (∀ x, x < cnt → m2.2.1 x = m.2.1 x) ∧ (∀ x, x < cnt → m2.2.2.1 x = m.2.2.1 x) ∧ Gz m2 cnt2
def Gp (m m2 : am_M) (cnt cnt2 f : Nat) : Prop := (∀ x, x < cnt → m2.1 x = m.1 x) ∧ (∀ x, x ≠ 1 → x < cnt → m2.2.1 x = m.2.1 x) ∧ (∀ x, x < cnt → m2.2.2.1 x = m.2.2.1 x) ∧ (∀ k, k ≠ f → m2.2.1 1 k = m.2.1 1 k) ∧ m2.2.1 1 f = some cnt ∧ Gz m2 cnt2
theorem Bd.gn {m0 m : am_M} {c : Nat} {l : List (Nat × Nat × Nat)} (hF : Fz m0 c) (h : Bd m0 m c l) : Gn m0 m c (c + 1 + l.length) :=
  ⟨fun x _ => by rw [h.1], fun x hx => h.2.1 x (by omega), fun x hx => h.2.2.1 x (by omega), h.2.2.2.2.1, h.2.2.2.1, fun x hx => h.fz hF x (by omega)⟩
theorem Gr.gn {m0 m : am_M} {c cnt : Nat} (hF : Fz m0 c) (h : Gr m0 m c cnt) : Gn m0 m c cnt :=
  ⟨fun x _ => by rw [h.1], h.2.1, fun x hx => h.2.2.1 x (by omega), h.2.2.2.2.1, h.2.2.2.1, fun x hx => ⟨fun j => by rw [h.1]; exact (hF.2.2 x (by have := h.2.2.2.2.2.1; omega)).1 j, h.2.2.2.2.2.2 x hx⟩⟩
theorem Eh.gn {m0 m : am_M} {c : Nat} {I' : Nat → Nat → Int} (hF : Fz m0 c) (h : Eh m0 m c 3) (hI : ∀ x, x ≠ c → x ≠ c + 2 → I' x = m0.1 x) : Gn m0 (I', m.2) c (c + 21) := by
  obtain ⟨e1, e2, e3, e4, e5, e6, e8, e10, e11⟩ := h
  have hec : ec c 3 = c + 21 := by unfold ec; omega
  refine ⟨fun x hx => hI x (by omega) (by omega), e2, fun x hx => e3 x (by omega), e5, by show m.2.2.2.1 = _; rw [e4, hec], fun x hx => ⟨fun j => ?_, fun j => e11 x (by rw [hec]; exact hx) j⟩⟩
  show I' x j = 0
  rw [hI x (by omega) (by omega)]
  exact (hF.2.2 x (by omega)).1 j
theorem El.tr {m m' : am_M} {e : Nat} (h : El m e) (hp : ∀ x, e ≤ x → x < e + 21 → m'.2.1 x = m.2.1 x) (hs : ∀ x, e ≤ x → x < e + 21 → m'.2.2.1 x = m.2.2.1 x) (hc : m.2.2.2.1 ≤ m'.2.2.2.1) : El m' e := by
  obtain ⟨⟨a1, a1', a1n⟩, a2, ⟨⟨b1, b1', b1n⟩, ⟨b2, b2', b2n⟩⟩, a4⟩ := h
  refine ⟨⟨by omega, by rw [hs e (by omega) (by omega)]; exact a1', a1n⟩, by rw [hp e (by omega) (by omega)]; exact a2, ⟨⟨by omega, by rw [hs _ (by omega) (by omega)]; exact b1', b1n⟩, ⟨by omega, by rw [hs _ (by omega) (by omega)]; exact b2', b2n⟩⟩, fun r hr => ⟨by rw [hp _ (by omega) (by omega)]; exact (a4 r hr).1, (a4 r hr).2.mv ?_ (fun x k1 k2 => ?_) hc⟩⟩
  · exact hp _ (by unfold ec; omega) (by unfold ec; omega)
  · exact hs x (by unfold ec at k1; omega) (by unfold ec at k2; omega)
theorem Au.tr {m m' : am_M} {e : Nat} (h : Au m e) (hp : ∀ x, e ≤ x → x < e + 12 → m'.2.1 x = m.2.1 x) (hs : ∀ x, e ≤ x → x < e + 12 → m'.2.2.1 x = m.2.2.1 x) (hc : m.2.2.2.1 ≤ m'.2.2.2.1) : Au m' e := by
  obtain ⟨⟨a1, a1', a1n⟩, a2, ⟨⟨b1, b1', b1n⟩, ⟨b2, b2', b2n⟩, ⟨b3, b3', b3n⟩, ⟨b4, b4', b4n⟩, ⟨b5, b5', b5n⟩⟩, a4⟩ := h
  refine ⟨⟨by omega, by rw [hs e (by omega) (by omega)]; exact a1', a1n⟩, by rw [hp e (by omega) (by omega)]; exact a2, ⟨⟨by omega, by rw [hs _ (by omega) (by omega)]; exact b1', b1n⟩, ⟨by omega, by rw [hs _ (by omega) (by omega)]; exact b2', b2n⟩, ⟨by omega, by rw [hs _ (by omega) (by omega)]; exact b3', b3n⟩, ⟨by omega, by rw [hs _ (by omega) (by omega)]; exact b4', b4n⟩, ⟨by omega, by rw [hs _ (by omega) (by omega)]; exact b5', b5n⟩⟩, fun r hr => ?_⟩
  obtain ⟨c1, ⟨c2, c2', c2n⟩, ⟨c3, c3', c3n⟩⟩ := a4 r hr
  exact ⟨by rw [hp _ (by omega) (by omega), hp _ (by omega) (by omega)]; exact c1, ⟨by omega, by rw [hs _ (by omega) (by omega)]; exact c2', c2n⟩, ⟨by omega, by rw [hs _ (by omega) (by omega)]; exact c3', c3n⟩⟩
theorem Ac.tr {m m' : am_M} {e : Nat} (h : Ac m e) (hp : m'.2.1 e = m.2.1 e) (hs : ∀ x, e ≤ x → x < e + 5 → m'.2.2.1 x = m.2.2.1 x) (hc : m.2.2.2.1 ≤ m'.2.2.2.1) : Ac m' e := by
  obtain ⟨⟨a1, a1', a1n⟩, a2, ⟨b1, b1', b1n⟩, ⟨b2, b2', b2n⟩, ⟨b3, b3', b3n⟩, ⟨b4, b4', b4n⟩⟩ := h
  exact ⟨⟨by omega, by rw [hs e (by omega) (by omega)]; exact a1', a1n⟩, by rw [hp]; exact a2, ⟨by omega, by rw [hs _ (by omega) (by omega)]; exact b1', b1n⟩, ⟨by omega, by rw [hs _ (by omega) (by omega)]; exact b2', b2n⟩, ⟨by omega, by rw [hs _ (by omega) (by omega)]; exact b3', b3n⟩, ⟨by omega, by rw [hs _ (by omega) (by omega)]; exact b4', b4n⟩⟩
theorem Sp.tr {m m' : am_M} {e : Nat} (h : Sp m e) (hp : m'.2.1 e = m.2.1 e) (hs : ∀ x, e ≤ x → x < e + 2 → m'.2.2.1 x = m.2.2.1 x) (hc : m.2.2.2.1 ≤ m'.2.2.2.1) : Sp m' e := by
  obtain ⟨⟨a1, a1', a1n⟩, a2, ⟨b1, b1', b1n⟩⟩ := h
  exact ⟨⟨by omega, by rw [hs e (by omega) (by omega)]; exact a1', a1n⟩, by rw [hp]; exact a2, ⟨by omega, by rw [hs _ (by omega) (by omega)]; exact b1', b1n⟩⟩
theorem Qu.tr {m m' : am_M} {e : Nat} (h : Qu m e) (hp : m'.2.1 e = m.2.1 e) (hs : ∀ x, e ≤ x → x < e + 4 → m'.2.2.1 x = m.2.2.1 x) (hc : m.2.2.2.1 ≤ m'.2.2.2.1) : Qu m' e := by
  obtain ⟨⟨a1, a1', a1n⟩, a2, ⟨b1, b1', b1n⟩, ⟨b2, b2', b2n⟩, ⟨b3, b3', b3n⟩⟩ := h
  exact ⟨⟨by omega, by rw [hs e (by omega) (by omega)]; exact a1', a1n⟩, by rw [hp]; exact a2, ⟨by omega, by rw [hs _ (by omega) (by omega)]; exact b1', b1n⟩, ⟨by omega, by rw [hs _ (by omega) (by omega)]; exact b2', b2n⟩, ⟨by omega, by rw [hs _ (by omega) (by omega)]; exact b3', b3n⟩⟩
theorem Sp.mk {m m' : am_M} {c : Nat} (h : Bd m m' c [(0, 100, 64)]) (hc : c ≠ 0) (hci : (m.2.2.1 c).1 = 6) : Sp m' c := by
  have a0 := h.ar (i := 0) (q := (0, 100, 64)) rfl
  exact ⟨h.ob hc hci, a0.1, a0.2⟩
theorem Ac.mk {m m' : am_M} {c : Nat} (h : Bd m m' c [(0, 100, 12), (1, 100, 12), (2, 100, 12), (3, 100, 12)]) (hc : c ≠ 0) (hci : (m.2.2.1 c).1 = 0) : Ac m' c := by
  have a0 := h.ar (i := 0) (q := (0, 100, 12)) rfl
  have a1 := h.ar (i := 1) (q := (1, 100, 12)) rfl
  have a2 := h.ar (i := 2) (q := (2, 100, 12)) rfl
  have a3 := h.ar (i := 3) (q := (3, 100, 12)) rfl
  exact ⟨h.ob hc hci, ⟨a0.1, a1.1, a2.1, a3.1⟩, a0.2, a1.2, a2.2, a3.2⟩
theorem Qu.mk {m m' : am_M} {c : Nat} (h : Bd m m' c [(0, 100, 200), (1, 100, 200), (2, 100, 64)]) (hc : c ≠ 0) (hci : (m.2.2.1 c).1 = 4) : Qu m' c := by
  have a0 := h.ar (i := 0) (q := (0, 100, 200)) rfl
  have a1 := h.ar (i := 1) (q := (1, 100, 200)) rfl
  have a2 := h.ar (i := 2) (q := (2, 100, 64)) rfl
  exact ⟨h.ob hc hci, ⟨a0.1, a1.1, a2.1⟩, a0.2, a1.2, a2.2⟩
/-- the object's reference laid into the class -/
theorem Gn.put {m m1 m2 : am_M} {ci n cnt cnt2 f : Nat} (hm : m1 = am_al m ci n) (h9 : m.2.2.2.1 = cnt) (h : Gn m1 m2 cnt cnt2) (hc : 2 ≤ cnt) (hc2 : cnt ≤ cnt2) : Gp m (am_wP m2 1 f (some cnt)) cnt cnt2 f := by
  subst hm
  obtain ⟨a1, a2, a3, a4, a5, a6⟩ := h
  refine ⟨a1, fun x h1 hx => (u2_row _ h1).trans (a2 x hx), fun x hx => (a3 x hx).trans (if_neg (by omega)), fun k hk => (u2_ne _ (Or.inr hk)).trans (congrFun (a2 1 (by omega)) k), u2_same _ _ _ _, a4, a5, fun x hx => ⟨(a6 x hx).1, fun j => ?_⟩⟩
  exact (congrFun (u2_row _ (by omega)) j).trans ((a6 x hx).2 j)
