/-! THE LAW: its entry; the heap's count let go; the class kept while other things are made -/
theorem X_weak {G : am_G} {d a b : Nat} {M : am_Me} {pc : Nat} {L : List (Option am_V)} {st : List am_V} {m : am_M} {Q : am_Q} (k : X G d a b M pc L st (m.1, m.2.1, m.2.2.1, m.2.2.2.1, false) Q) : X G d a b M pc L st m Q := by
  intro hG p e R s mid args below meth c H locs cells slots mc ms ls hI hH hL hS
  exact k hG p e R s mid args below meth c H locs cells slots mc ms ls hI ⟨hH.1, hH.2.1, hH.2.2.1, (fun h => Bool.noConfusion (show false = true from h)), hH.2.2.2.2⟩ hL hS
theorem Ti_law {G : am_G} {dp a b : Nat} {m : am_M} {Q : am_Q} {r0 : Nat} (k : X G dp a b ML_law 0 [some (rV (some r0)), none, none, none, none, none, none, none] [] m Q) : T G dp a b ML_law [rV (some r0)] m Q := T_of rfl (by decide +kernel) rfl (Nat.le_of_ble_eq_true rfl) k
theorem am_obw.tr {m m' : am_M} {x ci : Nat} (h : am_obw m x ci) (hs : m'.2.2.1 x = m.2.2.1 x) (hc : m.2.2.2.1 ≤ m'.2.2.2.1) : am_obw m' x ci := ⟨by have := h.1; omega, by rw [hs]; exact h.2.1, h.2.2⟩
theorem am_arw.tr {m m' : am_M} {x t n : Nat} (h : am_arw m x t n) (hs : m'.2.2.1 x = m.2.2.1 x) (hc : m.2.2.2.1 ≤ m'.2.2.2.1) : am_arw m' x t n := ⟨by have := h.1; omega, by rw [hs]; exact h.2.1, h.2.2⟩
theorem Cl.tr {m m' : am_M} {w s : Nat} (h : Cl m w s) (hf : m'.2.2.2.2 = false) (hp : ∀ x, 0 < x → x < 103 → m'.2.1 x = m.2.1 x) (hs : ∀ x, x < 103 → m'.2.2.1 x = m.2.2.1 x) (hc : m.2.2.2.1 ≤ m'.2.2.2.1) : Cl m' w s := by
  obtain ⟨a1, a2, a3, a4, a5, ⟨c1, c2, c3⟩, ⟨d1, d2⟩, k, p, a10, u⟩ := h
  exact ⟨hf, a2, a3.tr (hs 1 (by omega)) hc, by rw [hp 1 (by omega) (by omega)]; exact a4, a5.tr (hs 2 (by omega)) hc,
    ⟨c1.tr (fun x _ _ => hp x (by omega) (by omega)) (fun x _ _ => hs x (by omega)) hc, c2.tr (fun x _ _ => hp x (by omega) (by omega)) (fun x _ _ => hs x (by omega)) hc, c3.tr (fun x _ _ => hp x (by omega) (by omega)) (fun x _ _ => hs x (by omega)) hc⟩,
    ⟨d1.tr (fun x _ _ => hp x (by omega) (by omega)) (fun x _ _ => hs x (by omega)) hc, d2.tr (fun x _ _ => hp x (by omega) (by omega)) (fun x _ _ => hs x (by omega)) hc⟩,
    k.tr (hp _ (by omega) (by omega)) (fun x _ _ => hs x (by omega)) hc, p.tr (hp _ (by omega) (by omega)) (fun x _ _ => hs x (by omega)) hc, a10.tr (hs 76 (by omega)) hc, u.tr (hp _ (by omega) (by omega)) (fun x _ _ => hs x (by omega)) hc⟩
