/-! a text constant by a wide index -/
theorem X_ldcSw {G : am_G} {d a b : Nat} {M : am_Me} {pc : Nat} {L : List (Option am_V)} {st : List am_V} {m : am_M} {Q : am_Q} {idx j : Nat} {tx : String} (hd : decode M.2.1 pc = .ok (.ldc_w idx, 3)) (hw : am_str[j]? = some (M.2.2.2.2.1, idx, tx)) (k : X G d a b M (pc + 3) L (sV j :: st) m Q) : X G d a b M pc L st m Q := by
  intro hG p e R s mid args below meth c H locs cells slots mc ms ls hI hH hL hS
  have h9 := vk_R.warm hI.2.2.2.2.2.2.2.2.1 (hG.2.2.2.2.2.2.1 j _ hw)
  have k := k hG p e R s mid args below meth c H locs cells slots mc ms ls hI hH hL (Xs1 (v := sV j) trivial hS)
  intro T hT Xs
  obtain ⟨t, a1, b1⟩ := k T hT Xs
  exact ⟨t, Xs.ldcStringW hI.1 hI.2.2.2.2.2.2.2.1 (text := tx) (a := G.2.2.2.2.1 j) h9.1 h9.2 (g := F0 mid pc ls (st.map (am_tr G))) rfl (by rw [hI.2.1]; exact hd) t a1, b1⟩
