/-! ONE RULE AN INSTRUCTION: stack, locals, branches -/
theorem Xs1 {v : am_V} {st : List am_V} (h : am_wv v) (hS : ∀ w ∈ st, am_wv w) : ∀ w ∈ v :: st, am_wv w := fun w hw => (List.mem_cons.mp hw).elim (fun e => e ▸ h) (hS w)
theorem Xsh {v : am_V} {st : List am_V} (hS : ∀ w ∈ v :: st, am_wv w) : am_wv v := hS v List.mem_cons_self
theorem Xst {v : am_V} {st : List am_V} (hS : ∀ w ∈ v :: st, am_wv w) : ∀ w ∈ st, am_wv w := fun w hw => hS w (List.mem_cons_of_mem _ hw)
theorem Xsh2 {u v : am_V} {st : List am_V} (hS : ∀ w ∈ u :: v :: st, am_wv w) : am_wv v := Xsh (Xst hS)
theorem Xst2 {u v : am_V} {st : List am_V} (hS : ∀ w ∈ u :: v :: st, am_wv w) : ∀ w ∈ st, am_wv w := Xst (Xst hS)
theorem X_iconst {G : am_G} {d a b : Nat} {M : am_Me} {pc : Nat} {L : List (Option am_V)} {st : List am_V} {m : am_M} {Q : am_Q} {n : Int} (hn : i32 n := by unfold i32; decide) (hd : decode M.2.1 pc = .ok (.iconst n, 1)) (k : X G d a b M (pc + 1) L (iV n :: st) m Q) : X G d a b M pc L st m Q := by
  intro hG p e R s mid args below meth c H locs cells slots mc ms ls hI hH hL hS
  have k := k hG p e R s mid args below meth c H locs cells slots mc ms ls hI hH hL (Xs1 hn hS)
  exact lv_iconst hI.1 hI.2.1 hd rfl k
theorem X_bipush {G : am_G} {d a b : Nat} {M : am_Me} {pc : Nat} {L : List (Option am_V)} {st : List am_V} {m : am_M} {Q : am_Q} {n : Int} (hn : -128 ≤ n ∧ n ≤ 127 := by decide) (hd : decode M.2.1 pc = .ok (.bipush n, 2)) (k : X G d a b M (pc + 2) L (iV n :: st) m Q) : X G d a b M pc L st m Q := by
  intro hG p e R s mid args below meth c H locs cells slots mc ms ls hI hH hL hS
  have k := k hG p e R s mid args below meth c H locs cells slots mc ms ls hI hH hL (Xs1 (show i32 n by unfold i32; omega) hS)
  exact lv_bipush hI.1 hI.2.1 hd (show (Int8.ofInt n).toInt32 = Int32.ofInt n from Int8.toInt32_ofInt (by exact hn.1) (by exact hn.2)) k
theorem X_sipush {G : am_G} {d a b : Nat} {M : am_Me} {pc : Nat} {L : List (Option am_V)} {st : List am_V} {m : am_M} {Q : am_Q} {n : Int} (hn : -32768 ≤ n ∧ n ≤ 32767 := by decide) (hd : decode M.2.1 pc = .ok (.sipush n, 3)) (k : X G d a b M (pc + 3) L (iV n :: st) m Q) : X G d a b M pc L st m Q := by
  intro hG p e R s mid args below meth c H locs cells slots mc ms ls hI hH hL hS
  have k := k hG p e R s mid args below meth c H locs cells slots mc ms ls hI hH hL (Xs1 (show i32 n by unfold i32; omega) hS)
  exact lv_sipush hI.1 hI.2.1 hd (show (Int16.ofInt n).toInt32 = Int32.ofInt n from Int16.toInt32_ofInt (by exact hn.1) (by exact hn.2)) k
theorem X_lconst {G : am_G} {d a b : Nat} {M : am_Me} {pc : Nat} {L : List (Option am_V)} {st : List am_V} {m : am_M} {Q : am_Q} {n : Fin 2} {z : Int} (hn : z = ((n : Nat) : Int) := by rfl) (hd : decode M.2.1 pc = .ok (.lconst n, 1)) (k : X G d a b M (pc + 1) L (lV z :: st) m Q) : X G d a b M pc L st m Q := by
  intro hG p e R s mid args below meth c H locs cells slots mc ms ls hI hH hL hS
  have k := k hG p e R s mid args below meth c H locs cells slots mc ms ls hI hH hL (Xs1 (show i64 z by unfold i64; omega) hS)
  exact lv_lconst hI.1 hI.2.1 hd (show Int64.ofNat (n : Nat) = Int64.ofInt z by subst hn; rfl) k
theorem X_dconst1 {G : am_G} {d a b : Nat} {M : am_Me} {pc : Nat} {L : List (Option am_V)} {st : List am_V} {m : am_M} {Q : am_Q}  (hd : decode M.2.1 pc = .ok (.dconst 1, 1)) (k : X G d a b M (pc + 1) L (dV FP.dconst1 :: st) m Q) : X G d a b M pc L st m Q := by
  intro hG p e R s mid args below meth c H locs cells slots mc ms ls hI hH hL hS
  have k := k hG p e R s mid args below meth c H locs cells slots mc ms ls hI hH hL (Xs1 trivial hS)
  exact lv_dconst1 hI.1 hI.2.1 hd  k
theorem X_iload_n {G : am_G} {d a b : Nat} {M : am_Me} {pc : Nat} {L : List (Option am_V)} {st : List am_V} {m : am_M} {Q : am_Q} {z : Int} {q : Fin 4} {i : Nat} (hd : decode M.2.1 pc = .ok (.iload_n q, 1)) (hi : (q : Nat) = i) (hl : L[i]? = some (some (iV z))) (k : X G d a b M (pc + 1) L (iV z :: st) m Q) : X G d a b M pc L st m Q := by
  intro hG p e R s mid args below meth c H locs cells slots mc ms ls hI hH hL hS
  have h9 := hL.2.2.2 i _ hl
  have k := k hG p e R s mid args below meth c H locs cells slots mc ms ls hI hH hL (Xs1 h9.2 hS)
  exact lv_iload_n hI.1 hI.2.1 hd hi h9.1 k
theorem X_iload {G : am_G} {d a b : Nat} {M : am_Me} {pc : Nat} {L : List (Option am_V)} {st : List am_V} {m : am_M} {Q : am_Q} {z : Int} {i : Nat} (hd : decode M.2.1 pc = .ok (.iload i, 2)) (hl : L[i]? = some (some (iV z))) (k : X G d a b M (pc + 2) L (iV z :: st) m Q) : X G d a b M pc L st m Q := by
  intro hG p e R s mid args below meth c H locs cells slots mc ms ls hI hH hL hS
  have h9 := hL.2.2.2 i _ hl
  have k := k hG p e R s mid args below meth c H locs cells slots mc ms ls hI hH hL (Xs1 h9.2 hS)
  exact lv_iload hI.1 hI.2.1 hd h9.1 k
theorem X_lload_n {G : am_G} {d a b : Nat} {M : am_Me} {pc : Nat} {L : List (Option am_V)} {st : List am_V} {m : am_M} {Q : am_Q} {z : Int} {q : Fin 4} {i : Nat} (hd : decode M.2.1 pc = .ok (.lload_n q, 1)) (hi : (q : Nat) = i) (hl : L[i]? = some (some (lV z))) (k : X G d a b M (pc + 1) L (lV z :: st) m Q) : X G d a b M pc L st m Q := by
  intro hG p e R s mid args below meth c H locs cells slots mc ms ls hI hH hL hS
  have h9 := hL.2.2.2 i _ hl
  have k := k hG p e R s mid args below meth c H locs cells slots mc ms ls hI hH hL (Xs1 h9.2 hS)
  exact lv_lload_n hI.1 hI.2.1 hd hi h9.1 k
theorem X_lload {G : am_G} {d a b : Nat} {M : am_Me} {pc : Nat} {L : List (Option am_V)} {st : List am_V} {m : am_M} {Q : am_Q} {z : Int} {i : Nat} (hd : decode M.2.1 pc = .ok (.lload i, 2)) (hl : L[i]? = some (some (lV z))) (k : X G d a b M (pc + 2) L (lV z :: st) m Q) : X G d a b M pc L st m Q := by
  intro hG p e R s mid args below meth c H locs cells slots mc ms ls hI hH hL hS
  have h9 := hL.2.2.2 i _ hl
  have k := k hG p e R s mid args below meth c H locs cells slots mc ms ls hI hH hL (Xs1 h9.2 hS)
  exact lv_lload hI.1 hI.2.1 hd h9.1 k
theorem X_dload_n {G : am_G} {d a b : Nat} {M : am_Me} {pc : Nat} {L : List (Option am_V)} {st : List am_V} {m : am_M} {Q : am_Q} {z : UInt64} {q : Fin 4} {i : Nat} (hd : decode M.2.1 pc = .ok (.dload_n q, 1)) (hi : (q : Nat) = i) (hl : L[i]? = some (some (dV z))) (k : X G d a b M (pc + 1) L (dV z :: st) m Q) : X G d a b M pc L st m Q := by
  intro hG p e R s mid args below meth c H locs cells slots mc ms ls hI hH hL hS
  have h9 := hL.2.2.2 i _ hl
  have k := k hG p e R s mid args below meth c H locs cells slots mc ms ls hI hH hL (Xs1 h9.2 hS)
  exact lv_dload_n hI.1 hI.2.1 hd hi h9.1 k
theorem X_dload {G : am_G} {d a b : Nat} {M : am_Me} {pc : Nat} {L : List (Option am_V)} {st : List am_V} {m : am_M} {Q : am_Q} {z : UInt64} {i : Nat} (hd : decode M.2.1 pc = .ok (.dload i, 2)) (hl : L[i]? = some (some (dV z))) (k : X G d a b M (pc + 2) L (dV z :: st) m Q) : X G d a b M pc L st m Q := by
  intro hG p e R s mid args below meth c H locs cells slots mc ms ls hI hH hL hS
  have h9 := hL.2.2.2 i _ hl
  have k := k hG p e R s mid args below meth c H locs cells slots mc ms ls hI hH hL (Xs1 h9.2 hS)
  exact lv_dload hI.1 hI.2.1 hd h9.1 k
theorem X_aload_n {G : am_G} {d a b : Nat} {M : am_Me} {pc : Nat} {L : List (Option am_V)} {st : List am_V} {m : am_M} {Q : am_Q} {r : Option Nat} {q : Fin 4} {i : Nat} (hd : decode M.2.1 pc = .ok (.aload_n q, 1)) (hi : (q : Nat) = i) (hl : L[i]? = some (some (rV r))) (k : X G d a b M (pc + 1) L (rV r :: st) m Q) : X G d a b M pc L st m Q := by
  intro hG p e R s mid args below meth c H locs cells slots mc ms ls hI hH hL hS
  have h9 := hL.2.2.2 i _ hl
  have k := k hG p e R s mid args below meth c H locs cells slots mc ms ls hI hH hL (Xs1 h9.2 hS)
  cases r with
  | none => exact lv_aload_nN hI.1 hI.2.1 hd hi h9.1 k
  | some r => exact lv_aload_n hI.1 hI.2.1 hd hi h9.1 k
theorem X_aload {G : am_G} {d a b : Nat} {M : am_Me} {pc : Nat} {L : List (Option am_V)} {st : List am_V} {m : am_M} {Q : am_Q} {r : Option Nat} {i : Nat} (hd : decode M.2.1 pc = .ok (.aload i, 2)) (hl : L[i]? = some (some (rV r))) (k : X G d a b M (pc + 2) L (rV r :: st) m Q) : X G d a b M pc L st m Q := by
  intro hG p e R s mid args below meth c H locs cells slots mc ms ls hI hH hL hS
  have h9 := hL.2.2.2 i _ hl
  have k := k hG p e R s mid args below meth c H locs cells slots mc ms ls hI hH hL (Xs1 h9.2 hS)
  cases r with
  | none => exact lv_aloadN hI.1 hI.2.1 hd h9.1 k
  | some r => exact lv_aload hI.1 hI.2.1 hd h9.1 k
theorem X_saload_n {G : am_G} {d a b : Nat} {M : am_Me} {pc : Nat} {L : List (Option am_V)} {st : List am_V} {m : am_M} {Q : am_Q} {j : Nat} {q : Fin 4} {i : Nat} (hd : decode M.2.1 pc = .ok (.aload_n q, 1)) (hi : (q : Nat) = i) (hl : L[i]? = some (some (sV j))) (k : X G d a b M (pc + 1) L (sV j :: st) m Q) : X G d a b M pc L st m Q := by
  intro hG p e R s mid args below meth c H locs cells slots mc ms ls hI hH hL hS
  have h9 := hL.2.2.2 i _ hl
  have k := k hG p e R s mid args below meth c H locs cells slots mc ms ls hI hH hL (Xs1 h9.2 hS)
  exact lv_aload_n hI.1 hI.2.1 hd hi h9.1 k
def am_kill (L : List (Option am_V)) : Nat → List (Option am_V)
  | 0 => L
  | i + 1 => match L[i]? with
    | some (some (.inr (.inl _))) => L.set i none
    | some (some (.inr (.inr (.inr (.inl _))))) => L.set i none
    | _ => L
abbrev am_s1 (L : List (Option am_V)) (i : Nat) (v : am_V) : List (Option am_V) := (am_kill L i).set i (some v)
abbrev am_s2 (L : List (Option am_V)) (i : Nat) (v : am_V) : List (Option am_V) := ((am_kill L i).set (i + 1) none).set i (some v)
def am_ll (G : am_G) (L : List (Option am_V)) : List (Nat × Value) := (List.range L.length).filterMap (fun i => (L[i]?.join).map (fun v => (i, am_tr G v)))
theorem am_ll_mem {G : am_G} {L : List (Option am_V)} {i : Nat} {v : am_V} : (i, v) ∈ ((List.range L.length).filterMap (fun i => (L[i]?.join).map (fun v => (i, v)))) ↔ L[i]? = some (some v) := by
  constructor
  · intro h
    obtain ⟨j, -, hj⟩ := List.mem_filterMap.mp h
    cases hl : L[j]? with
    | none => rw [hl] at hj; simp at hj
    | some w =>
      rw [hl] at hj
      cases w with
      | none => simp at hj
      | some w => simp at hj; obtain ⟨rfl, rfl⟩ := hj; exact hl
  · intro h
    refine List.mem_filterMap.mpr ⟨i, List.mem_range.mpr (List.getElem?_eq_some_iff.mp h).1, ?_⟩
    rw [h]; rfl
theorem am_lv {G : am_G} {ls : Array Slot} {nL : Nat} {L : List (Option am_V)} (h : am_LR G ls nL L) : lv_has ls nL (am_ll G L) := by
  refine ⟨h.1, h.2.2.1, fun q hq => ?_⟩
  obtain ⟨j, -, hj⟩ := List.mem_filterMap.mp hq
  cases hl : L[j]? with
  | none => rw [hl] at hj; simp at hj
  | some w =>
    rw [hl] at hj
    cases w with
    | none => simp at hj
    | some w => simp at hj; subst hj; exact (h.2.2.2 j w hl).1
theorem am_ll_in {G : am_G} {L : List (Option am_V)} {i : Nat} {v : am_V} (h : L[i]? = some (some v)) : (i, am_tr G v) ∈ am_ll G L := by
  refine List.mem_filterMap.mpr ⟨i, List.mem_range.mpr (List.getElem?_eq_some_iff.mp h).1, ?_⟩
  rw [h]; rfl
theorem am_kill_len (L : List (Option am_V)) (i : Nat) : (am_kill L i).length = L.length := by
  cases i with
  | zero => rfl
  | succ i => simp only [am_kill]; split <;> simp
theorem am_cat (G : am_G) (v : am_V) : (am_tr G v).category = 2 ↔ (∃ z, v = lV z) ∨ ∃ z, v = dV z := by
  rcases v with z | z | r | z | j
  · simp [am_tr, Value.category]
  · simp [am_tr, Value.category]
  · cases r <;> simp [am_tr, Value.category]
  · simp [am_tr, Value.category]
  · simp [am_tr, Value.category]
theorem am_kill_at {G : am_G} {L : List (Option am_V)} {i j : Nat} {v : am_V} (h : (am_kill L i)[j]? = some (some v)) : L[j]? = some (some v) ∧ ¬ (j + 1 = i ∧ (am_tr G v).category = 2) := by
  cases i with
  | zero => exact ⟨h, fun q => by omega⟩
  | succ i =>
    simp only [am_kill] at h
    by_cases hj : j = i
    · subst hj
      split at h
      · rw [List.getElem?_set] at h; simp at h
      · rw [List.getElem?_set] at h; simp at h
      · rename_i n1 n2
        refine ⟨h, fun q => ?_⟩
        rcases (am_cat G v).mp q.2 with ⟨z, rfl⟩ | ⟨z, rfl⟩
        · exact n1 z h
        · exact n2 z h
    · refine ⟨?_, fun q => by omega⟩
      split at h
      · rwa [List.getElem?_set_ne (fun q => hj q.symm)] at h
      · rwa [List.getElem?_set_ne (fun q => hj q.symm)] at h
      · exact h
theorem am_st1 {G : am_G} {ls' : Array Slot} {nL i : Nat} {L : List (Option am_V)} {v : am_V} (hlen : L.length = nL) (hi : i < nL) (hw : am_wv v) (hL : ∀ (i : Nat) (w : am_V), L[i]? = some (some w) → am_wv w) (h : lv_has ls' nL ((i, am_tr G v) :: (am_ll G L).filter (fun q => !(q.1 == i) && !(q.1 + 1 == i && q.2.category == 2)))) : am_LR G ls' nL (am_s1 L i v) := by
  refine ⟨h.1, by simp [am_s1, am_kill_len, hlen], h.2.1, fun j w hj => ?_⟩
  by_cases hji : j = i
  · subst hji
    rw [List.getElem?_set_self (by rw [am_kill_len]; omega)] at hj
    cases hj
    exact ⟨h.2.2 _ List.mem_cons_self, hw⟩
  · rw [List.getElem?_set_ne (fun q => hji q.symm)] at hj
    obtain ⟨h1, h2⟩ := am_kill_at (G := G) hj
    refine ⟨h.2.2 (j, am_tr G w) (List.mem_cons_of_mem _ (List.mem_filter.mpr ⟨am_ll_in h1, ?_⟩)), hL j w h1⟩
    simp only [Bool.and_eq_true, Bool.not_eq_true', beq_eq_false_iff_ne, ne_eq, Bool.and_eq_false_iff]
    refine ⟨hji, ?_⟩
    by_cases hq : j + 1 = i
    · exact Or.inr (fun q => h2 ⟨hq, q⟩)
    · exact Or.inl hq
theorem am_st2 {G : am_G} {ls' : Array Slot} {nL i : Nat} {L : List (Option am_V)} {v : am_V} (hlen : L.length = nL) (hi : i + 1 < nL) (hw : am_wv v) (hL : ∀ (i : Nat) (w : am_V), L[i]? = some (some w) → am_wv w) (h : lv_has ls' nL ((i, am_tr G v) :: (am_ll G L).filter (fun q => !(q.1 == i) && (!(q.1 == i + 1) && !(q.1 + 1 == i && q.2.category == 2))))) : am_LR G ls' nL (am_s2 L i v) := by
  refine ⟨h.1, by simp [am_s2, am_kill_len, hlen], h.2.1, fun j w hj => ?_⟩
  by_cases hji : j = i
  · subst hji
    rw [List.getElem?_set_self (by simp [am_kill_len]; omega)] at hj
    cases hj
    exact ⟨h.2.2 _ List.mem_cons_self, hw⟩
  · rw [List.getElem?_set_ne (fun q => hji q.symm)] at hj
    by_cases hj2 : j = i + 1
    · subst hj2
      rw [List.getElem?_set] at hj; simp at hj
    · rw [List.getElem?_set_ne (fun q => hj2 q.symm)] at hj
      obtain ⟨h1, h2⟩ := am_kill_at (G := G) hj
      refine ⟨h.2.2 (j, am_tr G w) (List.mem_cons_of_mem _ (List.mem_filter.mpr ⟨am_ll_in h1, ?_⟩)), hL j w h1⟩
      simp only [Bool.and_eq_true, Bool.not_eq_true', beq_eq_false_iff_ne, ne_eq, Bool.and_eq_false_iff]
      refine ⟨hji, hj2, ?_⟩
      by_cases hq : j + 1 = i
      · exact Or.inr (fun q => h2 ⟨hq, q⟩)
      · exact Or.inl hq
theorem X_istore_n {G : am_G} {d a b : Nat} {M : am_Me} {pc : Nat} {L : List (Option am_V)} {st : List am_V} {m : am_M} {Q : am_Q} {z : Int} {q : Fin 4} {i : Nat} (hd : decode M.2.1 pc = .ok (.istore_n q, 1)) (hi : (q : Nat) = i) (hb : i < L.length) (k : X G d a b M (pc + 1) (am_s1 L i (iV z)) st m Q) : X G d a b M pc L (iV z :: st) m Q := by
  intro hG p e R s mid args below meth c H locs cells slots mc ms ls hI hH hL hS
  have hb : i < M.2.2.1 := by rw [← hL.2.1]; exact hb
  exact lv_istore_n hI.1 hI.2.1 hd hi (am_lv hL) hb rfl (fun ls' h9 => k hG p e R s mid args below meth c H locs cells slots mc ms ls' hI hH (am_st1 hL.2.1 hb (Xsh hS) (fun i w h => (hL.2.2.2 i w h).2) h9) (Xst hS))
theorem X_istore {G : am_G} {d a b : Nat} {M : am_Me} {pc : Nat} {L : List (Option am_V)} {st : List am_V} {m : am_M} {Q : am_Q} {z : Int} {i : Nat} (hd : decode M.2.1 pc = .ok (.istore i, 2)) (hb : i < L.length) (k : X G d a b M (pc + 2) (am_s1 L i (iV z)) st m Q) : X G d a b M pc L (iV z :: st) m Q := by
  intro hG p e R s mid args below meth c H locs cells slots mc ms ls hI hH hL hS
  have hb : i < M.2.2.1 := by rw [← hL.2.1]; exact hb
  exact lv_istore hI.1 hI.2.1 hd (am_lv hL) hb rfl (fun ls' h9 => k hG p e R s mid args below meth c H locs cells slots mc ms ls' hI hH (am_st1 hL.2.1 hb (Xsh hS) (fun i w h => (hL.2.2.2 i w h).2) h9) (Xst hS))
theorem X_lstore_n {G : am_G} {d a b : Nat} {M : am_Me} {pc : Nat} {L : List (Option am_V)} {st : List am_V} {m : am_M} {Q : am_Q} {z : Int} {q : Fin 4} {i : Nat} (hd : decode M.2.1 pc = .ok (.lstore_n q, 1)) (hi : (q : Nat) = i) (hb : i + 1 < L.length) (k : X G d a b M (pc + 1) (am_s2 L i (lV z)) st m Q) : X G d a b M pc L (lV z :: st) m Q := by
  intro hG p e R s mid args below meth c H locs cells slots mc ms ls hI hH hL hS
  have hb : i + 1 < M.2.2.1 := by rw [← hL.2.1]; exact hb
  exact lv_lstore_n hI.1 hI.2.1 hd hi (am_lv hL) hb rfl (fun ls' h9 => k hG p e R s mid args below meth c H locs cells slots mc ms ls' hI hH (am_st2 hL.2.1 hb (Xsh hS) (fun i w h => (hL.2.2.2 i w h).2) h9) (Xst hS))
theorem X_lstore {G : am_G} {d a b : Nat} {M : am_Me} {pc : Nat} {L : List (Option am_V)} {st : List am_V} {m : am_M} {Q : am_Q} {z : Int} {i : Nat} (hd : decode M.2.1 pc = .ok (.lstore i, 2)) (hb : i + 1 < L.length) (k : X G d a b M (pc + 2) (am_s2 L i (lV z)) st m Q) : X G d a b M pc L (lV z :: st) m Q := by
  intro hG p e R s mid args below meth c H locs cells slots mc ms ls hI hH hL hS
  have hb : i + 1 < M.2.2.1 := by rw [← hL.2.1]; exact hb
  exact lv_lstore hI.1 hI.2.1 hd (am_lv hL) hb rfl (fun ls' h9 => k hG p e R s mid args below meth c H locs cells slots mc ms ls' hI hH (am_st2 hL.2.1 hb (Xsh hS) (fun i w h => (hL.2.2.2 i w h).2) h9) (Xst hS))
theorem X_dstore {G : am_G} {d a b : Nat} {M : am_Me} {pc : Nat} {L : List (Option am_V)} {st : List am_V} {m : am_M} {Q : am_Q} {z : UInt64} {i : Nat} (hd : decode M.2.1 pc = .ok (.dstore i, 2)) (hb : i + 1 < L.length) (k : X G d a b M (pc + 2) (am_s2 L i (dV z)) st m Q) : X G d a b M pc L (dV z :: st) m Q := by
  intro hG p e R s mid args below meth c H locs cells slots mc ms ls hI hH hL hS
  have hb : i + 1 < M.2.2.1 := by rw [← hL.2.1]; exact hb
  exact lv_dstore hI.1 hI.2.1 hd (am_lv hL) hb rfl (fun ls' h9 => k hG p e R s mid args below meth c H locs cells slots mc ms ls' hI hH (am_st2 hL.2.1 hb (Xsh hS) (fun i w h => (hL.2.2.2 i w h).2) h9) (Xst hS))
theorem X_astore_n {G : am_G} {d a b : Nat} {M : am_Me} {pc : Nat} {L : List (Option am_V)} {st : List am_V} {m : am_M} {Q : am_Q} {r : Nat} {q : Fin 4} {i : Nat} (hd : decode M.2.1 pc = .ok (.astore_n q, 1)) (hi : (q : Nat) = i) (hb : i < L.length) (k : X G d a b M (pc + 1) (am_s1 L i (rV (some r))) st m Q) : X G d a b M pc L (rV (some r) :: st) m Q := by
  intro hG p e R s mid args below meth c H locs cells slots mc ms ls hI hH hL hS
  have hb : i < M.2.2.1 := by rw [← hL.2.1]; exact hb
  exact lv_astore_n hI.1 hI.2.1 hd hi (am_lv hL) hb rfl (fun ls' h9 => k hG p e R s mid args below meth c H locs cells slots mc ms ls' hI hH (am_st1 hL.2.1 hb (Xsh hS) (fun i w h => (hL.2.2.2 i w h).2) h9) (Xst hS))
theorem X_astore {G : am_G} {d a b : Nat} {M : am_Me} {pc : Nat} {L : List (Option am_V)} {st : List am_V} {m : am_M} {Q : am_Q} {r : Nat} {i : Nat} (hd : decode M.2.1 pc = .ok (.astore i, 2)) (hb : i < L.length) (k : X G d a b M (pc + 2) (am_s1 L i (rV (some r))) st m Q) : X G d a b M pc L (rV (some r) :: st) m Q := by
  intro hG p e R s mid args below meth c H locs cells slots mc ms ls hI hH hL hS
  have hb : i < M.2.2.1 := by rw [← hL.2.1]; exact hb
  exact lv_astore hI.1 hI.2.1 hd (am_lv hL) hb rfl (fun ls' h9 => k hG p e R s mid args below meth c H locs cells slots mc ms ls' hI hH (am_st1 hL.2.1 hb (Xsh hS) (fun i w h => (hL.2.2.2 i w h).2) h9) (Xst hS))
theorem X_iinc {G : am_G} {d a b : Nat} {M : am_Me} {pc : Nat} {L : List (Option am_V)} {st : List am_V} {m : am_M} {Q : am_Q} {z n : Int} {i : Nat} (hd : decode M.2.1 pc = .ok (.iinc i n, 3)) (hl : L[i]? = some (some (iV z))) (k : X G d a b M (pc + 3) (am_s1 L i (iV (wr (z + n)))) st m Q) : X G d a b M pc L st m Q := by
  intro hG p e R s mid args below meth c H locs cells slots mc ms ls hI hH hL hS
  have hb : i < M.2.2.1 := by rw [← hL.2.1]; exact (List.getElem?_eq_some_iff.mp hl).1
  obtain ⟨q, hq⟩ := List.getElem?_of_mem (am_ll_in (G := G) hl)
  exact lv_iinc hI.1 hI.2.1 hd (am_lv hL) hq rfl hb rfl (fun ls' h9 => k hG p e R s mid args below meth c H locs cells slots mc ms ls' hI hH (am_st1 (v := iV (wr (z + n))) hL.2.1 hb (wr_i32 _) (fun i w h => (hL.2.2.2 i w h).2) (by rw [show am_tr G (iV (wr (z + n))) = .int (Int32.ofInt z + Int32.ofInt n) from by show Value.int _ = _; rw [o32_wr, Int32.ofInt_add]]; exact h9)) hS)
theorem X_iadd {G : am_G} {d a b : Nat} {M : am_Me} {pc : Nat} {L : List (Option am_V)} {st : List am_V} {m : am_M} {Q : am_Q} {x y : Int} (hd : decode M.2.1 pc = .ok (.iadd, 1)) (k : X G d a b M (pc + 1) L (iV (wr (x + y)) :: st) m Q) : X G d a b M pc L (iV y :: iV x :: st) m Q := by
  intro hG p e R s mid args below meth c H locs cells slots mc ms ls hI hH hL hS
  have k := k hG p e R s mid args below meth c H locs cells slots mc ms ls hI hH hL (Xs1 (wr_i32 _) (Xst2 hS))
  have e9 : am_tr G (iV (wr (x + y))) = .int (Int32.ofInt x + Int32.ofInt y) := by
    show Value.int (Int32.ofInt (wr (x + y))) = _
    rw [o32_wr, Int32.ofInt_add]
  rw [List.map_cons, e9] at k
  exact lv_iadd hI.1 hI.2.1 hd  k
theorem X_isub {G : am_G} {d a b : Nat} {M : am_Me} {pc : Nat} {L : List (Option am_V)} {st : List am_V} {m : am_M} {Q : am_Q} {x y : Int} (hd : decode M.2.1 pc = .ok (.isub, 1)) (k : X G d a b M (pc + 1) L (iV (wr (x - y)) :: st) m Q) : X G d a b M pc L (iV y :: iV x :: st) m Q := by
  intro hG p e R s mid args below meth c H locs cells slots mc ms ls hI hH hL hS
  have k := k hG p e R s mid args below meth c H locs cells slots mc ms ls hI hH hL (Xs1 (wr_i32 _) (Xst2 hS))
  have e9 : am_tr G (iV (wr (x - y))) = .int (Int32.ofInt x - Int32.ofInt y) := by
    show Value.int (Int32.ofInt (wr (x - y))) = _
    rw [o32_wr, Int32.ofInt_sub]
  rw [List.map_cons, e9] at k
  exact lv_isub hI.1 hI.2.1 hd  k
theorem X_imul {G : am_G} {d a b : Nat} {M : am_Me} {pc : Nat} {L : List (Option am_V)} {st : List am_V} {m : am_M} {Q : am_Q} {x y : Int} (hd : decode M.2.1 pc = .ok (.imul, 1)) (k : X G d a b M (pc + 1) L (iV (wr (x * y)) :: st) m Q) : X G d a b M pc L (iV y :: iV x :: st) m Q := by
  intro hG p e R s mid args below meth c H locs cells slots mc ms ls hI hH hL hS
  have k := k hG p e R s mid args below meth c H locs cells slots mc ms ls hI hH hL (Xs1 (wr_i32 _) (Xst2 hS))
  have e9 : am_tr G (iV (wr (x * y))) = .int (Int32.ofInt x * Int32.ofInt y) := by
    show Value.int (Int32.ofInt (wr (x * y))) = _
    rw [o32_wr, Int32.ofInt_mul]
  rw [List.map_cons, e9] at k
  exact lv_imul hI.1 hI.2.1 hd  k
theorem X_idiv {G : am_G} {d a b : Nat} {M : am_Me} {pc : Nat} {L : List (Option am_V)} {st : List am_V} {m : am_M} {Q : am_Q} {x y : Int} (hd : decode M.2.1 pc = .ok (.idiv, 1)) (h0 : y ≠ 0) (k : X G d a b M (pc + 1) L (iV (wr (x.tdiv y)) :: st) m Q) : X G d a b M pc L (iV y :: iV x :: st) m Q := by
  intro hG p e R s mid args below meth c H locs cells slots mc ms ls hI hH hL hS
  have k := k hG p e R s mid args below meth c H locs cells slots mc ms ls hI hH hL (Xs1 (wr_i32 _) (Xst2 hS))
  have e9 : am_tr G (iV (wr (x.tdiv y))) = .int (Int32.ofInt x / Int32.ofInt y) := by
    show Value.int (Int32.ofInt (wr (x.tdiv y))) = _
    rw [Xi32_tdiv (Xsh2 hS) (Xsh hS)]
  rw [List.map_cons, e9] at k
  exact lv_idiv hI.1 hI.2.1 hd (fun q => h0 ((o32_eq (Xsh hS) i32_0).mp q)) k
theorem X_irem {G : am_G} {d a b : Nat} {M : am_Me} {pc : Nat} {L : List (Option am_V)} {st : List am_V} {m : am_M} {Q : am_Q} {x y : Int} (hd : decode M.2.1 pc = .ok (.irem, 1)) (h0 : y ≠ 0) (k : X G d a b M (pc + 1) L (iV (x.tmod y) :: st) m Q) : X G d a b M pc L (iV y :: iV x :: st) m Q := by
  intro hG p e R s mid args below meth c H locs cells slots mc ms ls hI hH hL hS
  have k := k hG p e R s mid args below meth c H locs cells slots mc ms ls hI hH hL (Xs1 (i32_tmod (Xsh2 hS) (Xsh hS) h0) (Xst2 hS))
  have e9 : am_tr G (iV (x.tmod y)) = .int (Int32.ofInt x - Int32.ofInt x / Int32.ofInt y * Int32.ofInt y) := by
    show Value.int (Int32.ofInt (x.tmod y)) = _
    rw [Xi32_tmod (Xsh2 hS) (Xsh hS)]
  rw [List.map_cons, e9] at k
  exact lv_irem hI.1 hI.2.1 hd (fun q => h0 ((o32_eq (Xsh hS) i32_0).mp q)) k
theorem X_iand {G : am_G} {d a b : Nat} {M : am_Me} {pc : Nat} {L : List (Option am_V)} {st : List am_V} {m : am_M} {Q : am_Q} {x y : Int} (hd : decode M.2.1 pc = .ok (.iand, 1)) (k : X G d a b M (pc + 1) L (iV (ian x y) :: st) m Q) : X G d a b M pc L (iV y :: iV x :: st) m Q := by
  intro hG p e R s mid args below meth c H locs cells slots mc ms ls hI hH hL hS
  have k := k hG p e R s mid args below meth c H locs cells slots mc ms ls hI hH hL (Xs1 (i32_ti _) (Xst2 hS))
  have e9 : am_tr G (iV (ian x y)) = .int (Int32.ofInt x &&& Int32.ofInt y) := by
    show Value.int (Int32.ofInt (ian x y)) = _
    unfold ian; rw [Int32.ofInt_toInt]
  rw [List.map_cons, e9] at k
  exact lv_iand hI.1 hI.2.1 hd  k
theorem X_ishr {G : am_G} {d a b : Nat} {M : am_Me} {pc : Nat} {L : List (Option am_V)} {st : List am_V} {m : am_M} {Q : am_Q} {x y : Int} (hd : decode M.2.1 pc = .ok (.ishr, 1)) (k : X G d a b M (pc + 1) L (iV (ishx x y) :: st) m Q) : X G d a b M pc L (iV y :: iV x :: st) m Q := by
  intro hG p e R s mid args below meth c H locs cells slots mc ms ls hI hH hL hS
  have k := k hG p e R s mid args below meth c H locs cells slots mc ms ls hI hH hL (Xs1 (i32_ti _) (Xst2 hS))
  have e9 : am_tr G (iV (ishx x y)) = .int (Int32.ofInt x >>> (Int32.ofInt y &&& 31)) := by
    show Value.int (Int32.ofInt (ishx x y)) = _
    unfold ishx; rw [Int32.ofInt_toInt]
  rw [List.map_cons, e9] at k
  exact lv_ishr hI.1 hI.2.1 hd  k
theorem X_iushr {G : am_G} {d a b : Nat} {M : am_Me} {pc : Nat} {L : List (Option am_V)} {st : List am_V} {m : am_M} {Q : am_Q} {x y : Int} (hd : decode M.2.1 pc = .ok (.iushr, 1)) (k : X G d a b M (pc + 1) L (iV (iushx x y) :: st) m Q) : X G d a b M pc L (iV y :: iV x :: st) m Q := by
  intro hG p e R s mid args below meth c H locs cells slots mc ms ls hI hH hL hS
  have k := k hG p e R s mid args below meth c H locs cells slots mc ms ls hI hH hL (Xs1 (i32_ti _) (Xst2 hS))
  have e9 : am_tr G (iV (iushx x y)) = .int (((Int32.ofInt x).toUInt32 >>> ((Int32.ofInt y).toUInt32 &&& Int32.toUInt32 31)).toInt32) := by
    show Value.int (Int32.ofInt (iushx x y)) = _
    unfold iushx; rw [Int32.ofInt_toInt]
  rw [List.map_cons, e9] at k
  exact lv_iushr hI.1 hI.2.1 hd rfl k
theorem X_ladd {G : am_G} {d a b : Nat} {M : am_Me} {pc : Nat} {L : List (Option am_V)} {st : List am_V} {m : am_M} {Q : am_Q} {x y : Int} (hd : decode M.2.1 pc = .ok (.ladd, 1)) (k : X G d a b M (pc + 1) L (lV (wrl (x + y)) :: st) m Q) : X G d a b M pc L (lV y :: lV x :: st) m Q := by
  intro hG p e R s mid args below meth c H locs cells slots mc ms ls hI hH hL hS
  have k := k hG p e R s mid args below meth c H locs cells slots mc ms ls hI hH hL (Xs1 (wrl_i64 _) (Xst2 hS))
  have e9 : am_tr G (lV (wrl (x + y))) = .long (Int64.ofInt x + Int64.ofInt y) := by
    show Value.long (Int64.ofInt (wrl (x + y))) = _
    rw [o64_wr, Int64.ofInt_add]
  rw [List.map_cons, e9] at k
  exact lv_ladd hI.1 hI.2.1 hd  k
theorem X_lsub {G : am_G} {d a b : Nat} {M : am_Me} {pc : Nat} {L : List (Option am_V)} {st : List am_V} {m : am_M} {Q : am_Q} {x y : Int} (hd : decode M.2.1 pc = .ok (.lsub, 1)) (k : X G d a b M (pc + 1) L (lV (wrl (x - y)) :: st) m Q) : X G d a b M pc L (lV y :: lV x :: st) m Q := by
  intro hG p e R s mid args below meth c H locs cells slots mc ms ls hI hH hL hS
  have k := k hG p e R s mid args below meth c H locs cells slots mc ms ls hI hH hL (Xs1 (wrl_i64 _) (Xst2 hS))
  have e9 : am_tr G (lV (wrl (x - y))) = .long (Int64.ofInt x - Int64.ofInt y) := by
    show Value.long (Int64.ofInt (wrl (x - y))) = _
    rw [o64_wr, Int64.ofInt_sub]
  rw [List.map_cons, e9] at k
  exact lv_lsub hI.1 hI.2.1 hd  k
theorem X_lmul {G : am_G} {d a b : Nat} {M : am_Me} {pc : Nat} {L : List (Option am_V)} {st : List am_V} {m : am_M} {Q : am_Q} {x y : Int} (hd : decode M.2.1 pc = .ok (.lmul, 1)) (k : X G d a b M (pc + 1) L (lV (wrl (x * y)) :: st) m Q) : X G d a b M pc L (lV y :: lV x :: st) m Q := by
  intro hG p e R s mid args below meth c H locs cells slots mc ms ls hI hH hL hS
  have k := k hG p e R s mid args below meth c H locs cells slots mc ms ls hI hH hL (Xs1 (wrl_i64 _) (Xst2 hS))
  have e9 : am_tr G (lV (wrl (x * y))) = .long (Int64.ofInt x * Int64.ofInt y) := by
    show Value.long (Int64.ofInt (wrl (x * y))) = _
    rw [o64_wr, Int64.ofInt_mul]
  rw [List.map_cons, e9] at k
  exact lv_lmul hI.1 hI.2.1 hd  k
theorem X_ldiv {G : am_G} {d a b : Nat} {M : am_Me} {pc : Nat} {L : List (Option am_V)} {st : List am_V} {m : am_M} {Q : am_Q} {x y : Int} (hd : decode M.2.1 pc = .ok (.ldiv, 1)) (h0 : y ≠ 0) (k : X G d a b M (pc + 1) L (lV (wrl (x.tdiv y)) :: st) m Q) : X G d a b M pc L (lV y :: lV x :: st) m Q := by
  intro hG p e R s mid args below meth c H locs cells slots mc ms ls hI hH hL hS
  have k := k hG p e R s mid args below meth c H locs cells slots mc ms ls hI hH hL (Xs1 (wrl_i64 _) (Xst2 hS))
  have e9 : am_tr G (lV (wrl (x.tdiv y))) = .long (Int64.ofInt x / Int64.ofInt y) := by
    show Value.long (Int64.ofInt (wrl (x.tdiv y))) = _
    rw [Xi64_tdiv (Xsh2 hS) (Xsh hS)]
  rw [List.map_cons, e9] at k
  exact lv_ldiv hI.1 hI.2.1 hd (fun q => h0 ((o64_eq (Xsh hS) (show i64 0 by unfold i64; omega)).mp q)) k
theorem X_lrem {G : am_G} {d a b : Nat} {M : am_Me} {pc : Nat} {L : List (Option am_V)} {st : List am_V} {m : am_M} {Q : am_Q} {x y : Int} (hd : decode M.2.1 pc = .ok (.lrem, 1)) (h0 : y ≠ 0) (k : X G d a b M (pc + 1) L (lV (x.tmod y) :: st) m Q) : X G d a b M pc L (lV y :: lV x :: st) m Q := by
  intro hG p e R s mid args below meth c H locs cells slots mc ms ls hI hH hL hS
  have k := k hG p e R s mid args below meth c H locs cells slots mc ms ls hI hH hL (Xs1 (i64_tmod (Xsh2 hS) (Xsh hS) h0) (Xst2 hS))
  have e9 : am_tr G (lV (x.tmod y)) = .long (Int64.ofInt x - Int64.ofInt x / Int64.ofInt y * Int64.ofInt y) := by
    show Value.long (Int64.ofInt (x.tmod y)) = _
    rw [Xi64_tmod (Xsh2 hS) (Xsh hS)]
  rw [List.map_cons, e9] at k
  exact lv_lrem hI.1 hI.2.1 hd (fun q => h0 ((o64_eq (Xsh hS) (show i64 0 by unfold i64; omega)).mp q)) k
theorem X_lcmp {G : am_G} {d a b : Nat} {M : am_Me} {pc : Nat} {L : List (Option am_V)} {st : List am_V} {m : am_M} {Q : am_Q} {x y : Int} (hd : decode M.2.1 pc = .ok (.lcmp, 1)) (k : X G d a b M (pc + 1) L (iV (lc x y) :: st) m Q) : X G d a b M pc L (lV y :: lV x :: st) m Q := by
  intro hG p e R s mid args below meth c H locs cells slots mc ms ls hI hH hL hS
  have k := k hG p e R s mid args below meth c H locs cells slots mc ms ls hI hH hL (Xs1 (lc_i32 _ _) (Xst2 hS))
  have e9 : am_tr G (iV (lc x y)) = .int (lg_cmp (Int64.ofInt x) (Int64.ofInt y)) := by
    rw [Xlc (Xsh2 hS) (Xsh hS)]; rfl
  rw [List.map_cons, e9] at k
  exact W.lcmp hI.1 hI.2.1 hd k
theorem X_i2l {G : am_G} {d a b : Nat} {M : am_Me} {pc : Nat} {L : List (Option am_V)} {st : List am_V} {m : am_M} {Q : am_Q} {x : Int} (hd : decode M.2.1 pc = .ok (.i2l, 1)) (k : X G d a b M (pc + 1) L (lV x :: st) m Q) : X G d a b M pc L (iV x :: st) m Q := by
  intro hG p e R s mid args below meth c H locs cells slots mc ms ls hI hH hL hS
  have k := k hG p e R s mid args below meth c H locs cells slots mc ms ls hI hH hL (Xs1 (show i64 x by have h9 : i32 x := Xsh hS; unfold i32 at h9; unfold i64; omega) (Xst hS))
  exact lv_i2l hI.1 hI.2.1 hd (show (Int32.ofInt x).toInt64 = Int64.ofInt x from Int32.toInt64_ofInt (by have h9 : i32 x := Xsh hS; exact h9.1) (by have h9 : i32 x := Xsh hS; exact h9.2)) k
theorem X_l2i {G : am_G} {d a b : Nat} {M : am_Me} {pc : Nat} {L : List (Option am_V)} {st : List am_V} {m : am_M} {Q : am_Q} {x : Int} (hd : decode M.2.1 pc = .ok (.l2i, 1)) (k : X G d a b M (pc + 1) L (iV (wr x) :: st) m Q) : X G d a b M pc L (lV x :: st) m Q := by
  intro hG p e R s mid args below meth c H locs cells slots mc ms ls hI hH hL hS
  have k := k hG p e R s mid args below meth c H locs cells slots mc ms ls hI hH hL (Xs1 (wr_i32 _) (Xst hS))
  exact lv_l2i hI.1 hI.2.1 hd (show (Int64.ofInt x).toInt32 = Int32.ofInt (wr x) by rw [o32_wr, Int64.toInt32_ofInt]) k
theorem X_i2b {G : am_G} {d a b : Nat} {M : am_Me} {pc : Nat} {L : List (Option am_V)} {st : List am_V} {m : am_M} {Q : am_Q} {x : Int} (hd : decode M.2.1 pc = .ok (.i2b, 1)) (k : X G d a b M (pc + 1) L (iV (ib8 x) :: st) m Q) : X G d a b M pc L (iV x :: st) m Q := by
  intro hG p e R s mid args below meth c H locs cells slots mc ms ls hI hH hL hS
  have k := k hG p e R s mid args below meth c H locs cells slots mc ms ls hI hH hL (Xs1 (i32_ti _) (Xst hS))
  exact lv_i2b hI.1 hI.2.1 hd (show (Int32.ofInt x).toInt8.toInt32 = Int32.ofInt (ib8 x) by unfold ib8; rw [Int32.ofInt_toInt]) k
theorem X_l2d {G : am_G} {d a b : Nat} {M : am_Me} {pc : Nat} {L : List (Option am_V)} {st : List am_V} {m : am_M} {Q : am_Q} {x : Int} (hd : decode M.2.1 pc = .ok (.l2d, 1)) (k : X G d a b M (pc + 1) L (dV (FP.l2d (Int64.ofInt x)) :: st) m Q) : X G d a b M pc L (lV x :: st) m Q := by
  intro hG p e R s mid args below meth c H locs cells slots mc ms ls hI hH hL hS
  exact lv_l2d hI.1 hI.2.1 hd (k hG p e R s mid args below meth c H locs cells slots mc ms ls hI hH hL (Xs1 (v := dV (FP.l2d (Int64.ofInt x))) trivial (Xst hS)))
theorem X_dmul {G : am_G} {d a b : Nat} {M : am_Me} {pc : Nat} {L : List (Option am_V)} {st : List am_V} {m : am_M} {Q : am_Q} {x y : UInt64} (hd : decode M.2.1 pc = .ok (.dmul, 1)) (h0 : vf_n64 (FP.dmul x y)) (k : X G d a b M (pc + 1) L (dV (FP.dmul x y) :: st) m Q) : X G d a b M pc L (dV y :: dV x :: st) m Q := by
  intro hG p e R s mid args below meth c H locs cells slots mc ms ls hI hH hL hS
  exact lv_dmul hI.1 hI.2.1 hd h0 (k hG p e R s mid args below meth c H locs cells slots mc ms ls hI hH hL (Xs1 (v := dV (FP.dmul x y)) trivial (Xst2 hS)))
theorem X_ddiv {G : am_G} {d a b : Nat} {M : am_Me} {pc : Nat} {L : List (Option am_V)} {st : List am_V} {m : am_M} {Q : am_Q} {x y : UInt64} (hd : decode M.2.1 pc = .ok (.ddiv, 1)) (h0 : vf_n64 (FP.ddiv x y)) (k : X G d a b M (pc + 1) L (dV (FP.ddiv x y) :: st) m Q) : X G d a b M pc L (dV y :: dV x :: st) m Q := by
  intro hG p e R s mid args below meth c H locs cells slots mc ms ls hI hH hL hS
  exact lv_ddiv hI.1 hI.2.1 hd h0 (k hG p e R s mid args below meth c H locs cells slots mc ms ls hI hH hL (Xs1 (v := dV (FP.ddiv x y)) trivial (Xst2 hS)))
theorem X_dcmp {G : am_G} {d a b : Nat} {M : am_Me} {pc : Nat} {L : List (Option am_V)} {st : List am_V} {m : am_M} {Q : am_Q} {x y : UInt64} {op : CmpOp} (hd : decode M.2.1 pc = .ok (.dcmp op, 1)) (k : X G d a b M (pc + 1) L (iV (Op.cmpValue (FP.dcmp x y) op).toInt :: st) m Q) : X G d a b M pc L (dV y :: dV x :: st) m Q := by
  intro hG p e R s mid args below meth c H locs cells slots mc ms ls hI hH hL hS
  have k := k hG p e R s mid args below meth c H locs cells slots mc ms ls hI hH hL (Xs1 (i32_ti _) (Xst2 hS))
  rw [List.map_cons, show am_tr G (iV (Op.cmpValue (FP.dcmp x y) op).toInt) = .int (Op.cmpValue (FP.dcmp x y) op) from by show Value.int _ = _; rw [Int32.ofInt_toInt]] at k
  exact lv_dcmp hI.1 hI.2.1 hd k
theorem X_dup {G : am_G} {d a b : Nat} {M : am_Me} {pc : Nat} {L : List (Option am_V)} {st : List am_V} {m : am_M} {Q : am_Q} {v : am_V} (hd : decode M.2.1 pc = .ok (.dup, 1)) (hc : (am_tr G v).category = 1) (k : X G d a b M (pc + 1) L (v :: v :: st) m Q) : X G d a b M pc L (v :: st) m Q := by
  intro hG p e R s mid args below meth c H locs cells slots mc ms ls hI hH hL hS
  exact lv_dup hI.1 hI.2.1 hd hc (k hG p e R s mid args below meth c H locs cells slots mc ms ls hI hH hL (Xs1 (Xsh hS) hS))
theorem X_dup2 {G : am_G} {d a b : Nat} {M : am_Me} {pc : Nat} {L : List (Option am_V)} {st : List am_V} {m : am_M} {Q : am_Q} {u v : am_V} (hd : decode M.2.1 pc = .ok (.dup2, 1)) (hc : (am_tr G u).category = 1) (hc2 : (am_tr G v).category = 1) (k : X G d a b M (pc + 1) L (u :: v :: u :: v :: st) m Q) : X G d a b M pc L (u :: v :: st) m Q := by
  intro hG p e R s mid args below meth c H locs cells slots mc ms ls hI hH hL hS
  exact lv_dup2_11 hI.1 hI.2.1 hd hc hc2 (k hG p e R s mid args below meth c H locs cells slots mc ms ls hI hH hL (Xs1 (Xsh hS) (Xs1 (Xsh2 hS) hS)))
theorem X_pop {G : am_G} {d a b : Nat} {M : am_Me} {pc : Nat} {L : List (Option am_V)} {st : List am_V} {m : am_M} {Q : am_Q} {v : am_V} (hd : decode M.2.1 pc = .ok (.pop, 1)) (hc : (am_tr G v).category = 1) (k : X G d a b M (pc + 1) L st m Q) : X G d a b M pc L (v :: st) m Q := by
  intro hG p e R s mid args below meth c H locs cells slots mc ms ls hI hH hL hS
  exact lv_pop hI.1 hI.2.1 hd hc (k hG p e R s mid args below meth c H locs cells slots mc ms ls hI hH hL (Xst hS))
theorem X_if_eq {G : am_G} {d a b : Nat} {M : am_Me} {pc : Nat} {L : List (Option am_V)} {st : List am_V} {m : am_M} {Q : am_Q} {x : Int} {off : Int} {tgt : Nat} (hd : decode M.2.1 pc = .ok (.ifCond .eq off, 3)) (ht : (pc : Int) + off = (tgt : Int)) (kt : x = 0 → X G d a b M tgt L st m Q) (kf : ¬ x = 0 → X G d a b M (pc + 3) L st m Q) : X G d a b M pc L (iV x :: st) m Q := by
  intro hG p e R s mid args below meth c H locs cells slots mc ms ls hI hH hL hS
  have e9 := o32_eq (Xsh hS) i32_0
  refine lv_if_eq hI.1 hI.2.1 hd ht (fun q => ?_) (fun q => ?_)
  · exact (kt (e9.mp q)) hG p e R s mid args below meth c H locs cells slots mc ms ls hI hH hL (Xst hS)
  · exact (kf (fun z => q (e9.mpr z))) hG p e R s mid args below meth c H locs cells slots mc ms ls hI hH hL (Xst hS)
theorem X_icmp_eq {G : am_G} {d a b : Nat} {M : am_Me} {pc : Nat} {L : List (Option am_V)} {st : List am_V} {m : am_M} {Q : am_Q} {x y : Int} {off : Int} {tgt : Nat} (hd : decode M.2.1 pc = .ok (.if_icmp .eq off, 3)) (ht : (pc : Int) + off = (tgt : Int)) (kt : x = y → X G d a b M tgt L st m Q) (kf : ¬ x = y → X G d a b M (pc + 3) L st m Q) : X G d a b M pc L (iV y :: iV x :: st) m Q := by
  intro hG p e R s mid args below meth c H locs cells slots mc ms ls hI hH hL hS
  have e9 := o32_eq (Xsh2 hS) (Xsh hS)
  refine lv_icmp_eq hI.1 hI.2.1 hd ht (fun q => ?_) (fun q => ?_)
  · exact (kt (e9.mp q)) hG p e R s mid args below meth c H locs cells slots mc ms ls hI hH hL (Xst2 hS)
  · exact (kf (fun z => q (e9.mpr z))) hG p e R s mid args below meth c H locs cells slots mc ms ls hI hH hL (Xst2 hS)
theorem X_if_ne {G : am_G} {d a b : Nat} {M : am_Me} {pc : Nat} {L : List (Option am_V)} {st : List am_V} {m : am_M} {Q : am_Q} {x : Int} {off : Int} {tgt : Nat} (hd : decode M.2.1 pc = .ok (.ifCond .ne off, 3)) (ht : (pc : Int) + off = (tgt : Int)) (kt : ¬ x = 0 → X G d a b M tgt L st m Q) (kf : x = 0 → X G d a b M (pc + 3) L st m Q) : X G d a b M pc L (iV x :: st) m Q := by
  intro hG p e R s mid args below meth c H locs cells slots mc ms ls hI hH hL hS
  have e9 := o32_eq (Xsh hS) i32_0
  refine lv_if_ne hI.1 hI.2.1 hd ht (fun q => ?_) (fun q => ?_)
  · exact (kt (fun z => q (e9.mpr z))) hG p e R s mid args below meth c H locs cells slots mc ms ls hI hH hL (Xst hS)
  · exact (kf (e9.mp q)) hG p e R s mid args below meth c H locs cells slots mc ms ls hI hH hL (Xst hS)
theorem X_icmp_ne {G : am_G} {d a b : Nat} {M : am_Me} {pc : Nat} {L : List (Option am_V)} {st : List am_V} {m : am_M} {Q : am_Q} {x y : Int} {off : Int} {tgt : Nat} (hd : decode M.2.1 pc = .ok (.if_icmp .ne off, 3)) (ht : (pc : Int) + off = (tgt : Int)) (kt : ¬ x = y → X G d a b M tgt L st m Q) (kf : x = y → X G d a b M (pc + 3) L st m Q) : X G d a b M pc L (iV y :: iV x :: st) m Q := by
  intro hG p e R s mid args below meth c H locs cells slots mc ms ls hI hH hL hS
  have e9 := o32_eq (Xsh2 hS) (Xsh hS)
  refine lv_icmp_ne hI.1 hI.2.1 hd ht (fun q => ?_) (fun q => ?_)
  · exact (kt (fun z => q (e9.mpr z))) hG p e R s mid args below meth c H locs cells slots mc ms ls hI hH hL (Xst2 hS)
  · exact (kf (e9.mp q)) hG p e R s mid args below meth c H locs cells slots mc ms ls hI hH hL (Xst2 hS)
theorem X_if_lt {G : am_G} {d a b : Nat} {M : am_Me} {pc : Nat} {L : List (Option am_V)} {st : List am_V} {m : am_M} {Q : am_Q} {x : Int} {off : Int} {tgt : Nat} (hd : decode M.2.1 pc = .ok (.ifCond .lt off, 3)) (ht : (pc : Int) + off = (tgt : Int)) (kt : x < 0 → X G d a b M tgt L st m Q) (kf : ¬ x < 0 → X G d a b M (pc + 3) L st m Q) : X G d a b M pc L (iV x :: st) m Q := by
  intro hG p e R s mid args below meth c H locs cells slots mc ms ls hI hH hL hS
  have e9 := o32_lt (Xsh hS) i32_0
  refine lv_if_lt hI.1 hI.2.1 hd ht (fun q => ?_) (fun q => ?_)
  · exact (kt (e9.mp q)) hG p e R s mid args below meth c H locs cells slots mc ms ls hI hH hL (Xst hS)
  · exact (kf (fun z => q (e9.mpr z))) hG p e R s mid args below meth c H locs cells slots mc ms ls hI hH hL (Xst hS)
theorem X_icmp_lt {G : am_G} {d a b : Nat} {M : am_Me} {pc : Nat} {L : List (Option am_V)} {st : List am_V} {m : am_M} {Q : am_Q} {x y : Int} {off : Int} {tgt : Nat} (hd : decode M.2.1 pc = .ok (.if_icmp .lt off, 3)) (ht : (pc : Int) + off = (tgt : Int)) (kt : x < y → X G d a b M tgt L st m Q) (kf : ¬ x < y → X G d a b M (pc + 3) L st m Q) : X G d a b M pc L (iV y :: iV x :: st) m Q := by
  intro hG p e R s mid args below meth c H locs cells slots mc ms ls hI hH hL hS
  have e9 := o32_lt (Xsh2 hS) (Xsh hS)
  refine lv_icmp_lt hI.1 hI.2.1 hd ht (fun q => ?_) (fun q => ?_)
  · exact (kt (e9.mp q)) hG p e R s mid args below meth c H locs cells slots mc ms ls hI hH hL (Xst2 hS)
  · exact (kf (fun z => q (e9.mpr z))) hG p e R s mid args below meth c H locs cells slots mc ms ls hI hH hL (Xst2 hS)
theorem X_if_ge {G : am_G} {d a b : Nat} {M : am_Me} {pc : Nat} {L : List (Option am_V)} {st : List am_V} {m : am_M} {Q : am_Q} {x : Int} {off : Int} {tgt : Nat} (hd : decode M.2.1 pc = .ok (.ifCond .ge off, 3)) (ht : (pc : Int) + off = (tgt : Int)) (kt : 0 ≤ x → X G d a b M tgt L st m Q) (kf : ¬ 0 ≤ x → X G d a b M (pc + 3) L st m Q) : X G d a b M pc L (iV x :: st) m Q := by
  intro hG p e R s mid args below meth c H locs cells slots mc ms ls hI hH hL hS
  have e9 := o32_le i32_0 (Xsh hS)
  refine lv_if_ge hI.1 hI.2.1 hd ht (fun q => ?_) (fun q => ?_)
  · exact (kt (e9.mp q)) hG p e R s mid args below meth c H locs cells slots mc ms ls hI hH hL (Xst hS)
  · exact (kf (fun z => q (e9.mpr z))) hG p e R s mid args below meth c H locs cells slots mc ms ls hI hH hL (Xst hS)
theorem X_icmp_ge {G : am_G} {d a b : Nat} {M : am_Me} {pc : Nat} {L : List (Option am_V)} {st : List am_V} {m : am_M} {Q : am_Q} {x y : Int} {off : Int} {tgt : Nat} (hd : decode M.2.1 pc = .ok (.if_icmp .ge off, 3)) (ht : (pc : Int) + off = (tgt : Int)) (kt : y ≤ x → X G d a b M tgt L st m Q) (kf : ¬ y ≤ x → X G d a b M (pc + 3) L st m Q) : X G d a b M pc L (iV y :: iV x :: st) m Q := by
  intro hG p e R s mid args below meth c H locs cells slots mc ms ls hI hH hL hS
  have e9 := o32_le (Xsh hS) (Xsh2 hS)
  refine lv_icmp_ge hI.1 hI.2.1 hd ht (fun q => ?_) (fun q => ?_)
  · exact (kt (e9.mp q)) hG p e R s mid args below meth c H locs cells slots mc ms ls hI hH hL (Xst2 hS)
  · exact (kf (fun z => q (e9.mpr z))) hG p e R s mid args below meth c H locs cells slots mc ms ls hI hH hL (Xst2 hS)
theorem X_if_gt {G : am_G} {d a b : Nat} {M : am_Me} {pc : Nat} {L : List (Option am_V)} {st : List am_V} {m : am_M} {Q : am_Q} {x : Int} {off : Int} {tgt : Nat} (hd : decode M.2.1 pc = .ok (.ifCond .gt off, 3)) (ht : (pc : Int) + off = (tgt : Int)) (kt : 0 < x → X G d a b M tgt L st m Q) (kf : ¬ 0 < x → X G d a b M (pc + 3) L st m Q) : X G d a b M pc L (iV x :: st) m Q := by
  intro hG p e R s mid args below meth c H locs cells slots mc ms ls hI hH hL hS
  have e9 := o32_lt i32_0 (Xsh hS)
  refine lv_if_gt hI.1 hI.2.1 hd ht (fun q => ?_) (fun q => ?_)
  · exact (kt (e9.mp q)) hG p e R s mid args below meth c H locs cells slots mc ms ls hI hH hL (Xst hS)
  · exact (kf (fun z => q (e9.mpr z))) hG p e R s mid args below meth c H locs cells slots mc ms ls hI hH hL (Xst hS)
theorem X_icmp_gt {G : am_G} {d a b : Nat} {M : am_Me} {pc : Nat} {L : List (Option am_V)} {st : List am_V} {m : am_M} {Q : am_Q} {x y : Int} {off : Int} {tgt : Nat} (hd : decode M.2.1 pc = .ok (.if_icmp .gt off, 3)) (ht : (pc : Int) + off = (tgt : Int)) (kt : y < x → X G d a b M tgt L st m Q) (kf : ¬ y < x → X G d a b M (pc + 3) L st m Q) : X G d a b M pc L (iV y :: iV x :: st) m Q := by
  intro hG p e R s mid args below meth c H locs cells slots mc ms ls hI hH hL hS
  have e9 := o32_lt (Xsh hS) (Xsh2 hS)
  refine lv_icmp_gt hI.1 hI.2.1 hd ht (fun q => ?_) (fun q => ?_)
  · exact (kt (e9.mp q)) hG p e R s mid args below meth c H locs cells slots mc ms ls hI hH hL (Xst2 hS)
  · exact (kf (fun z => q (e9.mpr z))) hG p e R s mid args below meth c H locs cells slots mc ms ls hI hH hL (Xst2 hS)
theorem X_if_le {G : am_G} {d a b : Nat} {M : am_Me} {pc : Nat} {L : List (Option am_V)} {st : List am_V} {m : am_M} {Q : am_Q} {x : Int} {off : Int} {tgt : Nat} (hd : decode M.2.1 pc = .ok (.ifCond .le off, 3)) (ht : (pc : Int) + off = (tgt : Int)) (kt : x ≤ 0 → X G d a b M tgt L st m Q) (kf : ¬ x ≤ 0 → X G d a b M (pc + 3) L st m Q) : X G d a b M pc L (iV x :: st) m Q := by
  intro hG p e R s mid args below meth c H locs cells slots mc ms ls hI hH hL hS
  have e9 := o32_le (Xsh hS) i32_0
  refine lv_if_le hI.1 hI.2.1 hd ht (fun q => ?_) (fun q => ?_)
  · exact (kt (e9.mp q)) hG p e R s mid args below meth c H locs cells slots mc ms ls hI hH hL (Xst hS)
  · exact (kf (fun z => q (e9.mpr z))) hG p e R s mid args below meth c H locs cells slots mc ms ls hI hH hL (Xst hS)
theorem X_icmp_le {G : am_G} {d a b : Nat} {M : am_Me} {pc : Nat} {L : List (Option am_V)} {st : List am_V} {m : am_M} {Q : am_Q} {x y : Int} {off : Int} {tgt : Nat} (hd : decode M.2.1 pc = .ok (.if_icmp .le off, 3)) (ht : (pc : Int) + off = (tgt : Int)) (kt : x ≤ y → X G d a b M tgt L st m Q) (kf : ¬ x ≤ y → X G d a b M (pc + 3) L st m Q) : X G d a b M pc L (iV y :: iV x :: st) m Q := by
  intro hG p e R s mid args below meth c H locs cells slots mc ms ls hI hH hL hS
  have e9 := o32_le (Xsh2 hS) (Xsh hS)
  refine lv_icmp_le hI.1 hI.2.1 hd ht (fun q => ?_) (fun q => ?_)
  · exact (kt (e9.mp q)) hG p e R s mid args below meth c H locs cells slots mc ms ls hI hH hL (Xst2 hS)
  · exact (kf (fun z => q (e9.mpr z))) hG p e R s mid args below meth c H locs cells slots mc ms ls hI hH hL (Xst2 hS)
theorem X_goto {G : am_G} {d a b : Nat} {M : am_Me} {pc : Nat} {L : List (Option am_V)} {st : List am_V} {m : am_M} {Q : am_Q} {off : Int} {tgt : Nat} (hd : decode M.2.1 pc = .ok (.goto off, 3)) (ht : (pc : Int) + off = (tgt : Int)) (k : X G d a b M tgt L st m Q) : X G d a b M pc L st m Q := by
  intro hG p e R s mid args below meth c H locs cells slots mc ms ls hI hH hL hS
  exact lv_goto hI.1 hI.2.1 hd ht (k hG p e R s mid args below meth c H locs cells slots mc ms ls hI hH hL hS)
theorem X_tableIn {G : am_G} {d a b : Nat} {M : am_Me} {pc : Nat} {L : List (Option am_V)} {st : List am_V} {m : am_M} {Q : am_Q} {x dflt lo hi off : Int} {offs : Array Int} {len tgt : Nat} (hd : decode M.2.1 pc = .ok (.tableswitch dflt lo hi offs, len)) (h1 : lo ≤ x) (h2 : x ≤ hi) (ho : offs[(x - lo).toNat]? = some off) (ht : (pc : Int) + off = (tgt : Int)) (k : X G d a b M tgt L st m Q) : X G d a b M pc L (iV x :: st) m Q := by
  intro hG p e R s mid args below meth c H locs cells slots mc ms ls hI hH hL hS
  have e9 : (Int32.ofInt x).toInt = x := o32_ti (Xsh hS)
  exact lv_tableIn hI.1 hI.2.1 hd (by rw [e9]; omega) (by rw [e9]; omega) (by rw [e9]; exact ho) ht (k hG p e R s mid args below meth c H locs cells slots mc ms ls hI hH hL (Xst hS))
theorem X_tableOut {G : am_G} {d a b : Nat} {M : am_Me} {pc : Nat} {L : List (Option am_V)} {st : List am_V} {m : am_M} {Q : am_Q} {x dflt lo hi : Int} {offs : Array Int} {len tgt : Nat} (hd : decode M.2.1 pc = .ok (.tableswitch dflt lo hi offs, len)) (h1 : x < lo ∨ hi < x) (ht : (pc : Int) + dflt = (tgt : Int)) (k : X G d a b M tgt L st m Q) : X G d a b M pc L (iV x :: st) m Q := by
  intro hG p e R s mid args below meth c H locs cells slots mc ms ls hI hH hL hS
  have e9 : (Int32.ofInt x).toInt = x := o32_ti (Xsh hS)
  exact lv_tableOut hI.1 hI.2.1 hd (by rw [e9]; exact h1) ht (k hG p e R s mid args below meth c H locs cells slots mc ms ls hI hH hL (Xst hS))
theorem X_lookup {G : am_G} {d a b : Nat} {M : am_Me} {pc : Nat} {L : List (Option am_V)} {st : List am_V} {m : am_M} {Q : am_Q} {x dflt off : Int} {ps : Array (Int × Int)} {len tgt : Nat} (hd : decode M.2.1 pc = .ok (.lookupswitch dflt ps, len)) (hp : (ps.toList.zip (ps.toList.drop 1)).all (fun (a, next) => a.1 < next.1) = true) (ho : Op.lookupswitch.offset ps.toList dflt x = off) (ht : (pc : Int) + off = (tgt : Int)) (k : X G d a b M tgt L st m Q) : X G d a b M pc L (iV x :: st) m Q := by
  intro hG p e R s mid args below meth c H locs cells slots mc ms ls hI hH hL hS
  have e9 : (Int32.ofInt x).toInt = x := o32_ti (Xsh hS)
  exact lv_lookup hI.1 hI.2.1 hd hp (by rw [e9]; exact ho) ht (k hG p e R s mid args below meth c H locs cells slots mc ms ls hI hH hL (Xst hS))
