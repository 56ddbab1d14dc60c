/-! METHODS WITH HANDLERS: how they are called, how they catch -/
def NC (G : am_G) : Prop := va_Nc (am_en 0) (am_en 1) G.2.1
/-- a contract out of the body's walk, for a method with a table -/
theorem T_ofH {G : am_G} {d a b : Nat} {M : am_Me} {av : List am_V} {m : am_M} {Q : am_Q} (hh : M.2.2.2.2.2 ≠ []) (hp : Jvm.plainName M.1.cls = true) (ho : M.2.2.2.2.1 = M.1.cls) (hn : (am_ent1 av).length ≤ M.2.2.1) (k : X G d a b M 0 (am_ent av M.2.2.1) [] m Q) : T G d a b M av m Q := by
  intro hG hav
  have hcw : am_cw M = .codeWith M.1 M.2.1 M.2.2.1 M.2.2.2.1 M.2.2.2.2.2 := by unfold am_cw; rw [if_neg hh]
  refine vx_ofWH (cc := M.2.1) (maxL := M.2.2.1) (ret := M.2.2.2.1) (hh := M.2.2.2.2.2) (ws' := []) hp (by rw [hcw]) ?_
  intro p e s mid args below meth c s₁ B hml hv
  obtain ⟨rfl, hW, hH⟩ := hv
  rw [lg_entry_eq]
  have hT : c.exceptionTable.toList = tableOf M.2.2.2.2.2 := vx_table (x := M.1) B (by rw [← hcw]; exact atoms_spec (ws := [am_cw M]) B.pre _ List.mem_cons_self)
  refine k hG p e _ s mid _ below meth c s.heap [] 0 0 a b _ ⟨B.exec, B.bytes, hml, B.returns, B.notSynchronized, (name_of_methodNamed B.named B.method).1, hT, by rw [ho]; exact findClass_of_methodNamed B.named, hW, Nat.le_refl _, Nat.le_refl _, by omega, by omega, Nat.le_refl _, Nat.le_refl _, am_bs_le hH, Nat.le_refl _, fun _ h => (nomatch h), hH.2.2.2.2⟩ hH (am_entLR hn hav) (fun _ h => nomatch h)
/-- what the tables say of a static method with a table -/
def am_msH (M : am_Me) (n : Nat) : Prop := M.2.2.2.2.2 ≠ [] ∧ am_cw M ∈ lw_tbl ∧ Cond.initialized M.1.cls ∈ lw_tbl ∧ (M.1.cls ≠ "java/lang/invoke/MethodHandle" ∧ M.1.cls ≠ "java/lang/invoke/VarHandle") ∧ (parseMethodDescriptor M.1.desc).map (fun d => d.parameters.length) = some n ∧ M.2.2.1 ≤ 20 ∧ Cond.static M.1 ∈ lw_tbl
theorem am_callBH {G : am_G} {d a' b' : Nat} {M' : am_Me} {n : Nat} {R : Room} {s : State} {args : Array Value} {own : String} {idx : Nat} (hG : am_ok G) (hW : G.2.1.WarmedH s.vm) (hm : am_msH M' n) (hl : Cond.methodLink own idx M'.1 ∈ lw_tbl) (hd1 : 1 ≤ d) (hf : d + 16 ≤ R.frames) (hlo : 40 * d + 300 ≤ R.locals) :
    vx_CSW R s args own idx M'.1 M'.2.1 M'.2.2.1 M'.2.2.2.1 M'.2.2.2.2.2 [am_cw M'] (am_rm (d - 1) a' b') a' b' n := by
  obtain ⟨hh, hc, hi, hmh, hn, h20, hst⟩ := hm
  have hcw : am_cw M' = .codeWith M'.1 M'.2.1 M'.2.2.1 M'.2.2.2.1 M'.2.2.2.2.2 := by unfold am_cw; rw [if_neg hh]
  have f1 : (am_rm (d - 1) a' b').frames + 1 ≤ R.frames := by simp only [am_rm]; omega
  have f2 : 8 + (M'.2.2.1 + 11) + (am_rm (d - 1) a' b').locals ≤ R.locals := am_locs20 hd1 h20 hlo
  have f3 : ∀ w ∈ [am_cw M'], ∀ (a9 : Array Value) (U : State), s.WarmedH U.vm → w.before a9 U = true := fun w hw a9 U hU => by
    rw [List.mem_singleton.mp hw]
    exact am_word hG (State.WarmedH.trans hW hU) hc (am_cwGood M') _
  have f4 : Cond.codeWith M'.1 M'.2.1 M'.2.2.1 M'.2.2.2.1 M'.2.2.2.2.2 ∈ [am_cw M'] := List.mem_singleton.mpr hcw.symm
  have f5 : (am_cw M').before args s = true := am_word hG hW hc (am_cwGood M') _
  have f6 : (Cond.initialized M'.1.cls).before args s = true := am_word hG hW hi rfl _
  have f7 : (Cond.methodLink own idx M'.1).before args s = true := am_word hG hW hl rfl _
  have f8 : (Cond.static M'.1).before args s = true := am_word hG hW hst rfl _
  rw [hcw] at f5
  exact ⟨⟨rfl, rfl, f1, f2, f3, f4⟩, f5, f6, hmh, am_lenA hn, f7, f8⟩
/-- a static method with a table, called by one without -/
theorem X_callSH {G : am_G} {d a b a' b' : Nat} {M M' : am_Me} {pc : Nat} {L : List (Option am_V)} {st rest As : List am_V} {m : am_M} {Q : am_Q} {idx n : Nat} (hd : decode M.2.1 pc = .ok (.invokestatic idx, 3)) (hm : am_msH M' n) (hl : Cond.methodLink M.2.2.2.2.1 idx M'.1 ∈ lw_tbl) (hst : st = As.reverse ++ rest) (hn : As.length = n) (h8 : (rest.map am_wd).sum ≤ 8) (hh : M.2.2.2.2.2 = []) (hd1 : 1 ≤ d) (ha : a' ≤ a) (hb : b' ≤ b)
    (k : T G (d - 1) a' b' M' As m (am_go (fun r m' => X G d (a - a') (b - b') M (pc + 3) L (r.toList ++ rest) m' Q) (fun k m' => Q (.inr k) m'))) : X G d a b M pc L st m Q := by
  intro hG p e R s mid args below meth c H locs cells slots mc ms ls hI hH hL hS
  subst hst
  have hW := hI.2.2.2.2.2.2.2.2.1
  have hS2 : ∀ v ∈ rest, am_wv v := fun v h => hS v (List.mem_append_right _ h)
  have hSA : ∀ v ∈ As, am_wv v := fun v h => hS v (List.mem_append_left _ (List.mem_reverse.mpr h))
  have hrun := vx_runSX (p := p) (l := G.1) (e := e) (R := R) (s := s) (m := mid) (args := args) (below := below) (meth := meth) (c := c) (H := H) (locs := locs) (cells := cells) (slots := slots) (Ts := []) (nL := M.2.2.1) (n := n) (As := As.map (am_tr G)) (rest := rest.map (am_tr G)) (g := F0 mid pc ls ((As.reverse ++ rest).map (am_tr G)))
    ⟨hI.1, hI.2.1, hI.2.2.1, hI.2.2.2.2.2.2.2.1, fun _ h => nomatch h⟩ (k hG hSA)
    (am_callBH hG hW hm hl hd1 hI.2.2.2.2.2.2.2.2.2.1 hI.2.2.2.2.2.2.2.2.2.2.1)
    ⟨am_blind _ _ _, am_pre hW hH rfl⟩ rfl (by simp [hn]) hL.1 (by simp) (am_wdSum h8 _ _ _ _) hd (by have := hI.2.2.2.2.2.2.2.2.2.2.2; omega)
  exact am_after hG hI hL hS2 ha hb hrun (fun _ _ h => h) (fun _ _ _ _ _ _ h1 h2 h3 h4 h5 h6 => am_out hh h2 h1 h3 h4 h5 h6)
/-- the handler that takes exception k at pc: it stores it, answers v -/
def am_hn (M : am_Me) (pc k : Nat) (v : Int) : Prop := ∃ (pre suf : List (Nat × Nat × Nat × Nat)) (x : Nat × Nat × Nat × Nat) (i ln : Nat), M.2.2.2.2.2 = pre ++ x :: suf ∧ (∀ z ∈ pre, k = 0 ∧ z.2.2.2 ≠ 0 ∧ Cond.classLink M.2.2.2.2.1 z.2.2.2 (am_en 1) ∈ lw_tbl) ∧ (x.1 ≤ pc ∧ pc < x.2.1) ∧ x.2.2.2 ≠ 0 ∧ Cond.classLink M.2.2.2.2.1 x.2.2.2 (am_en k) ∈ lw_tbl ∧ ((∃ q : Fin 4, decode M.2.1 x.2.2.1 = .ok (.astore_n q, 1) ∧ (q : Nat) = i ∧ ln = 1) ∨ (decode M.2.1 x.2.2.1 = .ok (.astore i, 2) ∧ ln = 2)) ∧ i < M.2.2.1 ∧ decode M.2.1 (x.2.2.1 + ln) = .ok (.iconst v, 1) ∧ decode M.2.1 (x.2.2.1 + ln + 1) = .ok (.ireturn, 1) ∧ M.2.2.2.1 = some .int ∧ i32 v ∧ k < 2
theorem am_hand {G : am_G} {d a b : Nat} {M : am_Me} {pc : Nat} {m' : am_M} {Q : am_Q} {p : Program} {e : Env} {R : Room} {s : State} {mid : MethodId} {args : Array Value} {below : List Frame} {meth : Method} {c : Code} {H : Heap} {locs : List Loc} {cells slots mc ms : Nat} {ls : Array Slot} {L : List (Option am_V)} {rest : List Value} {k : Nat} {q : Nat} {ce : Cell} {v : Int} (hG : am_ok G) (hnc : NC G) (hn : am_hn M pc k v) (hI : am_In G d a b M p R s mid meth c H locs cells slots mc ms) (hQ : Q (.inl (some (iV v))) m') (hH : am_HR G m' H) (hL : am_LR G ls M.2.2.1 L) (hce : H[q]? = some ce) (hv : ce.vm = .none) (hcl : s.vm.findClass (am_en k) = some ce.cls) :
    vx_W p G.1 e R s mid args below meth c H locs cells slots (am_Z G below args s mc ms Q) (F0 mid pc ls rest) q := by
  obtain ⟨pre, suf, x, i, ln, hs, hp, hx, h0, hl, hst, hi, hd1, hd2, hr, hv32, hk2⟩ := hn
  have hW := hI.2.2.2.2.2.2.2.2.1
  have hown := hI.2.2.2.2.2.2.2.1
  have htab := hI.2.2.2.2.2.2.1
  have hcast : (Cond.castable (am_en k) (am_en k)).before args s = true := by
    have e2 : k = 0 ∨ k = 1 := by omega
    rcases e2 with rfl | rfl
    · exact am_castW hW.alike hG.2.2.2.2.2.2.2.1
    · exact am_castW hW.alike hG.2.2.2.2.2.2.2.2
  have kX : X G d a b M (x.2.2.1 + ln) (List.replicate M.2.2.1 none) [] m' Q := Y_iconst hd1 hv32 (X_iret hd2 hr hQ)
  have kk : ∀ (ls' : Array Slot) (lv : List (Nat × Value)), lv_has ls' M.2.2.1 lv → W p G.1 e R s mid args below meth c H locs cells slots (am_Z G below args s mc ms Q) (F0 mid (x.2.2.1 + ln) ls' []) := fun ls' lv h9 =>
    kX hG p e R s mid args below meth c H locs cells slots mc ms ls' hI hH ⟨h9.1, by simp, h9.2.1, fun j w hj => by rw [List.getElem?_replicate] at hj; split at hj <;> simp at hj⟩ (fun _ h => nomatch h)
  refine vx_catch (own := M.2.2.2.2.1) (name := am_en k) (E := am_en k) hown (tableOf pre) ⟨x.1, x.2.1, x.2.2.1, x.2.2.2⟩ (tableOf suf) (by rw [htab, hs, List.map_append, List.map_cons]; rfl) ?_ ?_ h0 (am_word hG hW hl rfl _) hcast hce hv hcl ?_
  · intro z hz
    obtain ⟨y, hy, rfl⟩ := List.mem_map.mp hz
    obtain ⟨e0, e1, e2⟩ := hp y hy
    subst e0
    exact Or.inr ⟨e1, am_en 1, am_word hG hW e2 rfl _, va_Nc.moved hW.alike hnc⟩
  · show (decide (x.1 ≤ pc) && decide (pc < x.2.1)) = true
    simp [hx.1, hx.2]
  · rcases hst with ⟨q', hd0, hi', rfl⟩ | ⟨hd0, rfl⟩
    · exact lv_astore_n hI.1 hI.2.1 hd0 hi' (am_lv hL) hi rfl (fun ls' h9 => kk ls' _ h9)
    · exact lv_astore hI.1 hI.2.1 hd0 (am_lv hL) hi rfl (fun ls' h9 => kk ls' _ h9)
/-- an instance method, called by one that catches what it throws -/
theorem X_callVC {G : am_G} {d a b a' b' : Nat} {M M' : am_Me} {pc : Nat} {L : List (Option am_V)} {st rest As : List am_V} {m : am_M} {Q : am_Q} {idx n ci r : Nat} (hnc : NC G) (hd : decode M.2.1 pc = .ok (.invokevirtual idx, 3)) (hm : am_mi M' n ci) (hl : Cond.methodLink M.2.2.2.2.1 idx M'.1 ∈ lw_tbl) (hr : am_ob m r ci) (hst : st = As.reverse ++ rV (some r) :: rest) (hn : As.length = n) (h8 : (rest.map am_wd).sum ≤ 8) (hd1 : 1 ≤ d) (ha : a' ≤ a) (hb : b' ≤ b)
    (k : T G (d - 1) a' b' M' (rV (some r) :: As) m (am_go (fun r m' => X G d (a - a') (b - b') M (pc + 3) L (r.toList ++ rest) m' Q) (fun k m' => ∃ v, am_hn M pc k v ∧ Q (.inl (some (iV v))) m'))) : X G d a b M pc L st m Q := by
  intro hG p e R s mid args below meth c H locs cells slots mc ms ls hI hH hL hS
  subst hst
  have hW := hI.2.2.2.2.2.2.2.2.1
  have hS2 : ∀ v ∈ rest, am_wv v := fun v h => hS v (List.mem_append_right _ (List.mem_cons_of_mem _ h))
  have hSA : ∀ v ∈ (rV (some r) :: As : List am_V), am_wv v := fun v h => by
    rcases List.mem_cons.mp h with h | h
    · subst h; trivial
    · exact hS v (List.mem_append_left _ (List.mem_reverse.mpr h))
  obtain ⟨hmm, hin, hse, T9, N9, hc⟩ := hm
  have hP := am_one hH hr.2.2 hr.1
  rw [am_e_ob hr.2.1 (am_cls hc).1] at hP
  have hrun := vx_runV (p := p) (l := G.1) (e := e) (R := R) (s := s) (m := mid) (args := args) (below := below) (meth := meth) (c := c) (H := H) (locs := locs) (cells := cells) (slots := slots) (Ts := []) (nL := M.2.2.1) (n := n) (C := M'.1.cls) (b := am_ad G r) (As := As.map (am_tr G)) (rest := rest.map (am_tr G)) (g := F0 mid pc ls ((As.reverse ++ rV (some r) :: rest).map (am_tr G)))
    ⟨hI.1, hI.2.1, hI.2.2.1, hI.2.2.2.2.2.2.2.1, fun _ h => nomatch h⟩ (k hG hSA)
    ⟨am_callB hG hW hmm hl hd1 hI.2.2.2.2.2.2.2.2.2.1 hI.2.2.2.2.2.2.2.2.2.2.1, am_word hG hW hin rfl _, am_word hG hW hse rfl _⟩
    ⟨am_blind _ _ _, va_recv (am_K hG hW) hP (ci := ci) (q0 := 0) hc rfl, am_pre hW hH rfl⟩ rfl (by simp [hn]) hL.1 (by simp [am_tr]) (am_wdSum h8 _ _ _ _) hd (by have := hI.2.2.2.2.2.2.2.2.2.2.2; omega)
  exact am_after hG hI hL hS2 ha hb hrun (fun _ _ h => h) (fun _ _ _ _ _ _ ⟨v, h1, h1'⟩ h2 h3 h4 h5 h6 => am_hand hG hnc h1 h2 h1' h3 hL h4 h5 h6)
/-- what a wrapper makes of its method's end: an int, a long -/
def wi (c : Nat → Int → Prop) (Q : am_Q) : am_Q := fun r m' => (∃ z : Int, r = .inl (some (iV z)) ∧ am_arw m' 122 101 1 ∧ Q (.inl (some (iV 0))) (am_wI m' 122 0 z)) ∨ ∃ (k : Nat) (v : Int), r = .inr k ∧ c k v ∧ Q (.inl (some (iV v))) m'
def wl (c : Nat → Int → Prop) (Q : am_Q) : am_Q := fun r m' => (∃ z : Int, r = .inl (some (lV z)) ∧ am_arw m' 122 101 1 ∧ Q (.inl (some (iV 0))) (am_wI m' 122 0 z)) ∨ ∃ (k : Nat) (v : Int), r = .inr k ∧ c k v ∧ Q (.inl (some (iV v))) m'
def cNS (k : Nat) (v : Int) : Prop := k = 1 ∧ v = 1
def cIA (k : Nat) (v : Int) : Prop := k = 0 ∧ v = 1
def cBO (k : Nat) (v : Int) : Prop := (k = 1 ∧ v = 1) ∨ (k = 0 ∧ v = 2)
theorem cl_L_13 : Cond.classLink RL 13 (am_en 0) ∈ lw_tbl := List.mem_of_getElem? (i := 639) (by decide +kernel)
theorem cl_L_18 : Cond.classLink RL 18 (am_en 1) ∈ lw_tbl := List.mem_of_getElem? (i := 871) (by decide +kernel)
theorem th_election : am_msH ML_election 3 := ⟨List.cons_ne_nil _ _, List.mem_of_getElem? (i := 638) (by decide +kernel), List.mem_of_getElem? (i := 105) (by decide +kernel), ⟨by decide +kernel, by decide +kernel⟩, by decide +kernel, by decide, List.mem_of_getElem? (i := 637) (by decide +kernel)⟩
theorem hn_election_0 : am_hn ML_election 4 0 1 := ⟨[], [], (0, 9, 12, 13), 3, 1, rfl, (fun _ h => nomatch h), ⟨by decide, by decide⟩, by decide, cl_L_13, Or.inl ⟨3, dL_election_12, rfl, rfl⟩, by decide, dL_election_13, dL_election_14, rfl, by unfold i32; omega, by decide⟩
theorem w_election {G : am_G} {dp : Nat} {m : am_M} {Q : am_Q} {i1 : Int} (hnc : NC G) (hd : 1 ≤ dp) (hr : am_ob m 1 7) (k : ∀ Q1 : am_Q, (∀ r m1, wi cIA Q r m1 → Q1 r m1) → T G (dp - 1) 4 24 M8_election [rV (some 1), iV i1] m Q1) : T G dp 4 24 ML_election [rV (some 1), iV i1, rV (some 122)] m Q := by
  have hX : X G dp 4 24 ML_election 0 [some (rV (some 1)), some (iV i1), some (rV (some 122)), none] [] m Q := by
    refine X_aload_n dL_election_0 rfl rfl ?_
    refine Y_iconst dL_election_1 (by unfold i32; omega) ?_
    refine X_aload_n dL_election_2 rfl rfl ?_
    refine X_iload_n dL_election_3 rfl rfl ?_
    refine X_callVC (As := [iV i1]) (rest := [iV 0, rV (some 122)]) (a' := 4) (b' := 24) hnc dL_election_4 t8_election ml_L_7 hr rfl rfl (Nat.le_of_ble_eq_true rfl) hd (Nat.le_refl _) (Nat.le_refl _) (k _ fun r m1 hq => ?_)
    rcases hq with ⟨z, rfl, h1, h2⟩ | ⟨k, v, rfl, h1, h2⟩
    · refine X_i2l dL_election_7 ?_
      refine X_last dL_election_8 h1 (by omega) (by omega) ?_
      refine X_goto (tgt := 15) dL_election_9 (by decide) ?_
      refine Y_iconst dL_election_15 (by unfold i32; omega) ?_
      exact X_iret dL_election_16 rfl h2
    · obtain ⟨rfl, rfl⟩ := h1
      exact ⟨_, hn_election_0, h2⟩
  exact T_ofH (List.cons_ne_nil _ _) (by decide +kernel) rfl (Nat.le_of_ble_eq_true rfl) hX
theorem th_count : am_msH ML_count 3 := ⟨List.cons_ne_nil _ _, List.mem_of_getElem? (i := 870) (by decide +kernel), List.mem_of_getElem? (i := 105) (by decide +kernel), ⟨by decide +kernel, by decide +kernel⟩, by decide +kernel, by decide, List.mem_of_getElem? (i := 869) (by decide +kernel)⟩
theorem hn_count_1 : am_hn ML_count 4 1 1 := ⟨[], [], (0, 9, 12, 18), 3, 1, rfl, (fun _ h => nomatch h), ⟨by decide, by decide⟩, by decide, cl_L_18, Or.inl ⟨3, dL_count_12, rfl, rfl⟩, by decide, dL_count_13, dL_count_14, rfl, by unfold i32; omega, by decide⟩
theorem w_count {G : am_G} {dp : Nat} {m : am_M} {Q : am_Q} {i1 : Int} (hnc : NC G) (hd : 1 ≤ dp) (hr : am_ob m 1 7) (k : ∀ Q1 : am_Q, (∀ r m1, wi cNS Q r m1 → Q1 r m1) → T G (dp - 1) 4 24 M8_count [rV (some 1), iV i1] m Q1) : T G dp 4 24 ML_count [rV (some 1), iV i1, rV (some 122)] m Q := by
  have hX : X G dp 4 24 ML_count 0 [some (rV (some 1)), some (iV i1), some (rV (some 122)), none] [] m Q := by
    refine X_aload_n dL_count_0 rfl rfl ?_
    refine Y_iconst dL_count_1 (by unfold i32; omega) ?_
    refine X_aload_n dL_count_2 rfl rfl ?_
    refine X_iload_n dL_count_3 rfl rfl ?_
    refine X_callVC (As := [iV i1]) (rest := [iV 0, rV (some 122)]) (a' := 4) (b' := 24) hnc dL_count_4 t8_count ml_L_15 hr rfl rfl (Nat.le_of_ble_eq_true rfl) hd (Nat.le_refl _) (Nat.le_refl _) (k _ fun r m1 hq => ?_)
    rcases hq with ⟨z, rfl, h1, h2⟩ | ⟨k, v, rfl, h1, h2⟩
    · refine X_i2l dL_count_7 ?_
      refine X_last dL_count_8 h1 (by omega) (by omega) ?_
      refine X_goto (tgt := 15) dL_count_9 (by decide) ?_
      refine Y_iconst dL_count_15 (by unfold i32; omega) ?_
      exact X_iret dL_count_16 rfl h2
    · obtain ⟨rfl, rfl⟩ := h1
      exact ⟨_, hn_count_1, h2⟩
  exact T_ofH (List.cons_ne_nil _ _) (by decide +kernel) rfl (Nat.le_of_ble_eq_true rfl) hX
theorem th_race : am_msH ML_race 4 := ⟨List.cons_ne_nil _ _, List.mem_of_getElem? (i := 894) (by decide +kernel), List.mem_of_getElem? (i := 105) (by decide +kernel), ⟨by decide +kernel, by decide +kernel⟩, by decide +kernel, by decide, List.mem_of_getElem? (i := 893) (by decide +kernel)⟩
theorem hn_race_1 : am_hn ML_race 5 1 1 := ⟨[], [], (0, 10, 13, 18), 4, 2, rfl, (fun _ h => nomatch h), ⟨by decide, by decide⟩, by decide, cl_L_18, Or.inr ⟨dL_race_13, rfl⟩, by decide, dL_race_15, dL_race_16, rfl, by unfold i32; omega, by decide⟩
theorem w_race {G : am_G} {dp : Nat} {m : am_M} {Q : am_Q} {i1 i2 : Int} (hnc : NC G) (hd : 1 ≤ dp) (hr : am_ob m 1 7) (k : ∀ Q1 : am_Q, (∀ r m1, wi cNS Q r m1 → Q1 r m1) → T G (dp - 1) 4 24 M8_race [rV (some 1), iV i1, iV i2] m Q1) : T G dp 4 24 ML_race [rV (some 1), iV i1, iV i2, rV (some 122)] m Q := by
  have hX : X G dp 4 24 ML_race 0 [some (rV (some 1)), some (iV i1), some (iV i2), some (rV (some 122)), none] [] m Q := by
    refine X_aload_n dL_race_0 rfl rfl ?_
    refine Y_iconst dL_race_1 (by unfold i32; omega) ?_
    refine X_aload_n dL_race_2 rfl rfl ?_
    refine X_iload_n dL_race_3 rfl rfl ?_
    refine X_iload_n dL_race_4 rfl rfl ?_
    refine X_callVC (As := [iV i1, iV i2]) (rest := [iV 0, rV (some 122)]) (a' := 4) (b' := 24) hnc dL_race_5 t8_race ml_L_20 hr rfl rfl (Nat.le_of_ble_eq_true rfl) hd (Nat.le_refl _) (Nat.le_refl _) (k _ fun r m1 hq => ?_)
    rcases hq with ⟨z, rfl, h1, h2⟩ | ⟨k, v, rfl, h1, h2⟩
    · refine X_i2l dL_race_8 ?_
      refine X_last dL_race_9 h1 (by omega) (by omega) ?_
      refine X_goto (tgt := 17) dL_race_10 (by decide) ?_
      refine Y_iconst dL_race_17 (by unfold i32; omega) ?_
      exact X_iret dL_race_18 rfl h2
    · obtain ⟨rfl, rfl⟩ := h1
      exact ⟨_, hn_race_1, h2⟩
  exact T_ofH (List.cons_ne_nil _ _) (by decide +kernel) rfl (Nat.le_of_ble_eq_true rfl) hX
theorem th_risk : am_msH ML_risk 3 := ⟨List.cons_ne_nil _ _, List.mem_of_getElem? (i := 911) (by decide +kernel), List.mem_of_getElem? (i := 105) (by decide +kernel), ⟨by decide +kernel, by decide +kernel⟩, by decide +kernel, by decide, List.mem_of_getElem? (i := 910) (by decide +kernel)⟩
theorem hn_risk_1 : am_hn ML_risk 4 1 1 := ⟨[], [], (0, 8, 11, 18), 3, 1, rfl, (fun _ h => nomatch h), ⟨by decide, by decide⟩, by decide, cl_L_18, Or.inl ⟨3, dL_risk_11, rfl, rfl⟩, by decide, dL_risk_12, dL_risk_13, rfl, by unfold i32; omega, by decide⟩
theorem w_risk {G : am_G} {dp : Nat} {m : am_M} {Q : am_Q} {i1 : Int} (hnc : NC G) (hd : 1 ≤ dp) (hr : am_ob m 1 7) (k : ∀ Q1 : am_Q, (∀ r m1, wl cNS Q r m1 → Q1 r m1) → T G (dp - 1) 4 24 M8_risk [rV (some 1), iV i1] m Q1) : T G dp 4 24 ML_risk [rV (some 1), iV i1, rV (some 122)] m Q := by
  have hX : X G dp 4 24 ML_risk 0 [some (rV (some 1)), some (iV i1), some (rV (some 122)), none] [] m Q := by
    refine X_aload_n dL_risk_0 rfl rfl ?_
    refine Y_iconst dL_risk_1 (by unfold i32; omega) ?_
    refine X_aload_n dL_risk_2 rfl rfl ?_
    refine X_iload_n dL_risk_3 rfl rfl ?_
    refine X_callVC (As := [iV i1]) (rest := [iV 0, rV (some 122)]) (a' := 4) (b' := 24) hnc dL_risk_4 t8_risk ml_L_24 hr rfl rfl (Nat.le_of_ble_eq_true rfl) hd (Nat.le_refl _) (Nat.le_refl _) (k _ fun r m1 hq => ?_)
    rcases hq with ⟨z, rfl, h1, h2⟩ | ⟨k, v, rfl, h1, h2⟩
    · refine X_last dL_risk_7 h1 (by omega) (by omega) ?_
      refine X_goto (tgt := 14) dL_risk_8 (by decide) ?_
      refine Y_iconst dL_risk_14 (by unfold i32; omega) ?_
      exact X_iret dL_risk_15 rfl h2
    · obtain ⟨rfl, rfl⟩ := h1
      exact ⟨_, hn_risk_1, h2⟩
  exact T_ofH (List.cons_ne_nil _ _) (by decide +kernel) rfl (Nat.le_of_ble_eq_true rfl) hX
theorem th_riskOf : am_msH ML_riskOf 4 := ⟨List.cons_ne_nil _ _, List.mem_of_getElem? (i := 918) (by decide +kernel), List.mem_of_getElem? (i := 105) (by decide +kernel), ⟨by decide +kernel, by decide +kernel⟩, by decide +kernel, by decide, List.mem_of_getElem? (i := 917) (by decide +kernel)⟩
theorem hn_riskOf_1 : am_hn ML_riskOf 5 1 1 := ⟨[], [], (0, 9, 12, 18), 4, 2, rfl, (fun _ h => nomatch h), ⟨by decide, by decide⟩, by decide, cl_L_18, Or.inr ⟨dL_riskOf_12, rfl⟩, by decide, dL_riskOf_14, dL_riskOf_15, rfl, by unfold i32; omega, by decide⟩
theorem w_riskOf {G : am_G} {dp : Nat} {m : am_M} {Q : am_Q} {i1 i2 : Int} (hnc : NC G) (hd : 1 ≤ dp) (hr : am_ob m 1 7) (k : ∀ Q1 : am_Q, (∀ r m1, wl cNS Q r m1 → Q1 r m1) → T G (dp - 1) 4 24 M8_riskOf [rV (some 1), iV i1, iV i2] m Q1) : T G dp 4 24 ML_riskOf [rV (some 1), iV i1, iV i2, rV (some 122)] m Q := by
  have hX : X G dp 4 24 ML_riskOf 0 [some (rV (some 1)), some (iV i1), some (iV i2), some (rV (some 122)), none] [] m Q := by
    refine X_aload_n dL_riskOf_0 rfl rfl ?_
    refine Y_iconst dL_riskOf_1 (by unfold i32; omega) ?_
    refine X_aload_n dL_riskOf_2 rfl rfl ?_
    refine X_iload_n dL_riskOf_3 rfl rfl ?_
    refine X_iload_n dL_riskOf_4 rfl rfl ?_
    refine X_callVC (As := [iV i1, iV i2]) (rest := [iV 0, rV (some 122)]) (a' := 4) (b' := 24) hnc dL_riskOf_5 t8_riskOf ml_L_28 hr rfl rfl (Nat.le_of_ble_eq_true rfl) hd (Nat.le_refl _) (Nat.le_refl _) (k _ fun r m1 hq => ?_)
    rcases hq with ⟨z, rfl, h1, h2⟩ | ⟨k, v, rfl, h1, h2⟩
    · refine X_last dL_riskOf_8 h1 (by omega) (by omega) ?_
      refine X_goto (tgt := 16) dL_riskOf_9 (by decide) ?_
      refine Y_iconst dL_riskOf_16 (by unfold i32; omega) ?_
      exact X_iret dL_riskOf_17 rfl h2
    · obtain ⟨rfl, rfl⟩ := h1
      exact ⟨_, hn_riskOf_1, h2⟩
  exact T_ofH (List.cons_ne_nil _ _) (by decide +kernel) rfl (Nat.le_of_ble_eq_true rfl) hX
theorem th_worst : am_msH ML_worst 3 := ⟨List.cons_ne_nil _ _, List.mem_of_getElem? (i := 930) (by decide +kernel), List.mem_of_getElem? (i := 105) (by decide +kernel), ⟨by decide +kernel, by decide +kernel⟩, by decide +kernel, by decide, List.mem_of_getElem? (i := 929) (by decide +kernel)⟩
theorem hn_worst_1 : am_hn ML_worst 4 1 1 := ⟨[], [], (0, 9, 12, 18), 3, 1, rfl, (fun _ h => nomatch h), ⟨by decide, by decide⟩, by decide, cl_L_18, Or.inl ⟨3, dL_worst_12, rfl, rfl⟩, by decide, dL_worst_13, dL_worst_14, rfl, by unfold i32; omega, by decide⟩
theorem w_worst {G : am_G} {dp : Nat} {m : am_M} {Q : am_Q} {i1 : Int} (hnc : NC G) (hd : 1 ≤ dp) (hr : am_ob m 1 7) (k : ∀ Q1 : am_Q, (∀ r m1, wi cNS Q r m1 → Q1 r m1) → T G (dp - 1) 4 24 M8_worst [rV (some 1), iV i1] m Q1) : T G dp 4 24 ML_worst [rV (some 1), iV i1, rV (some 122)] m Q := by
  have hX : X G dp 4 24 ML_worst 0 [some (rV (some 1)), some (iV i1), some (rV (some 122)), none] [] m Q := by
    refine X_aload_n dL_worst_0 rfl rfl ?_
    refine Y_iconst dL_worst_1 (by unfold i32; omega) ?_
    refine X_aload_n dL_worst_2 rfl rfl ?_
    refine X_iload_n dL_worst_3 rfl rfl ?_
    refine X_callVC (As := [iV i1]) (rest := [iV 0, rV (some 122)]) (a' := 4) (b' := 24) hnc dL_worst_4 t8_worst ml_L_32 hr rfl rfl (Nat.le_of_ble_eq_true rfl) hd (Nat.le_refl _) (Nat.le_refl _) (k _ fun r m1 hq => ?_)
    rcases hq with ⟨z, rfl, h1, h2⟩ | ⟨k, v, rfl, h1, h2⟩
    · refine X_i2l dL_worst_7 ?_
      refine X_last dL_worst_8 h1 (by omega) (by omega) ?_
      refine X_goto (tgt := 15) dL_worst_9 (by decide) ?_
      refine Y_iconst dL_worst_15 (by unfold i32; omega) ?_
      exact X_iret dL_worst_16 rfl h2
    · obtain ⟨rfl, rfl⟩ := h1
      exact ⟨_, hn_worst_1, h2⟩
  exact T_ofH (List.cons_ne_nil _ _) (by decide +kernel) rfl (Nat.le_of_ble_eq_true rfl) hX
theorem th_chance : am_msH ML_chance 4 := ⟨List.cons_ne_nil _ _, List.mem_of_getElem? (i := 941) (by decide +kernel), List.mem_of_getElem? (i := 105) (by decide +kernel), ⟨by decide +kernel, by decide +kernel⟩, by decide +kernel, by decide, List.mem_of_getElem? (i := 940) (by decide +kernel)⟩
theorem hn_chance_1 : am_hn ML_chance 5 1 1 := ⟨[], [(0, 9, 16, 13)], (0, 9, 12, 18), 4, 2, rfl, (fun _ h => nomatch h), ⟨by decide, by decide⟩, by decide, cl_L_18, Or.inr ⟨dL_chance_12, rfl⟩, by decide, dL_chance_14, dL_chance_15, rfl, by unfold i32; omega, by decide⟩
theorem hn_chance_0 : am_hn ML_chance 5 0 2 := ⟨[(0, 9, 12, 18)], [], (0, 9, 16, 13), 4, 2, rfl, (fun z hz => by rw [List.mem_singleton.mp hz]; exact ⟨rfl, by decide, cl_L_18⟩), ⟨by decide, by decide⟩, by decide, cl_L_13, Or.inr ⟨dL_chance_16, rfl⟩, by decide, dL_chance_18, dL_chance_19, rfl, by unfold i32; omega, by decide⟩
theorem w_chance {G : am_G} {dp : Nat} {m : am_M} {Q : am_Q} {i1 i2 : Int} (hnc : NC G) (hd : 1 ≤ dp) (hr : am_ob m 1 7) (k : ∀ Q1 : am_Q, (∀ r m1, wl cBO Q r m1 → Q1 r m1) → T G (dp - 1) 4 24 M8_chance [rV (some 1), iV i1, iV i2] m Q1) : T G dp 4 24 ML_chance [rV (some 1), iV i1, iV i2, rV (some 122)] m Q := by
  have hX : X G dp 4 24 ML_chance 0 [some (rV (some 1)), some (iV i1), some (iV i2), some (rV (some 122)), none] [] m Q := by
    refine X_aload_n dL_chance_0 rfl rfl ?_
    refine Y_iconst dL_chance_1 (by unfold i32; omega) ?_
    refine X_aload_n dL_chance_2 rfl rfl ?_
    refine X_iload_n dL_chance_3 rfl rfl ?_
    refine X_iload_n dL_chance_4 rfl rfl ?_
    refine X_callVC (As := [iV i1, iV i2]) (rest := [iV 0, rV (some 122)]) (a' := 4) (b' := 24) hnc dL_chance_5 t8_chance ml_L_35 hr rfl rfl (Nat.le_of_ble_eq_true rfl) hd (Nat.le_refl _) (Nat.le_refl _) (k _ fun r m1 hq => ?_)
    rcases hq with ⟨z, rfl, h1, h2⟩ | ⟨k, v, rfl, h1, h2⟩
    · refine X_last dL_chance_8 h1 (by omega) (by omega) ?_
      refine X_goto (tgt := 20) dL_chance_9 (by decide) ?_
      refine Y_iconst dL_chance_20 (by unfold i32; omega) ?_
      exact X_iret dL_chance_21 rfl h2
    · rcases h1 with ⟨rfl, rfl⟩ | ⟨rfl, rfl⟩
      · exact ⟨_, hn_chance_1, h2⟩
      · exact ⟨_, hn_chance_0, h2⟩
  exact T_ofH (List.cons_ne_nil _ _) (by decide +kernel) rfl (Nat.le_of_ble_eq_true rfl) hX
theorem th_enough : am_msH ML_enough 3 := ⟨List.cons_ne_nil _ _, List.mem_of_getElem? (i := 958) (by decide +kernel), List.mem_of_getElem? (i := 105) (by decide +kernel), ⟨by decide +kernel, by decide +kernel⟩, by decide +kernel, by decide, List.mem_of_getElem? (i := 957) (by decide +kernel)⟩
theorem hn_enough_1 : am_hn ML_enough 4 1 1 := ⟨[], [], (0, 9, 12, 18), 3, 1, rfl, (fun _ h => nomatch h), ⟨by decide, by decide⟩, by decide, cl_L_18, Or.inl ⟨3, dL_enough_12, rfl, rfl⟩, by decide, dL_enough_13, dL_enough_14, rfl, by unfold i32; omega, by decide⟩
theorem w_enough {G : am_G} {dp : Nat} {m : am_M} {Q : am_Q} {i1 : Int} (hnc : NC G) (hd : 1 ≤ dp) (hr : am_ob m 1 7) (k : ∀ Q1 : am_Q, (∀ r m1, wi cNS Q r m1 → Q1 r m1) → T G (dp - 1) 4 24 M8_enough [rV (some 1), iV i1] m Q1) : T G dp 4 24 ML_enough [rV (some 1), iV i1, rV (some 122)] m Q := by
  have hX : X G dp 4 24 ML_enough 0 [some (rV (some 1)), some (iV i1), some (rV (some 122)), none] [] m Q := by
    refine X_aload_n dL_enough_0 rfl rfl ?_
    refine Y_iconst dL_enough_1 (by unfold i32; omega) ?_
    refine X_aload_n dL_enough_2 rfl rfl ?_
    refine X_iload_n dL_enough_3 rfl rfl ?_
    refine X_callVC (As := [iV i1]) (rest := [iV 0, rV (some 122)]) (a' := 4) (b' := 24) hnc dL_enough_4 t8_enough ml_L_38 hr rfl rfl (Nat.le_of_ble_eq_true rfl) hd (Nat.le_refl _) (Nat.le_refl _) (k _ fun r m1 hq => ?_)
    rcases hq with ⟨z, rfl, h1, h2⟩ | ⟨k, v, rfl, h1, h2⟩
    · refine X_i2l dL_enough_7 ?_
      refine X_last dL_enough_8 h1 (by omega) (by omega) ?_
      refine X_goto (tgt := 15) dL_enough_9 (by decide) ?_
      refine Y_iconst dL_enough_15 (by unfold i32; omega) ?_
      exact X_iret dL_enough_16 rfl h2
    · obtain ⟨rfl, rfl⟩ := h1
      exact ⟨_, hn_enough_1, h2⟩
  exact T_ofH (List.cons_ne_nil _ _) (by decide +kernel) rfl (Nat.le_of_ble_eq_true rfl) hX
theorem th_flips : am_msH ML_flips 4 := ⟨List.cons_ne_nil _ _, List.mem_of_getElem? (i := 966) (by decide +kernel), List.mem_of_getElem? (i := 105) (by decide +kernel), ⟨by decide +kernel, by decide +kernel⟩, by decide +kernel, by decide, List.mem_of_getElem? (i := 965) (by decide +kernel)⟩
theorem hn_flips_1 : am_hn ML_flips 5 1 1 := ⟨[], [], (0, 10, 13, 18), 4, 2, rfl, (fun _ h => nomatch h), ⟨by decide, by decide⟩, by decide, cl_L_18, Or.inr ⟨dL_flips_13, rfl⟩, by decide, dL_flips_15, dL_flips_16, rfl, by unfold i32; omega, by decide⟩
theorem w_flips {G : am_G} {dp : Nat} {m : am_M} {Q : am_Q} {i1 i2 : Int} (hnc : NC G) (hd : 1 ≤ dp) (hr : am_ob m 1 7) (k : ∀ Q1 : am_Q, (∀ r m1, wi cNS Q r m1 → Q1 r m1) → T G (dp - 1) 4 24 M8_flips [rV (some 1), iV i1, iV i2] m Q1) : T G dp 4 24 ML_flips [rV (some 1), iV i1, iV i2, rV (some 122)] m Q := by
  have hX : X G dp 4 24 ML_flips 0 [some (rV (some 1)), some (iV i1), some (iV i2), some (rV (some 122)), none] [] m Q := by
    refine X_aload_n dL_flips_0 rfl rfl ?_
    refine Y_iconst dL_flips_1 (by unfold i32; omega) ?_
    refine X_aload_n dL_flips_2 rfl rfl ?_
    refine X_iload_n dL_flips_3 rfl rfl ?_
    refine X_iload_n dL_flips_4 rfl rfl ?_
    refine X_callVC (As := [iV i1, iV i2]) (rest := [iV 0, rV (some 122)]) (a' := 4) (b' := 24) hnc dL_flips_5 t8_flips ml_L_41 hr rfl rfl (Nat.le_of_ble_eq_true rfl) hd (Nat.le_refl _) (Nat.le_refl _) (k _ fun r m1 hq => ?_)
    rcases hq with ⟨z, rfl, h1, h2⟩ | ⟨k, v, rfl, h1, h2⟩
    · refine X_i2l dL_flips_8 ?_
      refine X_last dL_flips_9 h1 (by omega) (by omega) ?_
      refine X_goto (tgt := 17) dL_flips_10 (by decide) ?_
      refine Y_iconst dL_flips_17 (by unfold i32; omega) ?_
      exact X_iret dL_flips_18 rfl h2
    · obtain ⟨rfl, rfl⟩ := h1
      exact ⟨_, hn_flips_1, h2⟩
  exact T_ofH (List.cons_ne_nil _ _) (by decide +kernel) rfl (Nat.le_of_ble_eq_true rfl) hX
theorem th_votes : am_msH ML_votes 5 := ⟨List.cons_ne_nil _ _, List.mem_of_getElem? (i := 978) (by decide +kernel), List.mem_of_getElem? (i := 105) (by decide +kernel), ⟨by decide +kernel, by decide +kernel⟩, by decide +kernel, by decide, List.mem_of_getElem? (i := 977) (by decide +kernel)⟩
theorem hn_votes_1 : am_hn ML_votes 7 1 1 := ⟨[], [], (0, 12, 15, 18), 5, 2, rfl, (fun _ h => nomatch h), ⟨by decide, by decide⟩, by decide, cl_L_18, Or.inr ⟨dL_votes_15, rfl⟩, by decide, dL_votes_17, dL_votes_18, rfl, by unfold i32; omega, by decide⟩
theorem w_votes {G : am_G} {dp : Nat} {m : am_M} {Q : am_Q} {i1 i2 i3 : Int} (hnc : NC G) (hd : 1 ≤ dp) (hr : am_ob m 1 7) (k : ∀ Q1 : am_Q, (∀ r m1, wi cNS Q r m1 → Q1 r m1) → T G (dp - 1) 4 24 M8_votes [rV (some 1), iV i1, iV i2, iV i3] m Q1) : T G dp 4 24 ML_votes [rV (some 1), iV i1, iV i2, iV i3, rV (some 122)] m Q := by
  have hX : X G dp 4 24 ML_votes 0 [some (rV (some 1)), some (iV i1), some (iV i2), some (iV i3), some (rV (some 122)), none] [] m Q := by
    refine X_aload dL_votes_0 rfl ?_
    refine Y_iconst dL_votes_2 (by unfold i32; omega) ?_
    refine X_aload_n dL_votes_3 rfl rfl ?_
    refine X_iload_n dL_votes_4 rfl rfl ?_
    refine X_iload_n dL_votes_5 rfl rfl ?_
    refine X_iload_n dL_votes_6 rfl rfl ?_
    refine X_callVC (As := [iV i1, iV i2, iV i3]) (rest := [iV 0, rV (some 122)]) (a' := 4) (b' := 24) hnc dL_votes_7 t8_votes ml_L_44 hr rfl rfl (Nat.le_of_ble_eq_true rfl) hd (Nat.le_refl _) (Nat.le_refl _) (k _ fun r m1 hq => ?_)
    rcases hq with ⟨z, rfl, h1, h2⟩ | ⟨k, v, rfl, h1, h2⟩
    · refine X_i2l dL_votes_10 ?_
      refine X_last dL_votes_11 h1 (by omega) (by omega) ?_
      refine X_goto (tgt := 19) dL_votes_12 (by decide) ?_
      refine Y_iconst dL_votes_19 (by unfold i32; omega) ?_
      exact X_iret dL_votes_20 rfl h2
    · obtain ⟨rfl, rfl⟩ := h1
      exact ⟨_, hn_votes_1, h2⟩
  exact T_ofH (List.cons_ne_nil _ _) (by decide +kernel) rfl (Nat.le_of_ble_eq_true rfl) hX
theorem th_ballot : am_msH ML_ballot 5 := ⟨List.cons_ne_nil _ _, List.mem_of_getElem? (i := 985) (by decide +kernel), List.mem_of_getElem? (i := 105) (by decide +kernel), ⟨by decide +kernel, by decide +kernel⟩, by decide +kernel, by decide, List.mem_of_getElem? (i := 984) (by decide +kernel)⟩
theorem hn_ballot_1 : am_hn ML_ballot 7 1 1 := ⟨[], [], (0, 12, 15, 18), 5, 2, rfl, (fun _ h => nomatch h), ⟨by decide, by decide⟩, by decide, cl_L_18, Or.inr ⟨dL_ballot_15, rfl⟩, by decide, dL_ballot_17, dL_ballot_18, rfl, by unfold i32; omega, by decide⟩
theorem w_ballot {G : am_G} {dp : Nat} {m : am_M} {Q : am_Q} {i1 i2 i3 : Int} (hnc : NC G) (hd : 1 ≤ dp) (hr : am_ob m 1 7) (k : ∀ Q1 : am_Q, (∀ r m1, wi cNS Q r m1 → Q1 r m1) → T G (dp - 1) 4 24 M8_ballot [rV (some 1), iV i1, iV i2, iV i3] m Q1) : T G dp 4 24 ML_ballot [rV (some 1), iV i1, iV i2, iV i3, rV (some 122)] m Q := by
  have hX : X G dp 4 24 ML_ballot 0 [some (rV (some 1)), some (iV i1), some (iV i2), some (iV i3), some (rV (some 122)), none] [] m Q := by
    refine X_aload dL_ballot_0 rfl ?_
    refine Y_iconst dL_ballot_2 (by unfold i32; omega) ?_
    refine X_aload_n dL_ballot_3 rfl rfl ?_
    refine X_iload_n dL_ballot_4 rfl rfl ?_
    refine X_iload_n dL_ballot_5 rfl rfl ?_
    refine X_iload_n dL_ballot_6 rfl rfl ?_
    refine X_callVC (As := [iV i1, iV i2, iV i3]) (rest := [iV 0, rV (some 122)]) (a' := 4) (b' := 24) hnc dL_ballot_7 t8_ballot ml_L_48 hr rfl rfl (Nat.le_of_ble_eq_true rfl) hd (Nat.le_refl _) (Nat.le_refl _) (k _ fun r m1 hq => ?_)
    rcases hq with ⟨z, rfl, h1, h2⟩ | ⟨k, v, rfl, h1, h2⟩
    · refine X_i2l dL_ballot_10 ?_
      refine X_last dL_ballot_11 h1 (by omega) (by omega) ?_
      refine X_goto (tgt := 19) dL_ballot_12 (by decide) ?_
      refine Y_iconst dL_ballot_19 (by unfold i32; omega) ?_
      exact X_iret dL_ballot_20 rfl h2
    · obtain ⟨rfl, rfl⟩ := h1
      exact ⟨_, hn_ballot_1, h2⟩
  exact T_ofH (List.cons_ne_nil _ _) (by decide +kernel) rfl (Nat.le_of_ble_eq_true rfl) hX
theorem th_drawn : am_msH ML_drawn 3 := ⟨List.cons_ne_nil _ _, List.mem_of_getElem? (i := 998) (by decide +kernel), List.mem_of_getElem? (i := 105) (by decide +kernel), ⟨by decide +kernel, by decide +kernel⟩, by decide +kernel, by decide, List.mem_of_getElem? (i := 997) (by decide +kernel)⟩
theorem hn_drawn_1 : am_hn ML_drawn 4 1 1 := ⟨[], [], (0, 9, 12, 18), 3, 1, rfl, (fun _ h => nomatch h), ⟨by decide, by decide⟩, by decide, cl_L_18, Or.inl ⟨3, dL_drawn_12, rfl, rfl⟩, by decide, dL_drawn_13, dL_drawn_14, rfl, by unfold i32; omega, by decide⟩
theorem w_drawn {G : am_G} {dp : Nat} {m : am_M} {Q : am_Q} {i1 : Int} (hnc : NC G) (hd : 1 ≤ dp) (hr : am_ob m 1 7) (k : ∀ Q1 : am_Q, (∀ r m1, wi cNS Q r m1 → Q1 r m1) → T G (dp - 1) 4 24 M8_drawn [rV (some 1), iV i1] m Q1) : T G dp 4 24 ML_drawn [rV (some 1), iV i1, rV (some 122)] m Q := by
  have hX : X G dp 4 24 ML_drawn 0 [some (rV (some 1)), some (iV i1), some (rV (some 122)), none] [] m Q := by
    refine X_aload_n dL_drawn_0 rfl rfl ?_
    refine Y_iconst dL_drawn_1 (by unfold i32; omega) ?_
    refine X_aload_n dL_drawn_2 rfl rfl ?_
    refine X_iload_n dL_drawn_3 rfl rfl ?_
    refine X_callVC (As := [iV i1]) (rest := [iV 0, rV (some 122)]) (a' := 4) (b' := 24) hnc dL_drawn_4 t8_drawn ml_L_52 hr rfl rfl (Nat.le_of_ble_eq_true rfl) hd (Nat.le_refl _) (Nat.le_refl _) (k _ fun r m1 hq => ?_)
    rcases hq with ⟨z, rfl, h1, h2⟩ | ⟨k, v, rfl, h1, h2⟩
    · refine X_i2l dL_drawn_7 ?_
      refine X_last dL_drawn_8 h1 (by omega) (by omega) ?_
      refine X_goto (tgt := 15) dL_drawn_9 (by decide) ?_
      refine Y_iconst dL_drawn_15 (by unfold i32; omega) ?_
      exact X_iret dL_drawn_16 rfl h2
    · obtain ⟨rfl, rfl⟩ := h1
      exact ⟨_, hn_drawn_1, h2⟩
  exact T_ofH (List.cons_ne_nil _ _) (by decide +kernel) rfl (Nat.le_of_ble_eq_true rfl) hX
theorem th_times : am_msH ML_times 3 := ⟨List.cons_ne_nil _ _, List.mem_of_getElem? (i := 1006) (by decide +kernel), List.mem_of_getElem? (i := 105) (by decide +kernel), ⟨by decide +kernel, by decide +kernel⟩, by decide +kernel, by decide, List.mem_of_getElem? (i := 1005) (by decide +kernel)⟩
theorem hn_times_1 : am_hn ML_times 4 1 1 := ⟨[], [], (0, 9, 12, 18), 3, 1, rfl, (fun _ h => nomatch h), ⟨by decide, by decide⟩, by decide, cl_L_18, Or.inl ⟨3, dL_times_12, rfl, rfl⟩, by decide, dL_times_13, dL_times_14, rfl, by unfold i32; omega, by decide⟩
theorem w_times {G : am_G} {dp : Nat} {m : am_M} {Q : am_Q} {i1 : Int} (hnc : NC G) (hd : 1 ≤ dp) (hr : am_ob m 1 7) (k : ∀ Q1 : am_Q, (∀ r m1, wi cNS Q r m1 → Q1 r m1) → T G (dp - 1) 4 24 M8_times [rV (some 1), iV i1] m Q1) : T G dp 4 24 ML_times [rV (some 1), iV i1, rV (some 122)] m Q := by
  have hX : X G dp 4 24 ML_times 0 [some (rV (some 1)), some (iV i1), some (rV (some 122)), none] [] m Q := by
    refine X_aload_n dL_times_0 rfl rfl ?_
    refine Y_iconst dL_times_1 (by unfold i32; omega) ?_
    refine X_aload_n dL_times_2 rfl rfl ?_
    refine X_iload_n dL_times_3 rfl rfl ?_
    refine X_callVC (As := [iV i1]) (rest := [iV 0, rV (some 122)]) (a' := 4) (b' := 24) hnc dL_times_4 t8_times ml_L_55 hr rfl rfl (Nat.le_of_ble_eq_true rfl) hd (Nat.le_refl _) (Nat.le_refl _) (k _ fun r m1 hq => ?_)
    rcases hq with ⟨z, rfl, h1, h2⟩ | ⟨k, v, rfl, h1, h2⟩
    · refine X_i2l dL_times_7 ?_
      refine X_last dL_times_8 h1 (by omega) (by omega) ?_
      refine X_goto (tgt := 15) dL_times_9 (by decide) ?_
      refine Y_iconst dL_times_15 (by unfold i32; omega) ?_
      exact X_iret dL_times_16 rfl h2
    · obtain ⟨rfl, rfl⟩ := h1
      exact ⟨_, hn_times_1, h2⟩
  exact T_ofH (List.cons_ne_nil _ _) (by decide +kernel) rfl (Nat.le_of_ble_eq_true rfl) hX
theorem th_mistakes : am_msH ML_mistakes 4 := ⟨List.cons_ne_nil _ _, List.mem_of_getElem? (i := 1013) (by decide +kernel), List.mem_of_getElem? (i := 105) (by decide +kernel), ⟨by decide +kernel, by decide +kernel⟩, by decide +kernel, by decide, List.mem_of_getElem? (i := 1012) (by decide +kernel)⟩
theorem hn_mistakes_1 : am_hn ML_mistakes 5 1 1 := ⟨[], [], (0, 10, 13, 18), 4, 2, rfl, (fun _ h => nomatch h), ⟨by decide, by decide⟩, by decide, cl_L_18, Or.inr ⟨dL_mistakes_13, rfl⟩, by decide, dL_mistakes_15, dL_mistakes_16, rfl, by unfold i32; omega, by decide⟩
theorem w_mistakes {G : am_G} {dp : Nat} {m : am_M} {Q : am_Q} {i1 i2 : Int} (hnc : NC G) (hd : 1 ≤ dp) (hr : am_ob m 1 7) (k : ∀ Q1 : am_Q, (∀ r m1, wi cNS Q r m1 → Q1 r m1) → T G (dp - 1) 4 24 M8_mistakes [rV (some 1), iV i1, iV i2] m Q1) : T G dp 4 24 ML_mistakes [rV (some 1), iV i1, iV i2, rV (some 122)] m Q := by
  have hX : X G dp 4 24 ML_mistakes 0 [some (rV (some 1)), some (iV i1), some (iV i2), some (rV (some 122)), none] [] m Q := by
    refine X_aload_n dL_mistakes_0 rfl rfl ?_
    refine Y_iconst dL_mistakes_1 (by unfold i32; omega) ?_
    refine X_aload_n dL_mistakes_2 rfl rfl ?_
    refine X_iload_n dL_mistakes_3 rfl rfl ?_
    refine X_iload_n dL_mistakes_4 rfl rfl ?_
    refine X_callVC (As := [iV i1, iV i2]) (rest := [iV 0, rV (some 122)]) (a' := 4) (b' := 24) hnc dL_mistakes_5 t8_mistakes ml_L_58 hr rfl rfl (Nat.le_of_ble_eq_true rfl) hd (Nat.le_refl _) (Nat.le_refl _) (k _ fun r m1 hq => ?_)
    rcases hq with ⟨z, rfl, h1, h2⟩ | ⟨k, v, rfl, h1, h2⟩
    · refine X_i2l dL_mistakes_8 ?_
      refine X_last dL_mistakes_9 h1 (by omega) (by omega) ?_
      refine X_goto (tgt := 17) dL_mistakes_10 (by decide) ?_
      refine Y_iconst dL_mistakes_17 (by unfold i32; omega) ?_
      exact X_iret dL_mistakes_18 rfl h2
    · obtain ⟨rfl, rfl⟩ := h1
      exact ⟨_, hn_mistakes_1, h2⟩
  exact T_ofH (List.cons_ne_nil _ _) (by decide +kernel) rfl (Nat.le_of_ble_eq_true rfl) hX
theorem th_riskAt : am_msH ML_riskAt 4 := ⟨List.cons_ne_nil _ _, List.mem_of_getElem? (i := 1021) (by decide +kernel), List.mem_of_getElem? (i := 105) (by decide +kernel), ⟨by decide +kernel, by decide +kernel⟩, by decide +kernel, by decide, List.mem_of_getElem? (i := 1020) (by decide +kernel)⟩
theorem hn_riskAt_1 : am_hn ML_riskAt 5 1 1 := ⟨[], [], (0, 9, 12, 18), 4, 2, rfl, (fun _ h => nomatch h), ⟨by decide, by decide⟩, by decide, cl_L_18, Or.inr ⟨dL_riskAt_12, rfl⟩, by decide, dL_riskAt_14, dL_riskAt_15, rfl, by unfold i32; omega, by decide⟩
theorem w_riskAt {G : am_G} {dp : Nat} {m : am_M} {Q : am_Q} {i1 i2 : Int} (hnc : NC G) (hd : 1 ≤ dp) (hr : am_ob m 1 7) (k : ∀ Q1 : am_Q, (∀ r m1, wl cNS Q r m1 → Q1 r m1) → T G (dp - 1) 4 24 M8_riskAt [rV (some 1), iV i1, iV i2] m Q1) : T G dp 4 24 ML_riskAt [rV (some 1), iV i1, iV i2, rV (some 122)] m Q := by
  have hX : X G dp 4 24 ML_riskAt 0 [some (rV (some 1)), some (iV i1), some (iV i2), some (rV (some 122)), none] [] m Q := by
    refine X_aload_n dL_riskAt_0 rfl rfl ?_
    refine Y_iconst dL_riskAt_1 (by unfold i32; omega) ?_
    refine X_aload_n dL_riskAt_2 rfl rfl ?_
    refine X_iload_n dL_riskAt_3 rfl rfl ?_
    refine X_iload_n dL_riskAt_4 rfl rfl ?_
    refine X_callVC (As := [iV i1, iV i2]) (rest := [iV 0, rV (some 122)]) (a' := 4) (b' := 24) hnc dL_riskAt_5 t8_riskAt ml_L_61 hr rfl rfl (Nat.le_of_ble_eq_true rfl) hd (Nat.le_refl _) (Nat.le_refl _) (k _ fun r m1 hq => ?_)
    rcases hq with ⟨z, rfl, h1, h2⟩ | ⟨k, v, rfl, h1, h2⟩
    · refine X_last dL_riskAt_8 h1 (by omega) (by omega) ?_
      refine X_goto (tgt := 16) dL_riskAt_9 (by decide) ?_
      refine Y_iconst dL_riskAt_16 (by unfold i32; omega) ?_
      exact X_iret dL_riskAt_17 rfl h2
    · obtain ⟨rfl, rfl⟩ := h1
      exact ⟨_, hn_riskAt_1, h2⟩
  exact T_ofH (List.cons_ne_nil _ _) (by decide +kernel) rfl (Nat.le_of_ble_eq_true rfl) hX
theorem th_draw : am_msH ML_draw 3 := ⟨List.cons_ne_nil _ _, List.mem_of_getElem? (i := 1029) (by decide +kernel), List.mem_of_getElem? (i := 105) (by decide +kernel), ⟨by decide +kernel, by decide +kernel⟩, by decide +kernel, by decide, List.mem_of_getElem? (i := 1028) (by decide +kernel)⟩
theorem hn_draw_0 : am_hn ML_draw 4 0 1 := ⟨[], [], (0, 9, 12, 13), 3, 1, rfl, (fun _ h => nomatch h), ⟨by decide, by decide⟩, by decide, cl_L_13, Or.inl ⟨3, dL_draw_12, rfl, rfl⟩, by decide, dL_draw_13, dL_draw_14, rfl, by unfold i32; omega, by decide⟩
theorem w_draw {G : am_G} {dp : Nat} {m : am_M} {Q : am_Q} {i1 : Int} (hnc : NC G) (hd : 1 ≤ dp) (hr : am_ob m 1 7) (k : ∀ Q1 : am_Q, (∀ r m1, wi cIA Q r m1 → Q1 r m1) → T G (dp - 1) 4 24 M8_draw [rV (some 1), iV i1] m Q1) : T G dp 4 24 ML_draw [rV (some 1), iV i1, rV (some 122)] m Q := by
  have hX : X G dp 4 24 ML_draw 0 [some (rV (some 1)), some (iV i1), some (rV (some 122)), none] [] m Q := by
    refine X_aload_n dL_draw_0 rfl rfl ?_
    refine Y_iconst dL_draw_1 (by unfold i32; omega) ?_
    refine X_aload_n dL_draw_2 rfl rfl ?_
    refine X_iload_n dL_draw_3 rfl rfl ?_
    refine X_callVC (As := [iV i1]) (rest := [iV 0, rV (some 122)]) (a' := 4) (b' := 24) hnc dL_draw_4 t8_draw ml_L_64 hr rfl rfl (Nat.le_of_ble_eq_true rfl) hd (Nat.le_refl _) (Nat.le_refl _) (k _ fun r m1 hq => ?_)
    rcases hq with ⟨z, rfl, h1, h2⟩ | ⟨k, v, rfl, h1, h2⟩
    · refine X_i2l dL_draw_7 ?_
      refine X_last dL_draw_8 h1 (by omega) (by omega) ?_
      refine X_goto (tgt := 15) dL_draw_9 (by decide) ?_
      refine Y_iconst dL_draw_15 (by unfold i32; omega) ?_
      exact X_iret dL_draw_16 rfl h2
    · obtain ⟨rfl, rfl⟩ := h1
      exact ⟨_, hn_draw_0, h2⟩
  exact T_ofH (List.cons_ne_nil _ _) (by decide +kernel) rfl (Nat.le_of_ble_eq_true rfl) hX
theorem th_next : am_msH ML_next 4 := ⟨List.cons_ne_nil _ _, List.mem_of_getElem? (i := 1045) (by decide +kernel), List.mem_of_getElem? (i := 105) (by decide +kernel), ⟨by decide +kernel, by decide +kernel⟩, by decide +kernel, by decide, List.mem_of_getElem? (i := 1044) (by decide +kernel)⟩
theorem hn_next_1 : am_hn ML_next 5 1 1 := ⟨[], [], (0, 9, 12, 18), 4, 2, rfl, (fun _ h => nomatch h), ⟨by decide, by decide⟩, by decide, cl_L_18, Or.inr ⟨dL_next_12, rfl⟩, by decide, dL_next_14, dL_next_15, rfl, by unfold i32; omega, by decide⟩
theorem w_next {G : am_G} {dp : Nat} {m : am_M} {Q : am_Q} {i1 i2 : Int} (hnc : NC G) (hd : 1 ≤ dp) (hr : am_ob m 1 7) (k : ∀ Q1 : am_Q, (∀ r m1, wl cNS Q r m1 → Q1 r m1) → T G (dp - 1) 4 24 M8_next [rV (some 1), iV i1, iV i2] m Q1) : T G dp 4 24 ML_next [rV (some 1), iV i1, iV i2, rV (some 122)] m Q := by
  have hX : X G dp 4 24 ML_next 0 [some (rV (some 1)), some (iV i1), some (iV i2), some (rV (some 122)), none] [] m Q := by
    refine X_aload_n dL_next_0 rfl rfl ?_
    refine Y_iconst dL_next_1 (by unfold i32; omega) ?_
    refine X_aload_n dL_next_2 rfl rfl ?_
    refine X_iload_n dL_next_3 rfl rfl ?_
    refine X_iload_n dL_next_4 rfl rfl ?_
    refine X_callVC (As := [iV i1, iV i2]) (rest := [iV 0, rV (some 122)]) (a' := 4) (b' := 24) hnc dL_next_5 t8_next ml_L_67 hr rfl rfl (Nat.le_of_ble_eq_true rfl) hd (Nat.le_refl _) (Nat.le_refl _) (k _ fun r m1 hq => ?_)
    rcases hq with ⟨z, rfl, h1, h2⟩ | ⟨k, v, rfl, h1, h2⟩
    · refine X_last dL_next_8 h1 (by omega) (by omega) ?_
      refine X_goto (tgt := 16) dL_next_9 (by decide) ?_
      refine Y_iconst dL_next_16 (by unfold i32; omega) ?_
      exact X_iret dL_next_17 rfl h2
    · obtain ⟨rfl, rfl⟩ := h1
      exact ⟨_, hn_next_1, h2⟩
  exact T_ofH (List.cons_ne_nil _ _) (by decide +kernel) rfl (Nat.le_of_ble_eq_true rfl) hX
theorem th_paper : am_msH ML_paper 5 := ⟨List.cons_ne_nil _ _, List.mem_of_getElem? (i := 1052) (by decide +kernel), List.mem_of_getElem? (i := 105) (by decide +kernel), ⟨by decide +kernel, by decide +kernel⟩, by decide +kernel, by decide, List.mem_of_getElem? (i := 1051) (by decide +kernel)⟩
theorem hn_paper_1 : am_hn ML_paper 7 1 1 := ⟨[], [(0, 12, 19, 13)], (0, 12, 15, 18), 5, 2, rfl, (fun _ h => nomatch h), ⟨by decide, by decide⟩, by decide, cl_L_18, Or.inr ⟨dL_paper_15, rfl⟩, by decide, dL_paper_17, dL_paper_18, rfl, by unfold i32; omega, by decide⟩
theorem hn_paper_0 : am_hn ML_paper 7 0 2 := ⟨[(0, 12, 15, 18)], [], (0, 12, 19, 13), 5, 2, rfl, (fun z hz => by rw [List.mem_singleton.mp hz]; exact ⟨rfl, by decide, cl_L_18⟩), ⟨by decide, by decide⟩, by decide, cl_L_13, Or.inr ⟨dL_paper_19, rfl⟩, by decide, dL_paper_21, dL_paper_22, rfl, by unfold i32; omega, by decide⟩
theorem w_paper {G : am_G} {dp : Nat} {m : am_M} {Q : am_Q} {i1 i2 i3 : Int} (hnc : NC G) (hd : 1 ≤ dp) (hr : am_ob m 1 7) (k : ∀ Q1 : am_Q, (∀ r m1, wi cBO Q r m1 → Q1 r m1) → T G (dp - 1) 4 24 M8_paper [rV (some 1), iV i1, iV i2, iV i3] m Q1) : T G dp 4 24 ML_paper [rV (some 1), iV i1, iV i2, iV i3, rV (some 122)] m Q := by
  have hX : X G dp 4 24 ML_paper 0 [some (rV (some 1)), some (iV i1), some (iV i2), some (iV i3), some (rV (some 122)), none] [] m Q := by
    refine X_aload dL_paper_0 rfl ?_
    refine Y_iconst dL_paper_2 (by unfold i32; omega) ?_
    refine X_aload_n dL_paper_3 rfl rfl ?_
    refine X_iload_n dL_paper_4 rfl rfl ?_
    refine X_iload_n dL_paper_5 rfl rfl ?_
    refine X_iload_n dL_paper_6 rfl rfl ?_
    refine X_callVC (As := [iV i1, iV i2, iV i3]) (rest := [iV 0, rV (some 122)]) (a' := 4) (b' := 24) hnc dL_paper_7 t8_paper ml_L_70 hr rfl rfl (Nat.le_of_ble_eq_true rfl) hd (Nat.le_refl _) (Nat.le_refl _) (k _ fun r m1 hq => ?_)
    rcases hq with ⟨z, rfl, h1, h2⟩ | ⟨k, v, rfl, h1, h2⟩
    · refine X_i2l dL_paper_10 ?_
      refine X_last dL_paper_11 h1 (by omega) (by omega) ?_
      refine X_goto (tgt := 23) dL_paper_12 (by decide) ?_
      refine Y_iconst dL_paper_23 (by unfold i32; omega) ?_
      exact X_iret dL_paper_24 rfl h2
    · rcases h1 with ⟨rfl, rfl⟩ | ⟨rfl, rfl⟩
      · exact ⟨_, hn_paper_1, h2⟩
      · exact ⟨_, hn_paper_0, h2⟩
  exact T_ofH (List.cons_ne_nil _ _) (by decide +kernel) rfl (Nat.le_of_ble_eq_true rfl) hX
theorem th_way : am_msH ML_way 4 := ⟨List.cons_ne_nil _ _, List.mem_of_getElem? (i := 1060) (by decide +kernel), List.mem_of_getElem? (i := 105) (by decide +kernel), ⟨by decide +kernel, by decide +kernel⟩, by decide +kernel, by decide, List.mem_of_getElem? (i := 1059) (by decide +kernel)⟩
theorem hn_way_1 : am_hn ML_way 5 1 1 := ⟨[], [(0, 10, 17, 13)], (0, 10, 13, 18), 4, 2, rfl, (fun _ h => nomatch h), ⟨by decide, by decide⟩, by decide, cl_L_18, Or.inr ⟨dL_way_13, rfl⟩, by decide, dL_way_15, dL_way_16, rfl, by unfold i32; omega, by decide⟩
theorem hn_way_0 : am_hn ML_way 5 0 2 := ⟨[(0, 10, 13, 18)], [], (0, 10, 17, 13), 4, 2, rfl, (fun z hz => by rw [List.mem_singleton.mp hz]; exact ⟨rfl, by decide, cl_L_18⟩), ⟨by decide, by decide⟩, by decide, cl_L_13, Or.inr ⟨dL_way_17, rfl⟩, by decide, dL_way_19, dL_way_20, rfl, by unfold i32; omega, by decide⟩
theorem w_way {G : am_G} {dp : Nat} {m : am_M} {Q : am_Q} {i1 i2 : Int} (hnc : NC G) (hd : 1 ≤ dp) (hr : am_ob m 1 7) (k : ∀ Q1 : am_Q, (∀ r m1, wi cBO Q r m1 → Q1 r m1) → T G (dp - 1) 4 24 M8_way [rV (some 1), iV i1, iV i2] m Q1) : T G dp 4 24 ML_way [rV (some 1), iV i1, iV i2, rV (some 122)] m Q := by
  have hX : X G dp 4 24 ML_way 0 [some (rV (some 1)), some (iV i1), some (iV i2), some (rV (some 122)), none] [] m Q := by
    refine X_aload_n dL_way_0 rfl rfl ?_
    refine Y_iconst dL_way_1 (by unfold i32; omega) ?_
    refine X_aload_n dL_way_2 rfl rfl ?_
    refine X_iload_n dL_way_3 rfl rfl ?_
    refine X_iload_n dL_way_4 rfl rfl ?_
    refine X_callVC (As := [iV i1, iV i2]) (rest := [iV 0, rV (some 122)]) (a' := 4) (b' := 24) hnc dL_way_5 t8_way ml_L_73 hr rfl rfl (Nat.le_of_ble_eq_true rfl) hd (Nat.le_refl _) (Nat.le_refl _) (k _ fun r m1 hq => ?_)
    rcases hq with ⟨z, rfl, h1, h2⟩ | ⟨k, v, rfl, h1, h2⟩
    · refine X_i2l dL_way_8 ?_
      refine X_last dL_way_9 h1 (by omega) (by omega) ?_
      refine X_goto (tgt := 21) dL_way_10 (by decide) ?_
      refine Y_iconst dL_way_21 (by unfold i32; omega) ?_
      exact X_iret dL_way_22 rfl h2
    · rcases h1 with ⟨rfl, rfl⟩ | ⟨rfl, rfl⟩
      · exact ⟨_, hn_way_1, h2⟩
      · exact ⟨_, hn_way_0, h2⟩
  exact T_ofH (List.cons_ne_nil _ _) (by decide +kernel) rfl (Nat.le_of_ble_eq_true rfl) hX
theorem th_rule : am_msH ML_rule 4 := ⟨List.cons_ne_nil _ _, List.mem_of_getElem? (i := 1068) (by decide +kernel), List.mem_of_getElem? (i := 105) (by decide +kernel), ⟨by decide +kernel, by decide +kernel⟩, by decide +kernel, by decide, List.mem_of_getElem? (i := 1067) (by decide +kernel)⟩
theorem hn_rule_1 : am_hn ML_rule 5 1 1 := ⟨[], [(0, 10, 17, 13)], (0, 10, 13, 18), 4, 2, rfl, (fun _ h => nomatch h), ⟨by decide, by decide⟩, by decide, cl_L_18, Or.inr ⟨dL_rule_13, rfl⟩, by decide, dL_rule_15, dL_rule_16, rfl, by unfold i32; omega, by decide⟩
theorem hn_rule_0 : am_hn ML_rule 5 0 2 := ⟨[(0, 10, 13, 18)], [], (0, 10, 17, 13), 4, 2, rfl, (fun z hz => by rw [List.mem_singleton.mp hz]; exact ⟨rfl, by decide, cl_L_18⟩), ⟨by decide, by decide⟩, by decide, cl_L_13, Or.inr ⟨dL_rule_17, rfl⟩, by decide, dL_rule_19, dL_rule_20, rfl, by unfold i32; omega, by decide⟩
theorem w_rule {G : am_G} {dp : Nat} {m : am_M} {Q : am_Q} {i1 i2 : Int} (hnc : NC G) (hd : 1 ≤ dp) (hr : am_ob m 1 7) (k : ∀ Q1 : am_Q, (∀ r m1, wi cBO Q r m1 → Q1 r m1) → T G (dp - 1) 4 24 M8_rule [rV (some 1), iV i1, iV i2] m Q1) : T G dp 4 24 ML_rule [rV (some 1), iV i1, iV i2, rV (some 122)] m Q := by
  have hX : X G dp 4 24 ML_rule 0 [some (rV (some 1)), some (iV i1), some (iV i2), some (rV (some 122)), none] [] m Q := by
    refine X_aload_n dL_rule_0 rfl rfl ?_
    refine Y_iconst dL_rule_1 (by unfold i32; omega) ?_
    refine X_aload_n dL_rule_2 rfl rfl ?_
    refine X_iload_n dL_rule_3 rfl rfl ?_
    refine X_iload_n dL_rule_4 rfl rfl ?_
    refine X_callVC (As := [iV i1, iV i2]) (rest := [iV 0, rV (some 122)]) (a' := 4) (b' := 24) hnc dL_rule_5 t8_rule ml_L_76 hr rfl rfl (Nat.le_of_ble_eq_true rfl) hd (Nat.le_refl _) (Nat.le_refl _) (k _ fun r m1 hq => ?_)
    rcases hq with ⟨z, rfl, h1, h2⟩ | ⟨k, v, rfl, h1, h2⟩
    · refine X_i2l dL_rule_8 ?_
      refine X_last dL_rule_9 h1 (by omega) (by omega) ?_
      refine X_goto (tgt := 21) dL_rule_10 (by decide) ?_
      refine Y_iconst dL_rule_21 (by unfold i32; omega) ?_
      exact X_iret dL_rule_22 rfl h2
    · rcases h1 with ⟨rfl, rfl⟩ | ⟨rfl, rfl⟩
      · exact ⟨_, hn_rule_1, h2⟩
      · exact ⟨_, hn_rule_0, h2⟩
  exact T_ofH (List.cons_ne_nil _ _) (by decide +kernel) rfl (Nat.le_of_ble_eq_true rfl) hX
theorem th_need : am_msH ML_need 5 := ⟨List.cons_ne_nil _ _, List.mem_of_getElem? (i := 1079) (by decide +kernel), List.mem_of_getElem? (i := 105) (by decide +kernel), ⟨by decide +kernel, by decide +kernel⟩, by decide +kernel, by decide, List.mem_of_getElem? (i := 1078) (by decide +kernel)⟩
theorem hn_need_1 : am_hn ML_need 7 1 1 := ⟨[], [(0, 12, 19, 13)], (0, 12, 15, 18), 5, 2, rfl, (fun _ h => nomatch h), ⟨by decide, by decide⟩, by decide, cl_L_18, Or.inr ⟨dL_need_15, rfl⟩, by decide, dL_need_17, dL_need_18, rfl, by unfold i32; omega, by decide⟩
theorem hn_need_0 : am_hn ML_need 7 0 2 := ⟨[(0, 12, 15, 18)], [], (0, 12, 19, 13), 5, 2, rfl, (fun z hz => by rw [List.mem_singleton.mp hz]; exact ⟨rfl, by decide, cl_L_18⟩), ⟨by decide, by decide⟩, by decide, cl_L_13, Or.inr ⟨dL_need_19, rfl⟩, by decide, dL_need_21, dL_need_22, rfl, by unfold i32; omega, by decide⟩
theorem w_need {G : am_G} {dp : Nat} {m : am_M} {Q : am_Q} {i1 i2 i3 : Int} (hnc : NC G) (hd : 1 ≤ dp) (hr : am_ob m 1 7) (k : ∀ Q1 : am_Q, (∀ r m1, wi cBO Q r m1 → Q1 r m1) → T G (dp - 1) 4 24 M8_need [rV (some 1), iV i1, iV i2, iV i3] m Q1) : T G dp 4 24 ML_need [rV (some 1), iV i1, iV i2, iV i3, rV (some 122)] m Q := by
  have hX : X G dp 4 24 ML_need 0 [some (rV (some 1)), some (iV i1), some (iV i2), some (iV i3), some (rV (some 122)), none] [] m Q := by
    refine X_aload dL_need_0 rfl ?_
    refine Y_iconst dL_need_2 (by unfold i32; omega) ?_
    refine X_aload_n dL_need_3 rfl rfl ?_
    refine X_iload_n dL_need_4 rfl rfl ?_
    refine X_iload_n dL_need_5 rfl rfl ?_
    refine X_iload_n dL_need_6 rfl rfl ?_
    refine X_callVC (As := [iV i1, iV i2, iV i3]) (rest := [iV 0, rV (some 122)]) (a' := 4) (b' := 24) hnc dL_need_7 t8_need ml_L_79 hr rfl rfl (Nat.le_of_ble_eq_true rfl) hd (Nat.le_refl _) (Nat.le_refl _) (k _ fun r m1 hq => ?_)
    rcases hq with ⟨z, rfl, h1, h2⟩ | ⟨k, v, rfl, h1, h2⟩
    · refine X_i2l dL_need_10 ?_
      refine X_last dL_need_11 h1 (by omega) (by omega) ?_
      refine X_goto (tgt := 23) dL_need_12 (by decide) ?_
      refine Y_iconst dL_need_23 (by unfold i32; omega) ?_
      exact X_iret dL_need_24 rfl h2
    · rcases h1 with ⟨rfl, rfl⟩ | ⟨rfl, rfl⟩
      · exact ⟨_, hn_need_1, h2⟩
      · exact ⟨_, hn_need_0, h2⟩
  exact T_ofH (List.cons_ne_nil _ _) (by decide +kernel) rfl (Nat.le_of_ble_eq_true rfl) hX
theorem th_bestFactor : am_msH ML_bestFactor 5 := ⟨List.cons_ne_nil _ _, List.mem_of_getElem? (i := 1119) (by decide +kernel), List.mem_of_getElem? (i := 105) (by decide +kernel), ⟨by decide +kernel, by decide +kernel⟩, by decide +kernel, by decide, List.mem_of_getElem? (i := 1118) (by decide +kernel)⟩
theorem hn_bestFactor_1 : am_hn ML_bestFactor 7 1 1 := ⟨[], [(0, 12, 19, 13)], (0, 12, 15, 18), 5, 2, rfl, (fun _ h => nomatch h), ⟨by decide, by decide⟩, by decide, cl_L_18, Or.inr ⟨dL_bestFactor_15, rfl⟩, by decide, dL_bestFactor_17, dL_bestFactor_18, rfl, by unfold i32; omega, by decide⟩
theorem hn_bestFactor_0 : am_hn ML_bestFactor 7 0 2 := ⟨[(0, 12, 15, 18)], [], (0, 12, 19, 13), 5, 2, rfl, (fun z hz => by rw [List.mem_singleton.mp hz]; exact ⟨rfl, by decide, cl_L_18⟩), ⟨by decide, by decide⟩, by decide, cl_L_13, Or.inr ⟨dL_bestFactor_19, rfl⟩, by decide, dL_bestFactor_21, dL_bestFactor_22, rfl, by unfold i32; omega, by decide⟩
theorem w_bestFactor {G : am_G} {dp : Nat} {m : am_M} {Q : am_Q} {i1 i2 i3 : Int} (hnc : NC G) (hd : 1 ≤ dp) (hr : am_ob m 1 7) (k : ∀ Q1 : am_Q, (∀ r m1, wi cBO Q r m1 → Q1 r m1) → T G (dp - 1) 4 24 M8_bestFactor [rV (some 1), iV i1, iV i2, iV i3] m Q1) : T G dp 4 24 ML_bestFactor [rV (some 1), iV i1, iV i2, iV i3, rV (some 122)] m Q := by
  have hX : X G dp 4 24 ML_bestFactor 0 [some (rV (some 1)), some (iV i1), some (iV i2), some (iV i3), some (rV (some 122)), none] [] m Q := by
    refine X_aload dL_bestFactor_0 rfl ?_
    refine Y_iconst dL_bestFactor_2 (by unfold i32; omega) ?_
    refine X_aload_n dL_bestFactor_3 rfl rfl ?_
    refine X_iload_n dL_bestFactor_4 rfl rfl ?_
    refine X_iload_n dL_bestFactor_5 rfl rfl ?_
    refine X_iload_n dL_bestFactor_6 rfl rfl ?_
    refine X_callVC (As := [iV i1, iV i2, iV i3]) (rest := [iV 0, rV (some 122)]) (a' := 4) (b' := 24) hnc dL_bestFactor_7 t8_bestFactor ml_L_82 hr rfl rfl (Nat.le_of_ble_eq_true rfl) hd (Nat.le_refl _) (Nat.le_refl _) (k _ fun r m1 hq => ?_)
    rcases hq with ⟨z, rfl, h1, h2⟩ | ⟨k, v, rfl, h1, h2⟩
    · refine X_i2l dL_bestFactor_10 ?_
      refine X_last dL_bestFactor_11 h1 (by omega) (by omega) ?_
      refine X_goto (tgt := 23) dL_bestFactor_12 (by decide) ?_
      refine Y_iconst dL_bestFactor_23 (by unfold i32; omega) ?_
      exact X_iret dL_bestFactor_24 rfl h2
    · rcases h1 with ⟨rfl, rfl⟩ | ⟨rfl, rfl⟩
      · exact ⟨_, hn_bestFactor_1, h2⟩
      · exact ⟨_, hn_bestFactor_0, h2⟩
  exact T_ofH (List.cons_ne_nil _ _) (by decide +kernel) rfl (Nat.le_of_ble_eq_true rfl) hX
theorem th_more : am_msH ML_more 3 := ⟨List.cons_ne_nil _ _, List.mem_of_getElem? (i := 1126) (by decide +kernel), List.mem_of_getElem? (i := 105) (by decide +kernel), ⟨by decide +kernel, by decide +kernel⟩, by decide +kernel, by decide, List.mem_of_getElem? (i := 1125) (by decide +kernel)⟩
theorem hn_more_1 : am_hn ML_more 4 1 1 := ⟨[], [], (0, 9, 12, 18), 3, 1, rfl, (fun _ h => nomatch h), ⟨by decide, by decide⟩, by decide, cl_L_18, Or.inl ⟨3, dL_more_12, rfl, rfl⟩, by decide, dL_more_13, dL_more_14, rfl, by unfold i32; omega, by decide⟩
theorem w_more {G : am_G} {dp : Nat} {m : am_M} {Q : am_Q} {i1 : Int} (hnc : NC G) (hd : 1 ≤ dp) (hr : am_ob m 1 7) (k : ∀ Q1 : am_Q, (∀ r m1, wi cNS Q r m1 → Q1 r m1) → T G (dp - 1) 4 24 M8_more [rV (some 1), iV i1] m Q1) : T G dp 4 24 ML_more [rV (some 1), iV i1, rV (some 122)] m Q := by
  have hX : X G dp 4 24 ML_more 0 [some (rV (some 1)), some (iV i1), some (rV (some 122)), none] [] m Q := by
    refine X_aload_n dL_more_0 rfl rfl ?_
    refine Y_iconst dL_more_1 (by unfold i32; omega) ?_
    refine X_aload_n dL_more_2 rfl rfl ?_
    refine X_iload_n dL_more_3 rfl rfl ?_
    refine X_callVC (As := [iV i1]) (rest := [iV 0, rV (some 122)]) (a' := 4) (b' := 24) hnc dL_more_4 t8_more ml_L_85 hr rfl rfl (Nat.le_of_ble_eq_true rfl) hd (Nat.le_refl _) (Nat.le_refl _) (k _ fun r m1 hq => ?_)
    rcases hq with ⟨z, rfl, h1, h2⟩ | ⟨k, v, rfl, h1, h2⟩
    · refine X_i2l dL_more_7 ?_
      refine X_last dL_more_8 h1 (by omega) (by omega) ?_
      refine X_goto (tgt := 15) dL_more_9 (by decide) ?_
      refine Y_iconst dL_more_15 (by unfold i32; omega) ?_
      exact X_iret dL_more_16 rfl h2
    · obtain ⟨rfl, rfl⟩ := h1
      exact ⟨_, hn_more_1, h2⟩
  exact T_ofH (List.cons_ne_nil _ _) (by decide +kernel) rfl (Nat.le_of_ble_eq_true rfl) hX
theorem th_tries : am_msH ML_tries 6 := ⟨List.cons_ne_nil _ _, List.mem_of_getElem? (i := 1133) (by decide +kernel), List.mem_of_getElem? (i := 105) (by decide +kernel), ⟨by decide +kernel, by decide +kernel⟩, by decide +kernel, by decide, List.mem_of_getElem? (i := 1132) (by decide +kernel)⟩
theorem hn_tries_1 : am_hn ML_tries 9 1 1 := ⟨[], [(0, 14, 21, 13)], (0, 14, 17, 18), 6, 2, rfl, (fun _ h => nomatch h), ⟨by decide, by decide⟩, by decide, cl_L_18, Or.inr ⟨dL_tries_17, rfl⟩, by decide, dL_tries_19, dL_tries_20, rfl, by unfold i32; omega, by decide⟩
theorem hn_tries_0 : am_hn ML_tries 9 0 2 := ⟨[(0, 14, 17, 18)], [], (0, 14, 21, 13), 6, 2, rfl, (fun z hz => by rw [List.mem_singleton.mp hz]; exact ⟨rfl, by decide, cl_L_18⟩), ⟨by decide, by decide⟩, by decide, cl_L_13, Or.inr ⟨dL_tries_21, rfl⟩, by decide, dL_tries_23, dL_tries_24, rfl, by unfold i32; omega, by decide⟩
theorem w_tries {G : am_G} {dp : Nat} {m : am_M} {Q : am_Q} {i1 i2 i3 i4 : Int} (hnc : NC G) (hd : 1 ≤ dp) (hr : am_ob m 1 7) (k : ∀ Q1 : am_Q, (∀ r m1, wi cBO Q r m1 → Q1 r m1) → T G (dp - 1) 4 24 M8_tries [rV (some 1), iV i1, iV i2, iV i3, iV i4] m Q1) : T G dp 4 24 ML_tries [rV (some 1), iV i1, iV i2, iV i3, iV i4, rV (some 122)] m Q := by
  have hX : X G dp 4 24 ML_tries 0 [some (rV (some 1)), some (iV i1), some (iV i2), some (iV i3), some (iV i4), some (rV (some 122)), none] [] m Q := by
    refine X_aload dL_tries_0 rfl ?_
    refine Y_iconst dL_tries_2 (by unfold i32; omega) ?_
    refine X_aload_n dL_tries_3 rfl rfl ?_
    refine X_iload_n dL_tries_4 rfl rfl ?_
    refine X_iload_n dL_tries_5 rfl rfl ?_
    refine X_iload_n dL_tries_6 rfl rfl ?_
    refine X_iload dL_tries_7 rfl ?_
    refine X_callVC (As := [iV i1, iV i2, iV i3, iV i4]) (rest := [iV 0, rV (some 122)]) (a' := 4) (b' := 24) hnc dL_tries_9 t8_tries ml_L_88 hr rfl rfl (Nat.le_of_ble_eq_true rfl) hd (Nat.le_refl _) (Nat.le_refl _) (k _ fun r m1 hq => ?_)
    rcases hq with ⟨z, rfl, h1, h2⟩ | ⟨k, v, rfl, h1, h2⟩
    · refine X_i2l dL_tries_12 ?_
      refine X_last dL_tries_13 h1 (by omega) (by omega) ?_
      refine X_goto (tgt := 25) dL_tries_14 (by decide) ?_
      refine Y_iconst dL_tries_25 (by unfold i32; omega) ?_
      exact X_iret dL_tries_26 rfl h2
    · rcases h1 with ⟨rfl, rfl⟩ | ⟨rfl, rfl⟩
      · exact ⟨_, hn_tries_1, h2⟩
      · exact ⟨_, hn_tries_0, h2⟩
  exact T_ofH (List.cons_ne_nil _ _) (by decide +kernel) rfl (Nat.le_of_ble_eq_true rfl) hX
theorem th_quickest : am_msH ML_quickest 4 := ⟨List.cons_ne_nil _ _, List.mem_of_getElem? (i := 1145) (by decide +kernel), List.mem_of_getElem? (i := 105) (by decide +kernel), ⟨by decide +kernel, by decide +kernel⟩, by decide +kernel, by decide, List.mem_of_getElem? (i := 1144) (by decide +kernel)⟩
theorem hn_quickest_0 : am_hn ML_quickest 5 0 1 := ⟨[], [], (0, 10, 13, 13), 4, 2, rfl, (fun _ h => nomatch h), ⟨by decide, by decide⟩, by decide, cl_L_13, Or.inr ⟨dL_quickest_13, rfl⟩, by decide, dL_quickest_15, dL_quickest_16, rfl, by unfold i32; omega, by decide⟩
theorem w_quickest {G : am_G} {dp : Nat} {m : am_M} {Q : am_Q} {i1 i2 : Int} (hnc : NC G) (hd : 1 ≤ dp) (hr : am_ob m 1 7) (k : ∀ Q1 : am_Q, (∀ r m1, wi cIA Q r m1 → Q1 r m1) → T G (dp - 1) 4 24 M8_quickest [rV (some 1), iV i1, iV i2] m Q1) : T G dp 4 24 ML_quickest [rV (some 1), iV i1, iV i2, rV (some 122)] m Q := by
  have hX : X G dp 4 24 ML_quickest 0 [some (rV (some 1)), some (iV i1), some (iV i2), some (rV (some 122)), none] [] m Q := by
    refine X_aload_n dL_quickest_0 rfl rfl ?_
    refine Y_iconst dL_quickest_1 (by unfold i32; omega) ?_
    refine X_aload_n dL_quickest_2 rfl rfl ?_
    refine X_iload_n dL_quickest_3 rfl rfl ?_
    refine X_iload_n dL_quickest_4 rfl rfl ?_
    refine X_callVC (As := [iV i1, iV i2]) (rest := [iV 0, rV (some 122)]) (a' := 4) (b' := 24) hnc dL_quickest_5 t8_quickest ml_L_92 hr rfl rfl (Nat.le_of_ble_eq_true rfl) hd (Nat.le_refl _) (Nat.le_refl _) (k _ fun r m1 hq => ?_)
    rcases hq with ⟨z, rfl, h1, h2⟩ | ⟨k, v, rfl, h1, h2⟩
    · refine X_i2l dL_quickest_8 ?_
      refine X_last dL_quickest_9 h1 (by omega) (by omega) ?_
      refine X_goto (tgt := 17) dL_quickest_10 (by decide) ?_
      refine Y_iconst dL_quickest_17 (by unfold i32; omega) ?_
      exact X_iret dL_quickest_18 rfl h2
    · obtain ⟨rfl, rfl⟩ := h1
      exact ⟨_, hn_quickest_0, h2⟩
  exact T_ofH (List.cons_ne_nil _ _) (by decide +kernel) rfl (Nat.le_of_ble_eq_true rfl) hX
theorem th_ask : am_msH ML_ask 3 := ⟨List.cons_ne_nil _ _, List.mem_of_getElem? (i := 1152) (by decide +kernel), List.mem_of_getElem? (i := 105) (by decide +kernel), ⟨by decide +kernel, by decide +kernel⟩, by decide +kernel, by decide, List.mem_of_getElem? (i := 1151) (by decide +kernel)⟩
theorem hn_ask_0 : am_hn ML_ask 4 0 1 := ⟨[], [], (0, 9, 12, 13), 3, 1, rfl, (fun _ h => nomatch h), ⟨by decide, by decide⟩, by decide, cl_L_13, Or.inl ⟨3, dL_ask_12, rfl, rfl⟩, by decide, dL_ask_13, dL_ask_14, rfl, by unfold i32; omega, by decide⟩
theorem w_ask {G : am_G} {dp : Nat} {m : am_M} {Q : am_Q} {i1 : Int} (hnc : NC G) (hd : 1 ≤ dp) (hr : am_ob m 1 7) (k : ∀ Q1 : am_Q, (∀ r m1, wi cIA Q r m1 → Q1 r m1) → T G (dp - 1) 4 24 M8_ask [rV (some 1), iV i1] m Q1) : T G dp 4 24 ML_ask [rV (some 1), iV i1, rV (some 122)] m Q := by
  have hX : X G dp 4 24 ML_ask 0 [some (rV (some 1)), some (iV i1), some (rV (some 122)), none] [] m Q := by
    refine X_aload_n dL_ask_0 rfl rfl ?_
    refine Y_iconst dL_ask_1 (by unfold i32; omega) ?_
    refine X_aload_n dL_ask_2 rfl rfl ?_
    refine X_iload_n dL_ask_3 rfl rfl ?_
    refine X_callVC (As := [iV i1]) (rest := [iV 0, rV (some 122)]) (a' := 4) (b' := 24) hnc dL_ask_4 t8_ask ml_L_95 hr rfl rfl (Nat.le_of_ble_eq_true rfl) hd (Nat.le_refl _) (Nat.le_refl _) (k _ fun r m1 hq => ?_)
    rcases hq with ⟨z, rfl, h1, h2⟩ | ⟨k, v, rfl, h1, h2⟩
    · refine X_i2l dL_ask_7 ?_
      refine X_last dL_ask_8 h1 (by omega) (by omega) ?_
      refine X_goto (tgt := 15) dL_ask_9 (by decide) ?_
      refine Y_iconst dL_ask_15 (by unfold i32; omega) ?_
      exact X_iret dL_ask_16 rfl h2
    · obtain ⟨rfl, rfl⟩ := h1
      exact ⟨_, hn_ask_0, h2⟩
  exact T_ofH (List.cons_ne_nil _ _) (by decide +kernel) rfl (Nat.le_of_ble_eq_true rfl) hX
