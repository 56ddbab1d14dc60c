/-! METHODS: entry, answers, calls -/
def am_wd : am_V → Nat
  | .inr (.inl _) => 2
  | .inr (.inr (.inr (.inl _))) => 2
  | _ => 1
theorem am_wd_eq (G : am_G) (v : am_V) : (am_tr G v).category = am_wd v := by
  rcases v with z | z | r | z | j
  · rfl
  · rfl
  · cases r <;> rfl
  · rfl
  · rfl
def am_ent1 : List am_V → List (Option am_V)
  | [] => []
  | v :: vs => if am_wd v = 2 then some v :: none :: am_ent1 vs else some v :: am_ent1 vs
def am_ent (av : List am_V) (n : Nat) : List (Option am_V) := am_ent1 av ++ List.replicate (n - (am_ent1 av).length) none
theorem am_ent1_in {G : am_G} : ∀ (av : List am_V) (k i : Nat) (v : am_V), (am_ent1 av)[i]? = some (some v) → (k + i, am_tr G v) ∈ lv_args k (av.map (am_tr G)) ∧ v ∈ av
  | [], k, i, v, h => by simp [am_ent1] at h
  | w :: vs, k, i, v, h => by
    unfold am_ent1 at h
    rw [List.map_cons]
    unfold lv_args
    rw [am_wd_eq]
    by_cases hc : am_wd w = 2
    · rw [if_pos hc] at h
      rw [if_pos hc]
      match i, h with
      | 0, h => simp at h; subst h; exact ⟨List.mem_cons_self, List.mem_cons_self⟩
      | 1, h => simp at h
      | i + 2, h =>
        simp at h
        obtain ⟨h1, h2⟩ := am_ent1_in (G := G) vs (k + 2) i v h
        refine ⟨List.mem_cons_of_mem _ ?_, List.mem_cons_of_mem _ h2⟩
        rwa [show k + (i + 2) = k + 2 + i by omega]
    · rw [if_neg hc] at h
      rw [if_neg hc]
      match i, h with
      | 0, h => simp at h; subst h; exact ⟨List.mem_cons_self, List.mem_cons_self⟩
      | i + 1, h =>
        simp at h
        obtain ⟨h1, h2⟩ := am_ent1_in (G := G) vs (k + 1) i v h
        refine ⟨List.mem_cons_of_mem _ ?_, List.mem_cons_of_mem _ h2⟩
        rwa [show k + (i + 1) = k + 1 + i by omega]
theorem am_ent1_len {G : am_G} : ∀ (av : List am_V), (lg_sl (av.map (am_tr G))).length = (am_ent1 av).length
  | [] => rfl
  | w :: vs => by
    rw [List.map_cons]
    unfold lg_sl am_ent1
    rw [List.flatMap_cons, am_wd_eq]
    have ih := am_ent1_len (G := G) vs
    unfold lg_sl at ih
    by_cases hc : am_wd w = 2
    · rw [if_pos hc, if_pos hc, List.length_append, ih]; simp; omega
    · rw [if_neg hc, if_neg hc, List.length_append, ih]; simp; omega
theorem am_entLR {G : am_G} {av : List am_V} {n : Nat} (h : (am_ent1 av).length ≤ n) (hw : ∀ v ∈ av, am_wv v) : am_LR G ((lg_sl (av.map (am_tr G)) ++ List.replicate (n - (lg_sl (av.map (am_tr G))).length) Slot.unset).toArray) n (am_ent av n) := by
  have h1 := lv_entry (av.map (am_tr G)) (n := n) (by rw [am_ent1_len]; exact h)
  refine ⟨h1.1, by simp [am_ent]; omega, h1.2.1, fun i v hv => ?_⟩
  unfold am_ent at hv
  by_cases hi : i < (am_ent1 av).length
  · rw [List.getElem?_append_left hi] at hv
    obtain ⟨h2, h3⟩ := am_ent1_in (G := G) av 0 i v hv
    rw [Nat.zero_add] at h2
    exact ⟨h1.2.2 _ h2, hw v h3⟩
  · rw [List.getElem?_append_right (by omega), List.getElem?_replicate] at hv
    split at hv <;> simp at hv
theorem am_bs_le {G : am_G} {m : am_M} {H : Heap} (h : am_HR G m H) : am_bs G ≤ H.size := Nat.le_trans (Nat.le_add_right _ _) h.2.2.1
/-- a contract out of the body's walk -/
theorem T_of {G : am_G} {d a b : Nat} {M : am_Me} {av : List am_V} {m : am_M} {Q : am_Q} (hh : M.2.2.2.2.2 = []) (hp : Jvm.plainName M.1.cls = true) (ho : M.2.2.2.2.1 = M.1.cls) (hn : (am_ent1 av).length ≤ M.2.2.1) (k : X G d a b M 0 (am_ent av M.2.2.1) [] m Q) : T G d a b M av m Q := by
  intro hG hav
  refine vx_ofW (cc := M.2.1) (maxL := M.2.2.1) (ret := M.2.2.2.1) (ws' := []) hp (by unfold am_cw; rw [if_pos hh]) ?_
  intro p e s mid args below meth c s₁ B hml hno hv
  obtain ⟨rfl, hW, hH⟩ := hv
  rw [lg_entry_eq]
  have hT : c.exceptionTable.toList = [] := by
    cases hl : c.exceptionTable.toList with
    | nil => rfl
    | cons x xs => exact absurd (hno x (by rw [hl]; exact List.mem_cons_self)) id
  refine k hG p e _ s mid _ below meth c s.heap [] 0 0 a b _ ⟨B.exec, B.bytes, hml, B.returns, B.notSynchronized, (name_of_methodNamed B.named B.method).1, by rw [hT, hh]; rfl, by rw [ho]; exact findClass_of_methodNamed B.named, hW, Nat.le_refl _, Nat.le_refl _, by omega, by omega, Nat.le_refl _, Nat.le_refl _, am_bs_le hH, Nat.le_refl _, fun _ h => (nomatch h), hH.2.2.2.2⟩ hH (am_entLR hn hav) (fun _ h => nomatch h)
/-- the ends -/
theorem am_end {G : am_G} {d a b : Nat} {M : am_Me} {p : Program} {e : Env} {R : Room} {s : State} {mid : MethodId} {args : Array Value} {below : List Frame} {meth : Method} {c : Code} {H : Heap} {locs : List Loc} {cells slots mc ms : Nat} {g : JFrame} {Q : am_Q} (hI : am_In G d a b M p R s mid meth c H locs cells slots mc ms)
    (k : W p G.1 e R s mid args below meth c H locs mc ms (MQ below (am_Qc G Q) args s mc ms (am_fr G)) g) : W p G.1 e R s mid args below meth c H locs cells slots (am_Z G below args s mc ms Q) g :=
  W.widen (by have := hI.2.2.2.2.2.2.2.2.2.2.2.1; omega) (by have := hI.2.2.2.2.2.2.2.2.2.2.2.2.1; omega) (vx_ret k)
theorem am_qc {G : am_G} {d a b : Nat} {M : am_Me} {p : Program} {R : Room} {s : State} {mid : MethodId} {meth : Method} {c : Code} {H : Heap} {locs : List Loc} {cells slots mc ms : Nat} {Q : am_Q} {args : Array Value} {m : am_M} (hI : am_In G d a b M p R s mid meth c H locs cells slots mc ms) (hH : am_HR G m H) {r : Option am_V} (hw : ∀ v, r = some v → am_wv v) (hQ : Q (.inl r) m) : ∀ t : State, t.heap = H → s.WarmedH t.vm → am_Qc G Q args s (.returned (r.map (am_tr G))) t :=
  fun t ht _ => ⟨r, m, hQ, rfl, hw, by rw [ht]; exact hH, by rw [ht]; exact hI.2.2.2.2.2.2.2.2.2.2.2.2.2.2.2.2.1⟩
theorem am_locs {G : am_G} {d a b : Nat} {M : am_Me} {p : Program} {R : Room} {s : State} {mid : MethodId} {meth : Method} {c : Code} {H : Heap} {locs : List Loc} {cells slots mc ms : Nat} (hI : am_In G d a b M p R s mid meth c H locs cells slots mc ms) : ∀ q ∈ locs, am_fr G q.base := hI.2.2.2.2.2.2.2.2.2.2.2.2.2.2.2.2.2.1
theorem X_iret {G : am_G} {d a b : Nat} {M : am_Me} {pc : Nat} {L : List (Option am_V)} {m : am_M} {Q : am_Q} {z : Int} (hd : decode M.2.1 pc = .ok (.ireturn, 1)) (hr : M.2.2.2.1 = some .int) (hQ : Q (.inl (some (iV z))) m) : X G d a b M pc L [iV z] m Q := by
  intro hG p e R s mid args below meth c H locs cells slots mc ms ls hI hH hL hS
  exact am_end hI (W.iret hI.1 hI.2.1 (hI.2.2.2.1.trans hr) (am_qc hI hH (r := some (iV z)) (fun v h => by cases h; exact Xsh hS) hQ) (am_locs hI) hd hI.2.2.2.2.1)
theorem X_zret {G : am_G} {d a b : Nat} {M : am_Me} {pc : Nat} {L : List (Option am_V)} {m : am_M} {Q : am_Q} {z : Int} (hd : decode M.2.1 pc = .ok (.ireturn, 1)) (hr : M.2.2.2.1 = some .boolean) (hz : z = 0 ∨ z = 1) (hQ : Q (.inl (some (iV z))) m) : X G d a b M pc L [iV z] m Q := by
  intro hG p e R s mid args below meth c H locs cells slots mc ms ls hI hH hL hS
  exact am_end hI (W.zret hI.1 hI.2.1 (hI.2.2.2.1.trans hr) (by rcases hz with rfl | rfl <;> rfl) (am_qc hI hH (r := some (iV z)) (fun v h => by cases h; exact Xsh hS) hQ) (am_locs hI) hd hI.2.2.2.2.1)
theorem X_lret {G : am_G} {d a b : Nat} {M : am_Me} {pc : Nat} {L : List (Option am_V)} {m : am_M} {Q : am_Q} {z : Int} (hd : decode M.2.1 pc = .ok (.lreturn, 1)) (hr : M.2.2.2.1 = some .long) (hQ : Q (.inl (some (lV z))) m) : X G d a b M pc L [lV z] m Q := by
  intro hG p e R s mid args below meth c H locs cells slots mc ms ls hI hH hL hS
  exact am_end hI (W.lret hI.1 hI.2.1 (hI.2.2.2.1.trans hr) (am_qc hI hH (r := some (lV z)) (fun v h => by cases h; exact Xsh hS) hQ) (am_locs hI) hd hI.2.2.2.2.1)
theorem X_aret {G : am_G} {d a b : Nat} {M : am_Me} {pc : Nat} {L : List (Option am_V)} {m : am_M} {Q : am_Q} {r : Nat} {C : String} (hd : decode M.2.1 pc = .ok (.areturn, 1)) (hr : M.2.2.2.1 = some (.object C)) (hQ : Q (.inl (some (rV (some r)))) m) : X G d a b M pc L [rV (some r)] m Q := by
  intro hG p e R s mid args below meth c H locs cells slots mc ms ls hI hH hL hS
  exact am_end hI (W.aret hI.1 hI.2.1 (hI.2.2.2.1.trans hr) (Or.inl ⟨_, rfl⟩) (Or.inr ⟨_, rfl⟩) (am_qc hI hH (r := some (rV (some r))) (fun v h => by cases h; trivial) hQ) (am_locs hI) hd hI.2.2.2.2.1)
theorem X_vret {G : am_G} {d a b : Nat} {M : am_Me} {pc : Nat} {L : List (Option am_V)} {m : am_M} {Q : am_Q} (hd : decode M.2.1 pc = .ok (.return_, 1)) (hr : M.2.2.2.1 = none) (hQ : Q (.inl none) m) : X G d a b M pc L [] m Q := by
  intro hG p e R s mid args below meth c H locs cells slots mc ms ls hI hH hL hS
  exact am_end hI (W.vret hI.1 hI.2.1 (hI.2.2.2.1.trans hr) (am_qc hI hH (r := none) (fun v h => by cases h) hQ) (am_locs hI) hd hI.2.2.2.2.1)
/-- what goes on behind a call -/
def am_go (f : Option am_V → am_M → Prop) (g : Nat → am_M → Prop) : am_Q := fun r m' => match r with
  | .inl r => f r m'
  | .inr k => g k m'
/-- an exception that this method doesn't catch -/
theorem am_out {G : am_G} {d a b : Nat} {M : am_Me} {pc : Nat} {m' : am_M} {Q : am_Q} {p : Program} {e : Env} {R : Room} {s : State} {mid : MethodId} {args : Array Value} {below : List Frame} {meth : Method} {c : Code} {H : Heap} {locs : List Loc} {cells slots mc ms : Nat} {ls : Array Slot} {rest : List Value} {k : Nat} {q : Nat} {ce : Cell} (hh : M.2.2.2.2.2 = []) (hI : am_In G d a b M p R s mid meth c H locs cells slots mc ms) (hQ : Q (.inr k) m') (hH : am_HR G m' H) (hce : H[q]? = some ce) (hv : ce.vm = .none) (hcl : s.vm.findClass (am_en k) = some ce.cls) :
    vx_W p G.1 e R s mid args below meth c H locs cells slots (am_Z G below args s mc ms Q) (F0 mid pc ls rest) q := by
  refine vx_out (fun x hx => ?_) hI.2.2.2.2.1 hce hv hcl (fun t ht _ => ⟨k, m', hQ, rfl, by rw [ht]; exact hH, by rw [ht]; exact hI.2.2.2.2.2.2.2.2.2.2.2.2.2.2.2.2.1⟩) (am_locs hI) (by have := hI.2.2.2.2.2.2.2.2.2.2.2.1; omega) (by have := hI.2.2.2.2.2.2.2.2.2.2.2.2.1; omega)
  rw [hI.2.2.2.2.2.2.1, hh] at hx
  exact nomatch hx
/-- behind a call: the walk goes on -/
theorem am_after {G : am_G} {d a b a' b' : Nat} {M : am_Me} {pc : Nat} {L : List (Option am_V)} {rest : List am_V} {Q : am_Q} {f : Option am_V → am_M → Prop} {gx : Nat → am_M → Prop} {p : Program} {e : Env} {R : Room} {s : State} {mid : MethodId} {args ar : Array Value} {below : List Frame} {meth : Method} {c : Code} {H : Heap} {locs : List Loc} {cells slots mc ms : Nat} {ls : Array Slot} {st0 : List Value}
    (hG : am_ok G) (hI : am_In G d a b M p R s mid meth c H locs cells slots mc ms) (hL : am_LR G ls M.2.2.1 L) (hS : ∀ v ∈ rest, am_wv v) (ha : a' ≤ a) (hb : b' ≤ b)
    (hr : vx_Run p G.1 e R s mid args below meth c H locs cells slots a' b' (F0 mid pc ls st0) (rest.map (am_tr G)) (am_Qc G (am_go f gx) ar) (am_XC G (am_go f gx)) (am_fr G))
    (kk : ∀ r m', f r m' → X G d (a - a') (b - b') M (pc + 3) L (r.toList ++ rest) m' Q)
    (kx : ∀ (k : Nat) (m' : am_M) (H1 : Heap) (locs1 : List Loc) (q : Nat) (ce : Cell), gx k m' → am_In G d (a - a') (b - b') M p R s mid meth c H1 locs1 (cells + a') (slots + b') mc ms → am_HR G m' H1 → H1[q]? = some ce → ce.vm = .none → s.vm.findClass (am_en k) = some ce.cls → vx_W p G.1 e R s mid args below meth c H1 locs1 (cells + a') (slots + b') (am_Z G below args s mc ms Q) (F0 mid pc ls (rest.map (am_tr G))) q) :
    W p G.1 e R s mid args below meth c H locs cells slots (am_Z G below args s mc ms Q) (F0 mid pc ls st0) := by
  intro T hT Xs
  have hIn : ∀ (H1 : Heap) (L1 : List Loc), H.size ≤ H1.size → (∀ q ∈ L1, am_fr G q.base) → am_In G d (a - a') (b - b') M p R s mid meth c H1 (locs ++ L1) (cells + a') (slots + b') mc ms := by
    intro H1 L1 hz hl
    obtain ⟨h1, h2, h3, h4, h5, h6, h7, h8, h9, h10, h11, h12, h13, h14, h15, h16, h17, h18, h19⟩ := hI
    refine ⟨h1, h2, h3, h4, h5, h6, h7, h8, h9, h10, h11, by omega, by omega, h14, h15, h16, by omega, fun q hq => ?_, h19⟩
    rcases List.mem_append.mp hq with h | h
    · exact h18 q h
    · exact hl q h
  rcases hr T hT Xs with ⟨v, st₀, t, T', L1, h0, X', hl1, e1, e2, ⟨r, m', hf, hv, hw, hH', hz⟩, st⟩ | ⟨q, st₀, t, T', L1, E, ce, h0, X', hl1, e1, e2, ⟨k, m', hg, rfl, hH', hz⟩, hce, hcv, hcl, st⟩
  · have hv : v = r.map (am_tr G) := by injection hv
    have k1 := kk r m' hf hG p e R s mid args below meth c T'.heap (locs ++ L1) (cells + a') (slots + b') mc ms ls (hIn _ _ (by rw [e1, ← h0]; exact hz) hl1) (by rw [e1]; exact hH') hL (fun w hw2 => by
      rcases List.mem_append.mp hw2 with h | h
      · cases r with
        | none => exact nomatch h
        | some x => rw [Option.toList_some, List.mem_singleton] at h; exact hw w (by rw [h])
      · exact hS w h)
    obtain ⟨t2, a1, b1⟩ := k1 T' rfl X'
    refine ⟨t2, st t2 ?_, b1⟩
    subst hv
    have : (r.toList ++ rest).map (am_tr G) = (r.map (am_tr G)).toList ++ rest.map (am_tr G) := by cases r <;> simp
    rw [this] at a1
    exact a1
  · have k1 := kx k m' T'.heap (locs ++ L1) q ce hg (hIn _ _ (by rw [e1, ← h0]; exact hz) hl1) (by rw [e1]; exact hH') (by rw [e1]; exact hce) hcv hcl
    obtain ⟨t2, a1, b1⟩ := k1 T' rfl X'
    exact ⟨t2, st.trans a1, b1⟩
/-- what the tables say of a method: how many parameters -/
def am_mm (M : am_Me) (n : Nat) : Prop := M.2.2.2.2.2 = [] ∧ am_cw M ∈ lw_tbl ∧ Cond.initialized M.1.cls ∈ lw_tbl ∧ (M.1.cls ≠ "java/lang/invoke/MethodHandle" ∧ M.1.cls ≠ "java/lang/invoke/VarHandle") ∧ (parseMethodDescriptor M.1.desc).map (fun d => d.parameters.length) = some n ∧ M.2.2.1 ≤ 20
/-- an instance method of class ci -/
def am_mi (M : am_Me) (n ci : Nat) : Prop := am_mm M n ∧ Cond.instanceMethod M.1 ∈ lw_tbl ∧ Cond.selects M.1.cls M.1 M.1 ∈ lw_tbl ∧ ∃ (T : u_T) (N : Nat), vwCl[ci]? = some (M.1.cls, T, N)
def am_ms (M : am_Me) (n : Nat) : Prop := am_mm M n ∧ Cond.static M.1 ∈ lw_tbl
def am_mc (M : am_Me) (n ci : Nat) : Prop := am_mm M n ∧ M.1.name = "<init>" ∧ M.2.2.2.1 = none ∧ Cond.instanceMethod M.1 ∈ lw_tbl ∧ ∃ (T : u_T) (N : Nat), vwCl[ci]? = some (M.1.cls, T, N)
theorem am_cwGood (M : am_Me) : goodWord (am_cw M) = true := by unfold am_cw; split <;> rfl
theorem am_lenA {M : am_Me} {n : Nat} (h : (parseMethodDescriptor M.1.desc).map (fun d => d.parameters.length) = some n) : ∀ sig, parseMethodDescriptor M.1.desc = some sig → n = sig.parameters.length := by
  intro sig h1
  rw [h1] at h
  exact (Option.some.inj h).symm
set_option maxRecDepth 20000 in
theorem am_locs20 {d x l : Nat} (hd1 : 1 ≤ d) (hx : x ≤ 20) (hl : 40 * d + 300 ≤ l) : 8 + (x + 11) + (40 * (d - 1) + 300) ≤ l := by omega
theorem am_callB {G : am_G} {d a' b' : Nat} {M' : am_Me} {n : Nat} {R : Room} {s : State} {args : Array Value} {own : String} {idx : Nat} (hG : am_ok G) (hW : G.2.1.WarmedH s.vm) (hm : am_mm M' n) (hl : Cond.methodLink own idx M'.1 ∈ lw_tbl) (hd1 : 1 ≤ d) (hf : d + 16 ≤ R.frames) (hlo : 40 * d + 300 ≤ R.locals) :
    CallB R s args own idx M'.1 M'.2.1 M'.2.2.1 M'.2.2.2.1 [am_cw M'] (am_rm (d - 1) a' b') a' b' n := by
  obtain ⟨hh, hc, hi, hmh, hn, h20⟩ := hm
  have hcw : am_cw M' = .code M'.1 M'.2.1 M'.2.2.1 M'.2.2.2.1 := by unfold am_cw; rw [if_pos hh]
  have f1 : (am_rm (d - 1) a' b').frames + 1 ≤ R.frames := by simp only [am_rm]; omega
  have f2 : 8 + (M'.2.2.1 + 11) + (am_rm (d - 1) a' b').locals ≤ R.locals := am_locs20 hd1 h20 hlo
  have f3 : ∀ w ∈ [am_cw M'], ∀ (a9 : Array Value) (U : State), s.WarmedH U.vm → w.before a9 U = true := fun w hw a9 U hU => by
    rw [List.mem_singleton.mp hw]
    exact am_word hG (State.WarmedH.trans hW hU) hc (am_cwGood M') _
  have f4 : Cond.code M'.1 M'.2.1 M'.2.2.1 M'.2.2.2.1 ∈ [am_cw M'] := List.mem_singleton.mpr hcw.symm
  have f5 : (am_cw M').before args s = true := am_word hG hW hc (am_cwGood M') _
  have f6 : (Cond.initialized M'.1.cls).before args s = true := am_word hG hW hi rfl _
  have f7 : (Cond.methodLink own idx M'.1).before args s = true := am_word hG hW hl rfl _
  rw [hcw] at f5
  exact ⟨rfl, rfl, f1, f2, f3, f4, f5, f6, hmh, am_lenA hn, f7⟩
theorem am_blind (G : am_G) (av : List am_V) (m : am_M) : FrameBlind (am_Pc G av m) := fun _ _ _ _ h => h
theorem am_pre {G : am_G} {m : am_M} {s : State} {H : Heap} (hW : G.2.1.WarmedH s.vm) (hH : am_HR G m H) {av : List am_V} {As : Array Value} (hA : As = (av.map (am_tr G)).toArray) : ∀ U : State, U.heap = H → s.WarmedH U.vm → am_Pc G av m As U :=
  fun U hU hW2 => ⟨hA, State.WarmedH.trans hW hW2, by rw [hU]; exact hH⟩
theorem am_wdSum {G : am_G} {rest : List am_V} (h : (rest.map am_wd).sum ≤ 8) (mid : MethodId) (pc : Nat) (ls : Array Slot) (st : List Value) : 2 * (F0 mid pc ls st).monitorRoom + ((rest.map (am_tr G)).map fun v => v.category).sum ≤ 8 := by
  have e : (rest.map (am_tr G)).map (fun v => v.category) = rest.map am_wd := by
    rw [List.map_map]
    exact List.map_congr_left fun v _ => am_wd_eq G v
  rw [e]
  show 2 * 0 + _ ≤ 8
  omega
/-- an instance method -/
theorem X_callV {G : am_G} {d a b a' b' : Nat} {M M' : am_Me} {pc : Nat} {L : List (Option am_V)} {st rest As : List am_V} {m : am_M} {Q : am_Q} {idx n ci r : Nat} (hd : decode M.2.1 pc = .ok (.invokevirtual idx, 3)) (hm : am_mi M' n ci) (hl : Cond.methodLink M.2.2.2.2.1 idx M'.1 ∈ lw_tbl) (hr : am_ob m r ci) (hst : st = As.reverse ++ rV (some r) :: rest) (hn : As.length = n) (h8 : (rest.map am_wd).sum ≤ 8) (hh : M.2.2.2.2.2 = []) (hd1 : 1 ≤ d) (ha : a' ≤ a) (hb : b' ≤ b)
    (k : T G (d - 1) a' b' M' (rV (some r) :: As) m (am_go (fun r m' => X G d (a - a') (b - b') M (pc + 3) L (r.toList ++ rest) m' Q) (fun k m' => Q (.inr k) m'))) : X G d a b M pc L st m Q := by
  intro hG p e R s mid args below meth c H locs cells slots mc ms ls hI hH hL hS
  subst hst
  have hW := hI.2.2.2.2.2.2.2.2.1
  have hS2 : ∀ v ∈ rest, am_wv v := fun v h => hS v (List.mem_append_right _ (List.mem_cons_of_mem _ h))
  have hSA : ∀ v ∈ (rV (some r) :: As : List am_V), am_wv v := fun v h => by
    rcases List.mem_cons.mp h with h | h
    · subst h; trivial
    · exact hS v (List.mem_append_left _ (List.mem_reverse.mpr h))
  obtain ⟨hmm, hin, hse, T9, N9, hc⟩ := hm
  have hP := am_one hH hr.2.2 hr.1
  rw [am_e_ob hr.2.1 (am_cls hc).1] at hP
  have hrun := vx_runV (p := p) (l := G.1) (e := e) (R := R) (s := s) (m := mid) (args := args) (below := below) (meth := meth) (c := c) (H := H) (locs := locs) (cells := cells) (slots := slots) (Ts := []) (nL := M.2.2.1) (n := n) (C := M'.1.cls) (b := am_ad G r) (As := As.map (am_tr G)) (rest := rest.map (am_tr G)) (g := F0 mid pc ls ((As.reverse ++ rV (some r) :: rest).map (am_tr G)))
    ⟨hI.1, hI.2.1, hI.2.2.1, hI.2.2.2.2.2.2.2.1, fun _ h => nomatch h⟩ (k hG hSA)
    ⟨am_callB hG hW hmm hl hd1 hI.2.2.2.2.2.2.2.2.2.1 hI.2.2.2.2.2.2.2.2.2.2.1, am_word hG hW hin rfl _, am_word hG hW hse rfl _⟩
    ⟨am_blind _ _ _, va_recv (am_K hG hW) hP (ci := ci) (q0 := 0) hc rfl, am_pre hW hH rfl⟩ rfl (by simp [hn]) hL.1 (by simp [am_tr]) (am_wdSum h8 _ _ _ _) hd (by have := hI.2.2.2.2.2.2.2.2.2.2.2; omega)
  exact am_after hG hI hL hS2 ha hb hrun (fun _ _ h => h) (fun _ _ _ _ _ _ h1 h2 h3 h4 h5 h6 => am_out hh h2 h1 h3 h4 h5 h6)
/-- a static method -/
theorem X_callS {G : am_G} {d a b a' b' : Nat} {M M' : am_Me} {pc : Nat} {L : List (Option am_V)} {st rest As : List am_V} {m : am_M} {Q : am_Q} {idx n : Nat} (hd : decode M.2.1 pc = .ok (.invokestatic idx, 3)) (hm : am_ms M' n) (hl : Cond.methodLink M.2.2.2.2.1 idx M'.1 ∈ lw_tbl) (hst : st = As.reverse ++ rest) (hn : As.length = n) (h8 : (rest.map am_wd).sum ≤ 8) (hh : M.2.2.2.2.2 = []) (hd1 : 1 ≤ d) (ha : a' ≤ a) (hb : b' ≤ b)
    (k : T G (d - 1) a' b' M' As m (am_go (fun r m' => X G d (a - a') (b - b') M (pc + 3) L (r.toList ++ rest) m' Q) (fun k m' => Q (.inr k) m'))) : X G d a b M pc L st m Q := by
  intro hG p e R s mid args below meth c H locs cells slots mc ms ls hI hH hL hS
  subst hst
  have hW := hI.2.2.2.2.2.2.2.2.1
  have hS2 : ∀ v ∈ rest, am_wv v := fun v h => hS v (List.mem_append_right _ h)
  have hSA : ∀ v ∈ As, am_wv v := fun v h => hS v (List.mem_append_left _ (List.mem_reverse.mpr h))
  obtain ⟨hmm, hstat⟩ := hm
  have hrun := vx_runS (p := p) (l := G.1) (e := e) (R := R) (s := s) (m := mid) (args := args) (below := below) (meth := meth) (c := c) (H := H) (locs := locs) (cells := cells) (slots := slots) (Ts := []) (nL := M.2.2.1) (n := n) (As := As.map (am_tr G)) (rest := rest.map (am_tr G)) (g := F0 mid pc ls ((As.reverse ++ rest).map (am_tr G)))
    ⟨hI.1, hI.2.1, hI.2.2.1, hI.2.2.2.2.2.2.2.1, fun _ h => nomatch h⟩ (k hG hSA)
    ⟨am_callB hG hW hmm hl hd1 hI.2.2.2.2.2.2.2.2.2.1 hI.2.2.2.2.2.2.2.2.2.2.1, am_word hG hW hstat rfl _⟩
    ⟨am_blind _ _ _, am_pre hW hH rfl⟩ rfl (by simp [hn]) hL.1 (by simp) (am_wdSum h8 _ _ _ _) hd (by have := hI.2.2.2.2.2.2.2.2.2.2.2; omega)
  exact am_after hG hI hL hS2 ha hb hrun (fun _ _ h => h) (fun _ _ _ _ _ _ h1 h2 h3 h4 h5 h6 => am_out hh h2 h1 h3 h4 h5 h6)
/-- a constructor -/
theorem X_callI {G : am_G} {d a b a' b' : Nat} {M M' : am_Me} {pc : Nat} {L : List (Option am_V)} {st rest As : List am_V} {m : am_M} {Q : am_Q} {idx n ci r : Nat} (hd : decode M.2.1 pc = .ok (.invokespecial idx, 3)) (hm : am_mc M' n ci) (hl : Cond.methodLink M.2.2.2.2.1 idx M'.1 ∈ lw_tbl) (hst : st = As.reverse ++ rV (some r) :: rest) (hn : As.length = n) (h8 : (rest.map am_wd).sum ≤ 8) (hh : M.2.2.2.2.2 = []) (hd1 : 1 ≤ d) (ha : a' ≤ a) (hb : b' ≤ b)
    (k : T G (d - 1) a' b' M' (rV (some r) :: As) m (am_go (fun r m' => X G d (a - a') (b - b') M (pc + 3) L (r.toList ++ rest) m' Q) (fun k m' => Q (.inr k) m'))) : X G d a b M pc L st m Q := by
  intro hG p e R s mid args below meth c H locs cells slots mc ms ls hI hH hL hS
  subst hst
  have hW := hI.2.2.2.2.2.2.2.2.1
  have hS2 : ∀ v ∈ rest, am_wv v := fun v h => hS v (List.mem_append_right _ (List.mem_cons_of_mem _ h))
  have hSA : ∀ v ∈ (rV (some r) :: As : List am_V), am_wv v := fun v h => by
    rcases List.mem_cons.mp h with h | h
    · subst h; trivial
    · exact hS v (List.mem_append_left _ (List.mem_reverse.mpr h))
  obtain ⟨hmm, hnm, hret, hin, T9, N9, hc⟩ := hm
  have hB := am_callB (args := args) (a' := a') (b' := b') hG hW hmm hl hd1 hI.2.2.2.2.2.2.2.2.2.1 hI.2.2.2.2.2.2.2.2.2.2.1
  rw [hret] at hB
  have hrun := vx_runI (p := p) (l := G.1) (e := e) (R := R) (s := s) (m := mid) (args := args) (below := below) (meth := meth) (c := c) (H := H) (locs := locs) (cells := cells) (slots := slots) (Ts := []) (nL := M.2.2.1) (n := n) (b := am_ad G r) (As := As.map (am_tr G)) (rest := rest.map (am_tr G)) (g := F0 mid pc ls ((As.reverse ++ rV (some r) :: rest).map (am_tr G)))
    ⟨hI.1, hI.2.1, hI.2.2.1, hI.2.2.2.2.2.2.2.1, fun _ h => nomatch h⟩ (k hG hSA)
    ⟨hB, hnm, am_word hG hW hin rfl _⟩
    ⟨am_blind _ _ _, am_pre hW hH rfl⟩ rfl (by simp [hn]) hL.1 (by simp [am_tr]) (am_wdSum h8 _ _ _ _) hd (by have := hI.2.2.2.2.2.2.2.2.2.2.2; omega)
  exact am_after hG hI hL hS2 ha hb hrun (fun _ _ h => h) (fun _ _ _ _ _ _ h1 h2 h3 h4 h5 h6 => am_out hh h2 h1 h3 h4 h5 h6)
