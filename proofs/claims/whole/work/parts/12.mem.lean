/-! MEMORY: fields, arrays -/
def u2 {α : Type} (f : Nat → Nat → α) (r k : Nat) (z : α) : Nat → Nat → α := fun a b => if a = r ∧ b = k then z else f a b
theorem u2_same {α : Type} (f : Nat → Nat → α) (r k : Nat) (z : α) : u2 f r k z r k = z := if_pos ⟨rfl, rfl⟩
theorem u2_row {α : Type} (f : Nat → Nat → α) {r k : Nat} {z : α} {a : Nat} (h : a ≠ r) : u2 f r k z a = f a := funext fun b => if_neg fun q => h q.1
theorem u2_ne {α : Type} (f : Nat → Nat → α) {r k : Nat} {z : α} {a b : Nat} (h : a ≠ r ∨ b ≠ k) : u2 f r k z a b = f a b := if_neg fun q => h.elim (fun e => e q.1) (fun e => e q.2)
abbrev am_wI (m : am_M) (r k : Nat) (z : Int) : am_M := (u2 m.1 r k z, m.2)
abbrev am_wP (m : am_M) (r k : Nat) (q : Option Nat) : am_M := (m.1, u2 m.2.1 r k q, m.2.2)
theorem am_e_congr {G : am_G} {m m' : am_M} {k : Nat} (h1 : m'.1 k = m.1 k) (h2 : m'.2.1 k = m.2.1 k) (h3 : m'.2.2.1 k = m.2.2.1 k) : am_e G m' k = am_e G m k := by
  unfold am_e am_fv
  rw [h1, h2, h3]
theorem am_ad_inj {G : am_G} (hb : G.2.2.1 < am_bs G) {i j : Nat} (h : am_ad G i = am_ad G j) : i = j := by
  unfold am_ad at h
  by_cases hi : i = 0 <;> by_cases hj : j = 0
  · omega
  · rw [if_pos hi, if_neg hj] at h; omega
  · rw [if_neg hi, if_pos hj] at h; omega
  · rw [if_neg hi, if_neg hj] at h; omega
theorem am_ad_fr {G : am_G} {r : Nat} (h : r ≠ 0) : am_fr G (am_ad G r) := by unfold am_ad; rw [if_neg h]; exact Nat.le_add_right _ _
/-- a store at one cell -/
theorem am_stored {G : am_G} (hb : G.2.2.1 < am_bs G) {m m' : am_M} {H H1 : Heap} {r : Nat} (hH : am_HR G m H) (h0 : r ≠ 0) (hS : m'.2.2 = m.2.2) (hI : ∀ k, k ≠ r → m'.1 k = m.1 k) (hP : ∀ k, k ≠ r → m'.2.1 k = m.2.1 k) (hw : am_wm m') (hat : va_at G.2.2.2.1 vwCl (am_ad G r, am_e G m' r) H1) (z : H1.size = H.size) (oq : ∀ q, q ≠ am_ad G r → H1[q]? = H[q]?) : am_HR G m' H1 := by
  obtain ⟨-, h2, h3, h4, h5⟩ := hH
  refine ⟨hw, fun k k0 hk => ?_, by rw [hS, z]; exact h3, by rw [hS, z]; exact h4, fun q hq => ?_⟩
  · by_cases hkr : k = r
    · subst hkr; exact hat
    · rw [am_e_congr (m := m) (hI k hkr) (hP k hkr) (by rw [hS])]
      exact (h2 k k0 (by rw [← hS]; exact hk)).kept (oq _ (fun q => hkr (am_ad_inj hb q)))
  · have h9 := am_ad_fr (G := G) h0
    rw [oq q (fun e => by rw [← e] at h9; exact absurd h9 (Nat.not_le.mpr hq))]
    exact h5 q hq
theorem am_wm_wI {m : am_M} (h : am_wm m) {r k : Nat} {z : Int} (hz : if (m.2.2.1 r).1 = 101 then i64 z else i32 z) : am_wm (am_wI m r k z) := by
  refine ⟨h.1, fun q hq => ⟨(h.2 q hq).1, (h.2 q hq).2.1, fun j => ?_⟩⟩
  show if (m.2.2.1 q).1 = 101 then i64 (u2 m.1 r k z q j) else i32 (u2 m.1 r k z q j)
  by_cases e : q = r ∧ j = k
  · obtain ⟨rfl, rfl⟩ := e
    rw [u2_same]; exact hz
  · have : u2 m.1 r k z q j = m.1 q j := if_neg e
    rw [this]; exact (h.2 q hq).2.2 j
theorem am_wm_wP {m : am_M} (h : am_wm m) {r k : Nat} {q : Option Nat} : am_wm (am_wP m r k q) := h
/-- the class tables -/
theorem am_cls {ci : Nat} {C : String} {T : u_T} {N : Nat} (h : vwCl[ci]? = some (C, T, N)) : ci < 9 ∧ N ≤ 35 ∧ (∀ w ∈ u_ws C T N, w ∈ lw_tbl) ∧ (∀ k, k < N → parseFieldDescriptor (T k).2.2.1 = some (am_ty ci k)) ∧ (∀ a, a < N → ∀ b, b < N → a ≠ b → (T a).2.1 ≠ (T b).2.1) := by
  match ci, h with
  | 0, h => cases h; exact ⟨by decide, by decide, inX0, tyX0_ok, nmX0⟩
  | 1, h => cases h; exact ⟨by decide, by decide, inX1, tyX1_ok, nmX1⟩
  | 2, h => cases h; exact ⟨by decide, by decide, inX2, tyX2_ok, nmX2⟩
  | 3, h => cases h; exact ⟨by decide, by decide, inX3, tyX3_ok, nmX3⟩
  | 4, h => cases h; exact ⟨by decide, by decide, inX5, tyX5_ok, nmX5⟩
  | 5, h => cases h; exact ⟨by decide, by decide, inX6, tyX6_ok, nmX6⟩
  | 6, h => cases h; exact ⟨by decide, by decide, inX7, tyX7_ok, nmX7⟩
  | 7, h => cases h; exact ⟨by decide, by decide, inX8, tyX8_ok, nmX8⟩
  | 8, h => cases h; exact ⟨by decide, by decide, inX9, tyX9_ok, nmX9⟩
  | n + 9, h => simp [vwCl] at h
theorem am_layGood {C : String} {T : u_T} {N : Nat} {w : Cond} (h : w ∈ u_ws C T N) : goodWord w = true := by
  obtain ⟨k, -, rfl⟩ := List.mem_map.mp h
  unfold u_lay
  split <;> rfl
theorem am_uws {G : am_G} (hG : am_ok G) {U : State} (hW : G.2.1.WarmedH U.vm) {ci : Nat} {C : String} {T : u_T} {N : Nat} (h : vwCl[ci]? = some (C, T, N)) (a' : Array Value) : ∀ w ∈ u_ws C T N, w.before a' U = true :=
  fun w hw => am_word hG hW ((am_cls h).2.2.1 w hw) (am_layGood hw) a'
/-- a field's link: the class that names it, the entry, the class that holds it, its place -/
def am_fl (own : String) (idx ci k : Nat) : Prop := ∃ (C : String) (T : u_T) (N : Nat), vwCl[ci]? = some (C, T, N) ∧ k < N ∧ Cond.fieldLink own idx (T k).1 (T k).2.1 (T k).2.2.1 ∈ lw_tbl
/-- one that isn't final -/
def am_fw (own : String) (idx ci k : Nat) : Prop := ∃ (C : String) (T : u_T) (N : Nat), vwCl[ci]? = some (C, T, N) ∧ k < N ∧ Cond.fieldLink own idx (T k).1 (T k).2.1 (T k).2.2.1 ∈ lw_tbl ∧ (T k).2.2.2 = false
/-- a final one, in its own class -/
def am_ff (own : String) (idx ci k : Nat) : Prop := ∃ (C : String) (T : u_T) (N : Nat), vwCl[ci]? = some (C, T, N) ∧ k < N ∧ Cond.fieldLink own idx (T k).1 (T k).2.1 (T k).2.2.1 ∈ lw_tbl ∧ (T k).2.2.2 = true ∧ (T k).1 = own
theorem am_fw.fl {own : String} {idx ci k : Nat} (h : am_fw own idx ci k) : am_fl own idx ci k := by
  obtain ⟨C, T, N, h1, h2, h3, -⟩ := h
  exact ⟨C, T, N, h1, h2, h3⟩
/-- an object of a class; an array of a kind and length; the same, to be written -/
def am_obw (m : am_M) (r ci : Nat) : Prop := r < m.2.2.2.1 ∧ (m.2.2.1 r).1 = ci ∧ r ≠ 0
abbrev am_ob (m : am_M) (r ci : Nat) : Prop := am_obw m r ci
def am_arw (m : am_M) (r t n : Nat) : Prop := r < m.2.2.2.1 ∧ m.2.2.1 r = (t, n) ∧ r ≠ 0
abbrev am_ar (m : am_M) (r t n : Nat) : Prop := am_arw m r t n
theorem am_e_ob {G : am_G} {m : am_M} {r ci : Nat} (h : (m.2.2.1 r).1 = ci) (hc : ci < 9) : am_e G m r = .inr (ci, (List.range 64).map (am_fv G m r ci)) := by
  unfold am_e
  rw [h, if_pos (by omega)]
theorem am_fs_at {G : am_G} {m : am_M} {r ci k : Nat} (hk : k < 64) : ((List.range 64).map (am_fv G m r ci))[k]? = some (am_fv G m r ci k) := by
  rw [List.getElem?_map, List.getElem?_range hk]
  rfl
theorem am_vV {G : am_G} {m : am_M} {r ci k : Nat} (hk : k < 64) : vp_V ((List.range 64).map (am_fv G m r ci)) k = am_fv G m r ci k := by
  unfold vp_V
  rw [List.getD_eq_getElem?_getD, am_fs_at hk]
  rfl
theorem am_one {G : am_G} {m : am_M} {H : Heap} (hH : am_HR G m H) {r : Nat} (h0 : r ≠ 0) (hr : r < m.2.2.2.1) : va_P G.2.2.2.1 vwCl [(am_ad G r, am_e G m r)] H := by
  intro k q hk
  match k, hk with
  | 0, hk => cases hk; exact hH.2.1 r h0 hr
  | k + 1, hk => simp at hk
theorem am_K {G : am_G} (hG : am_ok G) {U : State} (hW : G.2.1.WarmedH U.vm) : va_K G.2.2.2.1 vwCl (am_tys G) U := va_K.moved hW.alike hG.2.1
theorem am_fvI {G : am_G} {m : am_M} {r ci k : Nat} (h : am_fk (am_ty ci k) ≠ 1) : am_fv G m r ci k = am_tr G (iV (m.1 r k)) := if_neg h
theorem am_fvP {G : am_G} {m : am_M} {r ci k : Nat} (h : am_fk (am_ty ci k) = 1) : am_fv G m r ci k = am_tr G (rV (m.2.1 r k)) := by
  unfold am_fv
  rw [if_pos h]
  cases m.2.1 r k <;> rfl
theorem X_getI {G : am_G} {d a b : Nat} {M : am_Me} {pc : Nat} {L : List (Option am_V)} {st : List am_V} {m : am_M} {Q : am_Q} {idx ci k r : Nat} (hd : decode M.2.1 pc = .ok (.getfield idx, 3)) (hf : am_fl M.2.2.2.2.1 idx ci k) (hk : am_fk (am_ty ci k) ≠ 1) (hr : am_ob m r ci) (kk : X G d a b M (pc + 3) L (iV (m.1 r k) :: st) m Q) : X G d a b M pc L (rV (some r) :: st) m Q := by
  intro hG p e R s mid args below meth c H locs cells slots mc ms ls hI hH hL hS
  obtain ⟨C, T, N, hc, hkN, hw⟩ := hf
  have h9 := am_cls hc
  have hP := am_one hH hr.2.2 hr.1
  rw [am_e_ob hr.2.1 h9.1] at hP
  have hz : i32 (m.1 r k) := by
    have := (hH.1.2 r hr.1).2.2 k
    rwa [if_neg (by rw [hr.2.1]; omega)] at this
  have kk := kk hG p e R s mid args below meth c H locs cells slots mc ms ls hI hH hL (Xs1 hz (Xst hS))
  rw [List.map_cons, ← am_fvI (ci := ci) hk] at kk
  exact va_get hI.1 hI.2.1 (am_uws hG hI.2.2.2.2.2.2.2.2.1 hc args) (fun w h => h) hI.2.2.2.2.2.2.2.1 (am_K hG hI.2.2.2.2.2.2.2.2.1) hP 0 rfl hc k hkN (am_word hG hI.2.2.2.2.2.2.2.2.1 hw rfl args) (fun x h => h) (am_fs_at (by omega)) hd kk
theorem X_getP {G : am_G} {d a b : Nat} {M : am_Me} {pc : Nat} {L : List (Option am_V)} {st : List am_V} {m : am_M} {Q : am_Q} {idx ci k r : Nat} (hd : decode M.2.1 pc = .ok (.getfield idx, 3)) (hf : am_fl M.2.2.2.2.1 idx ci k) (hk : am_fk (am_ty ci k) = 1) (hr : am_ob m r ci) (kk : X G d a b M (pc + 3) L (rV (m.2.1 r k) :: st) m Q) : X G d a b M pc L (rV (some r) :: st) m Q := by
  intro hG p e R s mid args below meth c H locs cells slots mc ms ls hI hH hL hS
  obtain ⟨C, T, N, hc, hkN, hw⟩ := hf
  have h9 := am_cls hc
  have hP := am_one hH hr.2.2 hr.1
  rw [am_e_ob hr.2.1 h9.1] at hP
  have kk := kk hG p e R s mid args below meth c H locs cells slots mc ms ls hI hH hL (Xs1 (v := rV (m.2.1 r k)) trivial (Xst hS))
  rw [List.map_cons, ← am_fvP (ci := ci) hk] at kk
  exact va_get hI.1 hI.2.1 (am_uws hG hI.2.2.2.2.2.2.2.2.1 hc args) (fun w h => h) hI.2.2.2.2.2.2.2.1 (am_K hG hI.2.2.2.2.2.2.2.2.1) hP 0 rfl hc k hkN (am_word hG hI.2.2.2.2.2.2.2.2.1 hw rfl args) (fun x h => h) (am_fs_at (by omega)) hd kk
/-- the update of a field, in the machine's words -/
theorem am_putW {G : am_G} {p : Program} {e : Env} {R : Room} {s : State} {mid : MethodId} {args : Array Value} {below : List Frame} {meth : Method} {c : Code} {H : Heap} {locs : List Loc} {cells slots : Nat} {Z : State → Prop} {own : String} {cc : ByteArray} {pc : Nat} {ls : Array Slot} {rest : List Value} {m m' : am_M} {idx ci k r : Nat} {v : Value} {C : String} {T : u_T} {N : Nat}
    (hG : am_ok G) (hx : p.tables.exec = Jvm.exec) (hb : c.code = cc) (hown : s.vm.findClass own = some mid.cls) (hW : G.2.1.WarmedH s.vm) (hH : am_HR G m H) (hr : am_obw m r ci) (hc : vwCl[ci]? = some (C, T, N)) (hk : k < N) (hw : Cond.fieldLink own idx (T k).1 (T k).2.1 (T k).2.2.1 ∈ lw_tbl)
    (hfin : (T k).2.2.2 = false ∨ (T k).2.2.2 = true ∧ (T k).1 = own ∧ meth.name = "<init>") (hn : narrow (am_ty ci k) v = v) (hfit : fits (am_ty ci k) v = true) (hm' : m'.2.2 = m.2.2 ∧ (∀ q, q ≠ r → m'.1 q = m.1 q) ∧ (∀ q, q ≠ r → m'.2.1 q = m.2.1 q)) (hwm : am_wm m') (hv : ∀ j, j < N → updV (am_fv G m r ci) k v j = am_fv G m' r ci j)
    (hd : decode cc pc = .ok (.putfield idx, 3)) (kk : ∀ (H1 : Heap) (sl : Nat), am_HR G m' H1 → H1.size = H.size → W p G.1 e R s mid args below meth c H1 (locs ++ [⟨am_ad G r, sl⟩]) cells slots Z (F0 mid (pc + 3) ls rest)) : W p G.1 e R s mid args below meth c H locs cells slots Z (F0 mid pc ls (v :: .ref (am_ad G r) :: rest)) := by
  have h9 := am_cls hc
  have hts := am_uws hG hW hc args
  have hK := am_K hG hW
  have hap := va_apart (own := own) hts (fun w h => h) (am_ty ci) h9.2.2.2.1 h9.2.2.2.2 hK hc
  have hat := hH.2.1 r hr.2.2 hr.1
  rw [am_e_ob hr.2.1 h9.1] at hat
  obtain ⟨r9, h1, cell, q1, q2, q3, q4⟩ := hat
  have hr9 : r9 = (C, T, N) := Option.some.inj (h1.symm.trans hc)
  subst hr9
  obtain ⟨hSl, hfc, kC, hkC, hkind⟩ := hK.1 ci _ hc
  obtain ⟨cf, kf, fi, f, hi, hsl⟩ := hSl k hk
  have hst := (u_facts hfc hkC (u_lays hts (fun w h => h) hk) hi).1
  have hlink := am_word hG hW hw rfl args
  have hdes := h9.2.2.2.1 k hk
  have hlt : f.slot < cell.slots.size := by rw [hsl]; exact k2_hasslot (q4 k hk)
  have go : ∀ H1 : Heap, H1[am_ad G r]? = some (cell.setSlot f.slot v) → H1.size = H.size → (∀ q, q ≠ am_ad G r → H1[q]? = H[q]?) → W p G.1 e R s mid args below meth c H1 (locs ++ [⟨am_ad G r, f.slot⟩]) cells slots Z (F0 mid (pc + 3) ls rest) := by
    intro H1 e1 e2 e3
    refine kk H1 f.slot (am_stored hG.2.2.1 hH hr.2.2 hm'.1 hm'.2.1 hm'.2.2 hwm ?_ e2 e3) e2
    rw [am_e_ob (m := m') (ci := ci) (by rw [hm'.1]; exact hr.2.1) h9.1]
    rw [hsl] at e1
    have q5 : ∀ j, j < N → cell.slots[G.2.2.2.1.2 ci j]? = some (am_fv G m r ci j) := fun j hj => by rw [q4 j hj, am_vV (by omega)]
    refine ⟨_, hc, t_OB.to (V := updV (am_fv G m r ci) k v) ⟨_, e1, q2, q3, t_set q5 hap hk v⟩ (fun j hj => ?_)⟩
    have hj : j < N := hj
    rw [am_vV (by omega)]
    exact hv j hj
  have hlay := hts _ (u_in_lay hk)
  unfold u_lay at hlay
  rcases hfin with hf | ⟨hf, hdecl, hin⟩
  · rw [if_neg (by rw [hf]; decide)] at hlay
    have h6 := u_store hfc hkC hkind hlay hi hdes hn hfit
    exact W.putK hx hb (f := f) ⟨hown, hlink, ⟨_, _, _, hi⟩, hst⟩ (by rw [q2]; exact h6) q1 q3 hlt rfl rfl hd go
  · rw [if_pos hf] at hlay
    have hcf : mid.cls = cf := by
      obtain ⟨_, _, c', _, _, _, -, -, hf', -, -, -, hown2, -⟩ := Cond.laysFinal_spec hlay
      have e1 : c' = cf := by have := hi.symm.trans hf'; simp at this; exact this.1.symm
      rw [hdecl] at hown2
      rw [← e1]; exact Option.some.inj (hown.symm.trans hown2)
    have h6 := u_fits hfc hkC hkind (Or.inr hlay) hi hdes hn hfit
    exact W.putFinK hx hb hown hlink hi hst hcf hin (by rw [q2]; exact h6) q1 q3 hlt rfl rfl hd go
theorem am_In_put {G : am_G} {d a b : Nat} {M : am_Me} {p : Program} {R : Room} {s : State} {mid : MethodId} {meth : Method} {c : Code} {H H1 : Heap} {locs : List Loc} {cells slots mc ms : Nat} (hI : am_In G d a b M p R s mid meth c H locs cells slots mc ms) (z : H1.size = H.size) {r sl : Nat} (h0 : r ≠ 0) : am_In G d a b M p R s mid meth c H1 (locs ++ [⟨am_ad G r, sl⟩]) cells slots mc ms := by
  obtain ⟨h1, h2, h3, h4, h5, h6, h7, h8, h9, h10, h11, h12, h13, h14, h15, h16, h17, h18, h19⟩ := hI
  refine ⟨h1, h2, h3, h4, h5, h6, h7, h8, h9, h10, h11, h12, h13, h14, h15, h16, by rw [z]; exact h17, fun q hq => ?_, h19⟩
  rcases List.mem_append.mp hq with h | h
  · exact h18 q h
  · rw [List.mem_singleton.mp h]
    exact am_ad_fr h0
theorem am_updI {G : am_G} {m : am_M} {r ci k : Nat} {z : Int} (hk : am_fk (am_ty ci k) ≠ 1) (j : Nat) : updV (am_fv G m r ci) k (.int (Int32.ofInt z)) j = am_fv G (am_wI m r k z) r ci j := by
  unfold updV
  by_cases hj : j = k
  · subst hj
    rw [if_pos rfl, am_fvI hk]
    show _ = am_tr G (iV (u2 m.1 r j z r j))
    rw [u2_same]; rfl
  · rw [if_neg hj]
    unfold am_fv
    show _ = if am_fk (am_ty ci j) = 1 then va_rf ((m.2.1 r j).map (am_ad G)) else .int (Int32.ofInt (u2 m.1 r k z r j))
    rw [u2_ne _ (Or.inr hj)]
theorem am_updP {G : am_G} {m : am_M} {r ci k : Nat} {q : Option Nat} (hk : am_fk (am_ty ci k) = 1) (j : Nat) : updV (am_fv G m r ci) k (am_tr G (rV q)) j = am_fv G (am_wP m r k q) r ci j := by
  unfold updV
  by_cases hj : j = k
  · subst hj
    rw [if_pos rfl, am_fvP hk]
    show _ = am_tr G (rV (u2 m.2.1 r j q r j))
    rw [u2_same]
  · rw [if_neg hj]
    unfold am_fv
    show _ = if am_fk (am_ty ci j) = 1 then va_rf ((u2 m.2.1 r k q r j).map (am_ad G)) else .int (Int32.ofInt (m.1 r j))
    rw [u2_ne _ (Or.inr hj)]
theorem X_putI {G : am_G} {d a b : Nat} {M : am_Me} {pc : Nat} {L : List (Option am_V)} {st : List am_V} {m : am_M} {Q : am_Q} {idx ci k r : Nat} {z : Int} (hd : decode M.2.1 pc = .ok (.putfield idx, 3)) (hf : am_fw M.2.2.2.2.1 idx ci k) (hk : am_ty ci k = .int) (hr : am_obw m r ci) (kk : X G d a b M (pc + 3) L st (am_wI m r k z) Q) : X G d a b M pc L (iV z :: rV (some r) :: st) m Q := by
  intro hG p e R s mid args below meth c H locs cells slots mc ms ls hI hH hL hS
  obtain ⟨C, T, N, hc, hkN, hw, hfin⟩ := hf
  have hk1 : am_fk (am_ty ci k) ≠ 1 := by rw [hk]; decide
  exact am_putW (m' := am_wI m r k z) hG hI.1 hI.2.1 hI.2.2.2.2.2.2.2.1 hI.2.2.2.2.2.2.2.2.1 hH hr hc hkN hw (Or.inl hfin) (by rw [hk]; rfl) (by rw [hk]; rfl) ⟨rfl, fun q hq => u2_row _ hq, fun _ _ => rfl⟩
    (am_wm_wI hH.1 (by rw [if_neg (by rw [hr.2.1]; have := (am_cls hc).1; omega)]; exact Xsh hS)) (fun j _ => am_updI hk1 j) hd (fun H1 sl h1 z1 => kk hG p e R s mid args below meth c H1 _ cells slots mc ms ls (am_In_put hI z1 hr.2.2) h1 hL (Xst2 hS))
theorem X_putZ {G : am_G} {d a b : Nat} {M : am_Me} {pc : Nat} {L : List (Option am_V)} {st : List am_V} {m : am_M} {Q : am_Q} {idx ci k r : Nat} {z : Int} (hd : decode M.2.1 pc = .ok (.putfield idx, 3)) (hf : am_fw M.2.2.2.2.1 idx ci k) (hk : am_ty ci k = .boolean) (hz : z = 0 ∨ z = 1) (hr : am_obw m r ci) (kk : X G d a b M (pc + 3) L st (am_wI m r k z) Q) : X G d a b M pc L (iV z :: rV (some r) :: st) m Q := by
  intro hG p e R s mid args below meth c H locs cells slots mc ms ls hI hH hL hS
  obtain ⟨C, T, N, hc, hkN, hw, hfin⟩ := hf
  have hk1 : am_fk (am_ty ci k) ≠ 1 := by rw [hk]; decide
  exact am_putW (m' := am_wI m r k z) hG hI.1 hI.2.1 hI.2.2.2.2.2.2.2.1 hI.2.2.2.2.2.2.2.2.1 hH hr hc hkN hw (Or.inl hfin) (by rw [hk]; rcases hz with rfl | rfl <;> rfl) (by rw [hk]; rcases hz with rfl | rfl <;> rfl) ⟨rfl, fun q hq => u2_row _ hq, fun _ _ => rfl⟩
    (am_wm_wI hH.1 (by rw [if_neg (by rw [hr.2.1]; have := (am_cls hc).1; omega)]; exact Xsh hS)) (fun j _ => am_updI hk1 j) hd (fun H1 sl h1 z1 => kk hG p e R s mid args below meth c H1 _ cells slots mc ms ls (am_In_put hI z1 hr.2.2) h1 hL (Xst2 hS))
theorem am_fitP {G : am_G} {ty : FieldType} (h : am_fk ty = 1) (q : Option Nat) : narrow ty (am_tr G (rV q)) = am_tr G (rV q) ∧ fits ty (am_tr G (rV q)) = true := by
  cases ty <;> first | (cases q <;> exact ⟨rfl, rfl⟩) | exact absurd h (by decide)
theorem X_putP {G : am_G} {d a b : Nat} {M : am_Me} {pc : Nat} {L : List (Option am_V)} {st : List am_V} {m : am_M} {Q : am_Q} {idx ci k r : Nat} {q : Option Nat} (hd : decode M.2.1 pc = .ok (.putfield idx, 3)) (hf : am_fw M.2.2.2.2.1 idx ci k) (hk : am_fk (am_ty ci k) = 1) (hr : am_obw m r ci) (kk : X G d a b M (pc + 3) L st (am_wP m r k q) Q) : X G d a b M pc L (rV q :: rV (some r) :: st) m Q := by
  intro hG p e R s mid args below meth c H locs cells slots mc ms ls hI hH hL hS
  obtain ⟨C, T, N, hc, hkN, hw, hfin⟩ := hf
  exact am_putW (m' := am_wP m r k q) hG hI.1 hI.2.1 hI.2.2.2.2.2.2.2.1 hI.2.2.2.2.2.2.2.2.1 hH hr hc hkN hw (Or.inl hfin) (am_fitP hk q).1 (am_fitP hk q).2 ⟨rfl, fun _ _ => rfl, fun x hx => u2_row _ hx⟩
    (am_wm_wP hH.1) (fun j _ => am_updP hk j) hd (fun H1 sl h1 z1 => kk hG p e R s mid args below meth c H1 _ cells slots mc ms ls (am_In_put hI z1 hr.2.2) h1 hL (Xst2 hS))
theorem X_putPF {G : am_G} {d a b : Nat} {M : am_Me} {pc : Nat} {L : List (Option am_V)} {st : List am_V} {m : am_M} {Q : am_Q} {idx ci k r : Nat} {q : Option Nat} (hd : decode M.2.1 pc = .ok (.putfield idx, 3)) (hf : am_ff M.2.2.2.2.1 idx ci k) (hi : M.1.name = "<init>") (hk : am_fk (am_ty ci k) = 1) (hr : am_obw m r ci) (kk : X G d a b M (pc + 3) L st (am_wP m r k q) Q) : X G d a b M pc L (rV q :: rV (some r) :: st) m Q := by
  intro hG p e R s mid args below meth c H locs cells slots mc ms ls hI hH hL hS
  obtain ⟨C, T, N, hc, hkN, hw, hfin, hown⟩ := hf
  exact am_putW (m' := am_wP m r k q) hG hI.1 hI.2.1 hI.2.2.2.2.2.2.2.1 hI.2.2.2.2.2.2.2.2.1 hH hr hc hkN hw (Or.inr ⟨hfin, hown, hI.2.2.2.2.2.1.trans hi⟩) (am_fitP hk q).1 (am_fitP hk q).2 ⟨rfl, fun _ _ => rfl, fun x hx => u2_row _ hx⟩
    (am_wm_wP hH.1) (fun j _ => am_updP hk j) hd (fun H1 sl h1 z1 => kk hG p e R s mid args below meth c H1 _ cells slots mc ms ls (am_In_put hI z1 hr.2.2) h1 hL (Xst2 hS))
