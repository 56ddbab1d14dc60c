/-! MATH, NEST MATES, COPIES -/
theorem am_rM {d x f l : Nat} (h1 : d + 16 ≤ f) (h2 : 40 * d + 300 ≤ l) (h3 : x ≤ 8) : 1 ≤ f ∧ x + 13 ≤ l ∧ x + 15 ≤ l ∧ x + 200 ≤ l := by omega
theorem am_catS {G : am_G} {rest : List am_V} (h : (rest.map am_wd).sum ≤ 8) : ((rest.map (am_tr G)).map fun v => v.category).sum ≤ 8 := by
  have e : (rest.map (am_tr G)).map (fun v => v.category) = rest.map am_wd := by
    rw [List.map_map]
    exact List.map_congr_left fun v _ => am_wd_eq G v
  rw [e]; exact h
theorem o32_max {x y : Int} (hx : i32 x) (hy : i32 y) : (if Int32.ofInt x < Int32.ofInt y then Int32.ofInt y else Int32.ofInt x) = Int32.ofInt (max x y) := by
  by_cases h : x < y
  · rw [if_pos ((o32_lt hx hy).mpr h), Int.max_eq_right (by omega)]
  · rw [if_neg (fun q => h ((o32_lt hx hy).mp q)), Int.max_eq_left (by omega)]
theorem i32_max {x y : Int} (hx : i32 x) (hy : i32 y) : i32 (max x y) := by
  rcases Int.le_total x y with h | h
  · rw [Int.max_eq_right h]; exact hy
  · rw [Int.max_eq_left h]; exact hx
theorem i32_min {x y : Int} (hx : i32 x) (hy : i32 y) : i32 (min x y) := by
  rcases Int.le_total x y with h | h
  · rw [Int.min_eq_left h]; exact hx
  · rw [Int.min_eq_right h]; exact hy
theorem i64_max {x y : Int} (hx : i64 x) (hy : i64 y) : i64 (max x y) := by
  rcases Int.le_total x y with h | h
  · rw [Int.max_eq_right h]; exact hy
  · rw [Int.max_eq_left h]; exact hx
theorem i64_min {x y : Int} (hx : i64 x) (hy : i64 y) : i64 (min x y) := by
  rcases Int.le_total x y with h | h
  · rw [Int.min_eq_left h]; exact hx
  · rw [Int.min_eq_right h]; exact hy
theorem mm_w : (Cond.static Lib.Math.max.name ∈ lw_tbl ∧ Cond.initialized "java/lang/Math" ∈ lw_tbl ∧ Cond.code Lib.Math.max.name Lib.Math.max.code 2 (some .int) ∈ lw_tbl) ∧ (Cond.static Lib.Math.min.name ∈ lw_tbl ∧ Cond.code Lib.Math.min.name Lib.Math.min.code 2 (some .int) ∈ lw_tbl) ∧ (Cond.static Lib.MathLoose.max_long.x ∈ lw_tbl ∧ Cond.code Lib.MathLoose.max_long.x Lib.MathLoose.max_long.code 4 (some .long) ∈ lw_tbl) ∧ Cond.static Lib.MathLoose.min_long.x ∈ lw_tbl ∧ Cond.code Lib.MathLoose.min_long.x Lib.MathLoose.min_long.code 4 (some .long) ∈ lw_tbl := by decide +kernel
theorem X_maxI {G : am_G} {d a b : Nat} {M : am_Me} {pc : Nat} {L : List (Option am_V)} {rest : List am_V} {m : am_M} {Q : am_Q} {idx : Nat} {x y : Int} (hd : decode M.2.1 pc = .ok (.invokestatic idx, 3)) (hl : Cond.methodLink M.2.2.2.2.1 idx Lib.Math.max.name ∈ lw_tbl) (h8 : (rest.map am_wd).sum ≤ 8) (k : X G d a b M (pc + 3) L (iV (max x y) :: rest) m Q) : X G d a b M pc L (iV y :: iV x :: rest) m Q := by
  intro hG p e R s mid args below meth c H locs cells slots mc ms ls hI hH hL hS
  have hW := hI.2.2.2.2.2.2.2.2.1
  have hr := am_rM hI.2.2.2.2.2.2.2.2.2.1 hI.2.2.2.2.2.2.2.2.2.2.1 (am_catS (G := G) h8)
  have hbud := hI.2.2.2.2.2.2.2.2.2.2.2
  refine va_mmax hI.1 hI.2.1 (hI.2.2.1.trans hL.1.symm) hI.2.2.2.2.2.2.2.1 (am_word hG hW hl rfl _) (am_word hG hW mm_w.1.1 rfl _) (am_word hG hW mm_w.1.2.1 rfl _) (am_word hG hW mm_w.1.2.2 rfl _) hr.1 hr.2.1 (by omega) (by omega) hd ?_
  rw [o32_max (Xsh2 hS) (Xsh hS)]
  exact k hG p e R s mid args below meth c H locs cells slots mc ms ls hI hH hL (Xs1 (i32_max (Xsh2 hS) (Xsh hS)) (Xst2 hS))
/-- a nest mate's static method -/
def am_mn (own : String) (idx : Nat) (M' : am_Me) : Prop := ∃ host : String, Cond.methodLinkNest own idx M'.1 host ∈ lw_tbl
theorem X_callSN {G : am_G} {d a b a' b' : Nat} {M M' : am_Me} {pc : Nat} {L : List (Option am_V)} {st rest As : List am_V} {m : am_M} {Q : am_Q} {idx n : Nat} (hd : decode M.2.1 pc = .ok (.invokestatic idx, 3)) (hm : am_ms M' n) (hl : am_mn M.2.2.2.2.1 idx M') (hst : st = As.reverse ++ rest) (hn : As.length = n) (h8 : (rest.map am_wd).sum ≤ 8) (hh : M.2.2.2.2.2 = []) (hd1 : 1 ≤ d) (ha : a' ≤ a) (hb : b' ≤ b)
    (k : T G (d - 1) a' b' M' As m (am_go (fun r m' => X G d (a - a') (b - b') M (pc + 3) L (r.toList ++ rest) m' Q) (fun k m' => Q (.inr k) m'))) : X G d a b M pc L st m Q := by
  intro hG p e R s mid args below meth c H locs cells slots mc ms ls hI hH hL hS
  subst hst
  have hW := hI.2.2.2.2.2.2.2.2.1
  have hS2 : ∀ v ∈ rest, am_wv v := fun v h => hS v (List.mem_append_right _ h)
  have hSA : ∀ v ∈ As, am_wv v := fun v h => hS v (List.mem_append_left _ (List.mem_reverse.mpr h))
  obtain ⟨hmm, hstat⟩ := hm
  obtain ⟨hh', hc, hi, hmh, hn', h20⟩ := hmm
  obtain ⟨host, hl⟩ := hl
  have hcw : am_cw M' = .code M'.1 M'.2.1 M'.2.2.1 M'.2.2.2.1 := by unfold am_cw; rw [if_pos hh']
  have f1 : (am_rm (d - 1) a' b').frames + 1 ≤ R.frames := by have := hI.2.2.2.2.2.2.2.2.2.1; simp only [am_rm]; omega
  have f2 : 8 + (M'.2.2.1 + 11) + (am_rm (d - 1) a' b').locals ≤ R.locals := am_locs20 hd1 h20 hI.2.2.2.2.2.2.2.2.2.2.1
  have f3 : ∀ w ∈ [am_cw M'], ∀ (a9 : Array Value) (U : State), s.WarmedH U.vm → w.before a9 U = true := fun w hw a9 U hU => by
    rw [List.mem_singleton.mp hw]
    exact am_word hG (State.WarmedH.trans hW hU) hc (am_cwGood M') _
  have f4 : Cond.code M'.1 M'.2.1 M'.2.2.1 M'.2.2.2.1 ∈ [am_cw M'] := List.mem_singleton.mpr hcw.symm
  have f5 : (am_cw M').before args s = true := am_word hG hW hc (am_cwGood M') _
  have f6 : (Cond.initialized M'.1.cls).before args s = true := am_word hG hW hi rfl _
  have f7 : (Cond.methodLinkNest M.2.2.2.2.1 idx M'.1 host).before args s = true := va_Nw.use rfl (va_Nw.warmM hW (va_Nw.of rfl (hG.1 _ hl)))
  rw [hcw] at f5
  have hrun := vx_runSN (p := p) (l := G.1) (e := e) (R := R) (s := s) (m := mid) (args := args) (below := below) (meth := meth) (c := c) (H := H) (locs := locs) (cells := cells) (slots := slots) (Ts := []) (nL := M.2.2.1) (n := n) (As := As.map (am_tr G)) (rest := rest.map (am_tr G)) (g := F0 mid pc ls ((As.reverse ++ rest).map (am_tr G)))
    ⟨hI.1, hI.2.1, hI.2.2.1, hI.2.2.2.2.2.2.2.1, fun _ h => nomatch h⟩ (k hG hSA)
    ⟨⟨⟨rfl, rfl, f1, f2, f3, f4⟩, f5, f6, hmh, am_lenA hn', f7⟩, am_word hG hW hstat rfl _, trivial⟩
    ⟨am_blind _ _ _, am_pre hW hH rfl⟩ rfl (by simp [hn]) hL.1 (by simp) (am_wdSum h8 _ _ _ _) hd (by have := hI.2.2.2.2.2.2.2.2.2.2.2; omega)
  exact am_after hG hI hL hS2 ha hb hrun (fun _ _ h => h) (fun _ _ _ _ _ _ h1 h2 h3 h4 h5 h6 => am_out hh h2 h1 h3 h4 h5 h6)
