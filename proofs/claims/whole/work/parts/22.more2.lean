/-! MORE OF MATH; wide text constants -/
theorem o32_min {x y : Int} (hx : i32 x) (hy : i32 y) : (if Int32.ofInt y < Int32.ofInt x then Int32.ofInt y else Int32.ofInt x) = Int32.ofInt (min x y) := by
  by_cases h : y < x
  · rw [if_pos ((o32_lt hy hx).mpr h), Int.min_eq_right (by omega)]
  · rw [if_neg (fun q => h ((o32_lt hy hx).mp q)), Int.min_eq_left (by omega)]
theorem o64_max {x y : Int} (hx : i64 x) (hy : i64 y) : (if Int64.ofInt y < Int64.ofInt x then Int64.ofInt x else Int64.ofInt y) = Int64.ofInt (max x y) := by
  by_cases h : y < x
  · rw [if_pos ((o64_lt hy hx).mpr h), Int.max_eq_left (by omega)]
  · rw [if_neg (fun q => h ((o64_lt hy hx).mp q)), Int.max_eq_right (by omega)]
theorem o64_min {x y : Int} (hx : i64 x) (hy : i64 y) : (if Int64.ofInt y < Int64.ofInt x then Int64.ofInt y else Int64.ofInt x) = Int64.ofInt (min x y) := by
  by_cases h : y < x
  · rw [if_pos ((o64_lt hy hx).mpr h), Int.min_eq_right (by omega)]
  · rw [if_neg (fun q => h ((o64_lt hy hx).mp q)), Int.min_eq_left (by omega)]
theorem X_minI {G : am_G} {d a b : Nat} {M : am_Me} {pc : Nat} {L : List (Option am_V)} {rest : List am_V} {m : am_M} {Q : am_Q} {idx : Nat} {x y : Int} (hd : decode M.2.1 pc = .ok (.invokestatic idx, 3)) (hl : Cond.methodLink M.2.2.2.2.1 idx Lib.Math.min.name ∈ lw_tbl) (h8 : (rest.map am_wd).sum ≤ 8) (k : X G d a b M (pc + 3) L (iV (min x y) :: rest) m Q) : X G d a b M pc L (iV y :: iV x :: rest) m Q := by
  intro hG p e R s mid args below meth c H locs cells slots mc ms ls hI hH hL hS
  have hW := hI.2.2.2.2.2.2.2.2.1
  have hr := am_rM hI.2.2.2.2.2.2.2.2.2.1 hI.2.2.2.2.2.2.2.2.2.2.1 (am_catS (G := G) h8)
  have hbud := hI.2.2.2.2.2.2.2.2.2.2.2
  refine va_mmin hI.1 hI.2.1 (hI.2.2.1.trans hL.1.symm) hI.2.2.2.2.2.2.2.1 (am_word hG hW hl rfl _) (am_word hG hW mm_w.2.1.1 rfl _) (am_word hG hW mm_w.1.2.1 rfl _) (am_word hG hW mm_w.2.1.2 rfl _) hr.1 hr.2.1 (by omega) (by omega) hd ?_
  rw [o32_min (Xsh2 hS) (Xsh hS)]
  exact k hG p e R s mid args below meth c H locs cells slots mc ms ls hI hH hL (Xs1 (v := iV (min x y)) (i32_min (Xsh2 hS) (Xsh hS)) (Xst2 hS))
theorem X_maxL {G : am_G} {d a b : Nat} {M : am_Me} {pc : Nat} {L : List (Option am_V)} {rest : List am_V} {m : am_M} {Q : am_Q} {idx : Nat} {x y : Int} (hd : decode M.2.1 pc = .ok (.invokestatic idx, 3)) (hl : Cond.methodLink M.2.2.2.2.1 idx Lib.MathLoose.max_long.x ∈ lw_tbl) (h8 : (rest.map am_wd).sum ≤ 8) (k : X G d a b M (pc + 3) L (lV (max x y) :: rest) m Q) : X G d a b M pc L (lV y :: lV x :: rest) m Q := by
  intro hG p e R s mid args below meth c H locs cells slots mc ms ls hI hH hL hS
  have hW := hI.2.2.2.2.2.2.2.2.1
  have hr := am_rM hI.2.2.2.2.2.2.2.2.2.1 hI.2.2.2.2.2.2.2.2.2.2.1 (am_catS (G := G) h8)
  have hbud := hI.2.2.2.2.2.2.2.2.2.2.2
  refine va_mmax_long hI.1 hI.2.1 (hI.2.2.1.trans hL.1.symm) hI.2.2.2.2.2.2.2.1 (am_word hG hW hl rfl _) (am_word hG hW mm_w.2.2.1.1 rfl _) (am_word hG hW mm_w.1.2.1 rfl _) (am_word hG hW mm_w.2.2.1.2 rfl _) hr.1 hr.2.2.1 (by omega) (by omega) hd ?_
  rw [o64_max (Xsh2 hS) (Xsh hS)]
  exact k hG p e R s mid args below meth c H locs cells slots mc ms ls hI hH hL (Xs1 (v := lV (max x y)) (i64_max (Xsh2 hS) (Xsh hS)) (Xst2 hS))
theorem X_minL {G : am_G} {d a b : Nat} {M : am_Me} {pc : Nat} {L : List (Option am_V)} {rest : List am_V} {m : am_M} {Q : am_Q} {idx : Nat} {x y : Int} (hd : decode M.2.1 pc = .ok (.invokestatic idx, 3)) (hl : Cond.methodLink M.2.2.2.2.1 idx Lib.MathLoose.min_long.x ∈ lw_tbl) (h8 : (rest.map am_wd).sum ≤ 8) (k : X G d a b M (pc + 3) L (lV (min x y) :: rest) m Q) : X G d a b M pc L (lV y :: lV x :: rest) m Q := by
  intro hG p e R s mid args below meth c H locs cells slots mc ms ls hI hH hL hS
  have hW := hI.2.2.2.2.2.2.2.2.1
  have hr := am_rM hI.2.2.2.2.2.2.2.2.2.1 hI.2.2.2.2.2.2.2.2.2.2.1 (am_catS (G := G) h8)
  have hbud := hI.2.2.2.2.2.2.2.2.2.2.2
  refine va_mmin_long hI.1 hI.2.1 (hI.2.2.1.trans hL.1.symm) hI.2.2.2.2.2.2.2.1 (am_word hG hW hl rfl _) (am_word hG hW mm_w.2.2.2.1 rfl _) (am_word hG hW mm_w.1.2.1 rfl _) (am_word hG hW mm_w.2.2.2.2 rfl _) hr.1 hr.2.2.1 (by omega) (by omega) hd ?_
  rw [o64_min (Xsh2 hS) (Xsh hS)]
  exact k hG p e R s mid args below meth c H locs cells slots mc ms ls hI hH hL (Xs1 (v := lV (min x y)) (i64_min (Xsh2 hS) (Xsh hS)) (Xst2 hS))
