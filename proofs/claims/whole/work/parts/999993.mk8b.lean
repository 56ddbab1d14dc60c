/-! THE CLASS is made: its parts one by one -/
theorem cl_8_20 : Cond.classLink RX8 20 RX7 ∈ lw_tbl := List.mem_of_getElem? (i := 136) (by decide +kernel)
theorem in_7 : Cond.instantiable RX7 2 ∈ lw_tbl := List.mem_of_getElem? (i := 137) (by decide +kernel)
theorem cl_8_27 : Cond.classLink RX8 27 RX3 ∈ lw_tbl := List.mem_of_getElem? (i := 153) (by decide +kernel)
theorem in_3 : Cond.instantiable RX3 6 ∈ lw_tbl := List.mem_of_getElem? (i := 154) (by decide +kernel)
theorem cl_8_37 : Cond.classLink RX8 37 RX1 ∈ lw_tbl := List.mem_of_getElem? (i := 260) (by decide +kernel)
theorem in_1 : Cond.instantiable RX1 9 ∈ lw_tbl := List.mem_of_getElem? (i := 261) (by decide +kernel)
theorem cl_8_47 : Cond.classLink RX8 47 RX0 ∈ lw_tbl := List.mem_of_getElem? (i := 306) (by decide +kernel)
theorem in_0 : Cond.instantiable RX0 9 ∈ lw_tbl := List.mem_of_getElem? (i := 307) (by decide +kernel)
theorem cl_8_54 : Cond.classLink RX8 54 RX6 ∈ lw_tbl := List.mem_of_getElem? (i := 345) (by decide +kernel)
theorem in_6 : Cond.instantiable RX6 8 ∈ lw_tbl := List.mem_of_getElem? (i := 346) (by decide +kernel)
theorem cl_8_61 : Cond.classLink RX8 61 RX5 ∈ lw_tbl := List.mem_of_getElem? (i := 378) (by decide +kernel)
theorem in_5 : Cond.instantiable RX5 6 ∈ lw_tbl := List.mem_of_getElem? (i := 379) (by decide +kernel)
theorem Gz.fr {m : am_M} {cnt : Nat} (h : Gz m cnt) : am_fresh m := ⟨h.1, (h.2.2 _ (Nat.le_of_eq h.2.1.symm)).1, (h.2.2 _ (Nat.le_of_eq h.2.1.symm)).2⟩
theorem Gz.fz {m : am_M} {cnt ci : Nat} (h : Gz m cnt) : Fz (am_al m ci 0) cnt := ⟨h.1, by show m.2.2.2.1 + 1 = _; rw [h.2.1], h.2.2⟩
theorem Gz.ci {m : am_M} {cnt ci : Nat} (h : Gz m cnt) : ((am_al m ci 0).2.2.1 cnt).1 = ci := by
  show ((if cnt = m.2.2.2.1 then _ else _) : Nat × Nat).1 = ci
  rw [if_pos h.2.1.symm]
