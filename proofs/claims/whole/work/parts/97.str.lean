/-! STRING CONSTANTS: length, charAt -/
/-- the bytes of the words -/
def sby : Nat → List Int
  | 1 => [114, 97, 99, 101]
  | 2 => [112, 111, 108, 108]
  | 3 => [99, 111, 109, 112, 97, 114, 101]
  | 4 => [98, 97, 108, 108, 111, 116, 115]
  | 5 => [98, 108, 97, 110, 107]
  | 6 => [111, 102, 102]
  | 7 => [112, 97, 112, 101, 114]
  | 8 => [108, 105, 109, 105, 116]
  | 9 => [102, 97, 99, 116, 111, 114]
  | 10 => [109, 111, 115, 116]
  | 11 => [115, 101, 101, 100]
  | 31 => [109, 97, 110, 121]
  | 32 => [102, 105, 114, 115, 116]
  | 33 => [100, 114, 97, 119, 110]
  | 34 => [110, 111, 116]
  | 35 => [98, 108, 97, 110, 107]
  | 36 => [111, 102, 102]
  | 37 => [110, 117, 109, 98, 101, 114]
  | 38 => [116, 105, 109, 101, 115]
  | 39 => [114, 101, 99, 111, 114, 100]
  | 40 => [112, 97, 112, 101, 114]
  | 41 => [109, 105, 115, 116, 97, 107, 101]
  | 42 => [97, 110, 100]
  | 43 => [111, 114]
  | 44 => [114, 97, 99, 101]
  | 45 => [112, 111, 108, 108]
  | 46 => [99, 111, 109, 112, 97, 114, 101]
  | 47 => [98, 97, 108, 108, 111, 116, 115]
  | 48 => [98, 108, 97, 110, 107]
  | 49 => [111, 102, 102]
  | 50 => [112, 97, 112, 101, 114]
  | 51 => [108, 105, 109, 105, 116]
  | 52 => [102, 97, 99, 116, 111, 114]
  | 53 => [109, 111, 115, 116]
  | 54 => [115, 101, 101, 100]
  | 55 => [109, 97, 110, 121]
  | 56 => [102, 105, 114, 115, 116]
  | 57 => [100, 114, 97, 119, 110]
  | 58 => [110, 111, 116]
  | 59 => [114, 101, 99, 111, 114, 100]
  | 60 => [109, 105, 115, 116, 97, 107, 101]
  | 61 => [110, 117, 109, 98, 101, 114]
  | 62 => [116, 105, 109, 101, 115]
  | 63 => [97, 110, 100]
  | 64 => [111, 114]
  | _ => []
/-- what is known of the String constants -/
def SZ (G : am_G) : Prop := (∀ j, sby j ≠ [] → va_O "java/lang/String" (G.2.2.2.2.1 j) (am_fr G) G.2.1 G.2.1.heap ∧ va_OF "java/lang/String" "coder" "B" (.int 0) (G.2.2.2.2.1 j) (am_fr G) G.2.1 G.2.1.heap ∧ va_OF "java/lang/String" "value" "[B" (.ref (G.2.2.2.2.1 (100 + j))) (G.2.2.2.2.1 j) (am_fr G) G.2.1 G.2.1.heap ∧ va_T .byte (G.2.2.2.2.1 (100 + j)) (sby j).length (fun k => .int (Int32.ofInt ((sby j).getD k 0))) (am_fr G) G.2.1 G.2.1.heap) ∧ va_Z "java/lang/String" "COMPACT_STRINGS" "Z" (.int 1) (am_fr G) G.2.1 G.2.1.heap ∧ ∃ v : am_V, (v = rV none ∨ v = sV 200) ∧ va_Z "jdk/internal/util/Preconditions" "SIOOBE_FORMATTER" "Ljava/util/function/BiFunction;" (am_tr G v) (am_fr G) G.2.1 G.2.1.heap
theorem sby_len (j : Nat) : (sby j).length ≤ 8 := by
  unfold sby
  split <;> decide
theorem sby_in (j : Nat) : ∀ b ∈ sby j, 0 ≤ b ∧ b < 128 := by
  unfold sby
  split <;> decide
theorem sby_at {j k : Nat} (h : k < (sby j).length) : 0 ≤ (sby j).getD k 0 ∧ (sby j).getD k 0 < 128 := by
  have e : (sby j).getD k 0 = (sby j)[k] := by simp [List.getD, h]
  rw [e]
  exact sby_in j _ (List.getElem_mem h)
theorem am_hq {G : am_G} {d a b : Nat} {M : am_Me} {p : Program} {R : Room} {s : State} {mid : MethodId} {meth : Method} {c : Code} {H : Heap} {locs : List Loc} {cells slots mc ms : Nat} (hI : am_In G d a b M p R s mid meth c H locs cells slots mc ms) : ∀ q : Nat, q < G.2.1.heap.size → ¬ am_fr G q → s.heap[q]? = G.2.1.heap[q]? := by
  obtain ⟨h1, h2, h3, h4, h5, h6, h7, h8, h9, h10, h11, h12, h13, h14, h15, h16, h17, h18, h19⟩ := hI
  exact fun q hq _ => h19 q hq
theorem am_vS {G : am_G} {d a b : Nat} {M : am_Me} {p : Program} {R : Room} {s : State} {mid : MethodId} {meth : Method} {c : Code} {H : Heap} {locs : List Loc} {cells slots mc ms : Nat} {m : am_M} (hI : am_In G d a b M p R s mid meth c H locs cells slots mc ms) (hH : am_HR G m H) : va_S (am_fr G) s.heap H locs := by
  obtain ⟨h1, h2, h3, h4, h5, h6, h7, h8, h9, h10, h11, h12, h13, h14, h15, h16, h17, h18, h19⟩ := hI
  refine ⟨h17, fun q hq hn => ?_, h18⟩
  have hq' : q < am_bs G := Nat.lt_of_not_le hn
  rw [hH.2.2.2.2 q hq', h19 q hq']
theorem X_sget {G : am_G} {d a b : Nat} {M : am_Me} {pc : Nat} {L : List (Option am_V)} {st : List am_V} {m : am_M} {Q : am_Q} {idx j : Nat} {n dd : String} (v : am_V) (hd : decode M.2.1 pc = .ok (.getfield idx, 3)) (hl : Cond.fieldLink M.2.2.2.2.1 idx "java/lang/String" n dd ∈ lw_tbl) (hv : am_wv v) (hO : va_OF "java/lang/String" n dd (am_tr G v) (G.2.2.2.2.1 j) (am_fr G) G.2.1 G.2.1.heap) (k : X G d a b M (pc + 3) L (v :: st) m Q) : X G d a b M pc L (sV j :: st) m Q := by
  intro hG p e R s mid args below meth c H locs cells slots mc ms ls hI hH hL hS
  have hW := hI.2.2.2.2.2.2.2.2.1
  have k := k hG p e R s mid args below meth c H locs cells slots mc ms ls hI hH hL (Xs1 hv (Xst hS))
  exact vk_getf hI.1 hI.2.1 ((va_OF.moved hW.alike hO).kept (am_hq hI)) (am_vS hI hH) hI.2.2.2.2.2.2.2.1 (am_word hG hW hl rfl args) (fun x h => h) hd k
theorem X_gets {G : am_G} {d a b : Nat} {M : am_Me} {pc : Nat} {L : List (Option am_V)} {st : List am_V} {m : am_M} {Q : am_Q} {idx : Nat} {C n dd : String} (v : am_V) (hd : decode M.2.1 pc = .ok (.getstatic idx, 3)) (hl : Cond.fieldLink M.2.2.2.2.1 idx C n dd ∈ lw_tbl) (hv : am_wv v) (hO : va_Z C n dd (am_tr G v) (am_fr G) G.2.1 G.2.1.heap) (k : X G d a b M (pc + 3) L (v :: st) m Q) : X G d a b M pc L st m Q := by
  intro hG p e R s mid args below meth c H locs cells slots mc ms ls hI hH hL hS
  have hW := hI.2.2.2.2.2.2.2.2.1
  have k := k hG p e R s mid args below meth c H locs cells slots mc ms ls hI hH hL (Xs1 hv hS)
  exact va_gets hI.1 hI.2.1 ((va_Z.moved hW.alike hO).kept (am_hq hI)) (am_vS hI hH) hI.2.2.2.2.2.2.2.1 (am_word hG hW hl rfl args) (fun x h => h) hd k
theorem X_slen {G : am_G} {d a b : Nat} {M : am_Me} {pc : Nat} {L : List (Option am_V)} {st : List am_V} {m : am_M} {Q : am_Q} {j n : Nat} {f : Nat → Value} (hd : decode M.2.1 pc = .ok (.arraylength, 1)) (hn : n ≤ 8) (hT : va_T .byte (G.2.2.2.2.1 j) n f (am_fr G) G.2.1 G.2.1.heap) (k : X G d a b M (pc + 1) L (iV n :: st) m Q) : X G d a b M pc L (sV j :: st) m Q := by
  intro hG p e R s mid args below meth c H locs cells slots mc ms ls hI hH hL hS
  have hW := hI.2.2.2.2.2.2.2.2.1
  have k := k hG p e R s mid args below meth c H locs cells slots mc ms ls hI hH hL (Xs1 (v := iV n) ⟨by omega, by omega⟩ (Xst hS))
  exact va_tlen hI.1 hI.2.1 ((va_T.moved hW.alike hT).kept (am_hq hI)) (am_vS hI hH) rfl hd k
theorem X_sbald {G : am_G} {d a b : Nat} {M : am_Me} {pc : Nat} {L : List (Option am_V)} {st : List am_V} {m : am_M} {Q : am_Q} {j n : Nat} {z : Int} {f : Nat → Int} (hd : decode M.2.1 pc = .ok (.baload, 1)) (hn : n ≤ 8) (h0 : 0 ≤ z) (h1 : z < n) (hf : i32 (f z.toNat)) (hT : va_T .byte (G.2.2.2.2.1 j) n (fun k => .int (Int32.ofInt (f k))) (am_fr G) G.2.1 G.2.1.heap) (k : X G d a b M (pc + 1) L (iV (f z.toNat) :: st) m Q) : X G d a b M pc L (iV z :: sV j :: st) m Q := by
  intro hG p e R s mid args below meth c H locs cells slots mc ms ls hI hH hL hS
  have hW := hI.2.2.2.2.2.2.2.2.1
  have k := k hG p e R s mid args below meth c H locs cells slots mc ms ls hI hH hL (Xs1 (v := iV (f z.toNat)) hf (Xst2 hS))
  refine va_tb hI.1 hI.2.1 ((va_T.moved hW.alike hT).kept (am_hq hI)) (am_vS hI hH) (o32_in h0 h1 (by omega)) (v := .int (Int32.ofInt (f z.toNat))) ?_ hd k
  rw [o32_cl h0 (by omega)]
def c16 (x : Int) : Int := ((Int32.ofInt x).toUInt32 % 65536).toInt32.toInt
theorem X_i2c {G : am_G} {d a b : Nat} {M : am_Me} {pc : Nat} {L : List (Option am_V)} {st : List am_V} {m : am_M} {Q : am_Q} {x : Int} (hd : decode M.2.1 pc = .ok (.i2c, 1)) (k : X G d a b M (pc + 1) L (iV (c16 x) :: st) m Q) : X G d a b M pc L (iV x :: st) m Q := by
  intro hG p e R s mid args below meth c H locs cells slots mc ms ls hI hH hL hS
  have k := k hG p e R s mid args below meth c H locs cells slots mc ms ls hI hH hL (Xs1 (i32_ti _) (Xst hS))
  exact lv_i2c hI.1 hI.2.1 hd (show ((Int32.ofInt x).toUInt32 % 65536).toInt32 = Int32.ofInt (c16 x) by unfold c16; rw [Int32.ofInt_toInt]) k
theorem X_nret {G : am_G} {d a b : Nat} {M : am_Me} {pc : Nat} {L : List (Option am_V)} {m : am_M} {Q : am_Q} {z : Int} {ty : FieldType} (hd : decode M.2.1 pc = .ok (.ireturn, 1)) (hr : M.2.2.2.1 = some ty) (hz : narrow ty (.int (Int32.ofInt z)) = .int (Int32.ofInt z)) (hQ : Q (.inl (some (iV z))) m) : X G d a b M pc L [iV z] m Q := by
  intro hG p e R s mid args below meth c H locs cells slots mc ms ls hI hH hL hS
  exact am_end hI (W.zret hI.1 hI.2.1 (hI.2.2.2.1.trans hr) hz (am_qc hI hH (r := some (iV z)) (fun v h => by cases h; exact Xsh hS) hQ) (am_locs hI) hd hI.2.2.2.2.1)
/-- an instance method called on a String constant -/
theorem X_callSV {G : am_G} (hz : SZ G) {d a b a' b' : Nat} {M M' : am_Me} {pc : Nat} {L : List (Option am_V)} {st rest As : List am_V} {m : am_M} {Q : am_Q} {idx n j : Nat} (hj : sby j ≠ []) (hd : decode M.2.1 pc = .ok (.invokevirtual idx, 3)) (hm : am_mm M' n ∧ Cond.instanceMethod M'.1 ∈ lw_tbl ∧ Cond.selects "java/lang/String" M'.1 M'.1 ∈ lw_tbl) (hl : Cond.methodLink M.2.2.2.2.1 idx M'.1 ∈ lw_tbl) (hst : st = As.reverse ++ sV j :: rest) (hn : As.length = n) (h8 : (rest.map am_wd).sum ≤ 8) (hh : M.2.2.2.2.2 = []) (hd1 : 1 ≤ d) (ha : a' ≤ a) (hb : b' ≤ b)
    (k : T G (d - 1) a' b' M' (sV j :: As) m (am_go (fun r m' => X G d (a - a') (b - b') M (pc + 3) L (r.toList ++ rest) m' Q) (fun k m' => Q (.inr k) m'))) : X G d a b M pc L st m Q := by
  intro hG p e R s mid args below meth c H locs cells slots mc ms ls hI hH hL hS
  subst hst
  have hW := hI.2.2.2.2.2.2.2.2.1
  have hS2 : ∀ v ∈ rest, am_wv v := fun v h => hS v (List.mem_append_right _ (List.mem_cons_of_mem _ h))
  have hSA : ∀ v ∈ (sV j :: As : List am_V), am_wv v := fun v h => by
    rcases List.mem_cons.mp h with h | h
    · subst h; trivial
    · exact hS v (List.mem_append_left _ (List.mem_reverse.mpr h))
  obtain ⟨hmm, hin, hse⟩ := hm
  have hO := ((va_O.moved hW.alike (hz.1 j hj).1).kept (am_hq hI)).kept (am_vS hI hH).2.1
  obtain ⟨cell, g1, g2, g3, -⟩ := hO
  have hrun := vx_runV (p := p) (l := G.1) (e := e) (R := R) (s := s) (m := mid) (args := args) (below := below) (meth := meth) (c := c) (H := H) (locs := locs) (cells := cells) (slots := slots) (Ts := []) (nL := M.2.2.1) (n := n) (C := "java/lang/String") (b := G.2.2.2.2.1 j) (As := As.map (am_tr G)) (rest := rest.map (am_tr G)) (g := F0 mid pc ls ((As.reverse ++ sV j :: rest).map (am_tr G)))
    ⟨hI.1, hI.2.1, hI.2.2.1, hI.2.2.2.2.2.2.2.1, fun _ h => nomatch h⟩ (k hG hSA)
    ⟨am_callB hG hW hmm hl hd1 hI.2.2.2.2.2.2.2.2.2.1 hI.2.2.2.2.2.2.2.2.2.2.1, am_word hG hW hin rfl _, am_word hG hW hse rfl _⟩
    ⟨am_blind _ _ _, ⟨cell, g1, g2, g3⟩, am_pre hW hH rfl⟩ rfl (by simp [hn]) hL.1 (by simp [am_tr]) (am_wdSum h8 _ _ _ _) hd (by have := hI.2.2.2.2.2.2.2.2.2.2.2; omega)
  exact am_after hG hI hL hS2 ha hb hrun (fun _ _ h => h) (fun _ _ _ _ _ _ h1 h2 h3 h4 h5 h6 => am_out hh h2 h1 h3 h4 h5 h6)
abbrev MJ0_length_8abf5 : am_Me := (yJ0_length_8abf5, cJ0_length_8abf5, 1, (some .int), RJ0, [])
theorem tJ0_length_8abf5 : am_mm MJ0_length_8abf5 0 ∧ Cond.instanceMethod MJ0_length_8abf5.1 ∈ lw_tbl ∧ Cond.selects "java/lang/String" MJ0_length_8abf5.1 MJ0_length_8abf5.1 ∈ lw_tbl := ⟨⟨rfl, List.mem_of_getElem? (i := 742) (by decide +kernel), List.mem_of_getElem? (i := 121) (by decide +kernel), ⟨by decide +kernel, by decide +kernel⟩, by decide +kernel, by decide⟩, List.mem_of_getElem? (i := 740) (by decide +kernel), List.mem_of_getElem? (i := 741) (by decide +kernel)⟩
abbrev MJ0_charAt_5068e : am_Me := (yJ0_charAt_5068e, cJ0_charAt_5068e, 2, (some .char), RJ0, [])
theorem tJ0_charAt_5068e : am_mm MJ0_charAt_5068e 1 ∧ Cond.instanceMethod MJ0_charAt_5068e.1 ∈ lw_tbl ∧ Cond.selects "java/lang/String" MJ0_charAt_5068e.1 MJ0_charAt_5068e.1 ∈ lw_tbl := ⟨⟨rfl, List.mem_of_getElem? (i := 752) (by decide +kernel), List.mem_of_getElem? (i := 121) (by decide +kernel), ⟨by decide +kernel, by decide +kernel⟩, by decide +kernel, by decide⟩, List.mem_of_getElem? (i := 750) (by decide +kernel), List.mem_of_getElem? (i := 751) (by decide +kernel)⟩
abbrev MJ0_coder_7d493 : am_Me := (yJ0_coder_7d493, cJ0_coder_7d493, 1, (some .byte), RJ0, [])
theorem tJ0_coder_7d493 : am_mm MJ0_coder_7d493 0 ∧ Cond.instanceMethod MJ0_coder_7d493.1 ∈ lw_tbl ∧ Cond.selects "java/lang/String" MJ0_coder_7d493.1 MJ0_coder_7d493.1 ∈ lw_tbl := ⟨⟨rfl, List.mem_of_getElem? (i := 746) (by decide +kernel), List.mem_of_getElem? (i := 121) (by decide +kernel), ⟨by decide +kernel, by decide +kernel⟩, by decide +kernel, by decide⟩, List.mem_of_getElem? (i := 744) (by decide +kernel), List.mem_of_getElem? (i := 745) (by decide +kernel)⟩
abbrev MJ0_isLatin1_aae02 : am_Me := (yJ0_isLatin1_aae02, cJ0_isLatin1_aae02, 1, (some .boolean), RJ0, [])
theorem tJ0_isLatin1_aae02 : am_mm MJ0_isLatin1_aae02 0 ∧ Cond.instanceMethod MJ0_isLatin1_aae02.1 ∈ lw_tbl ∧ Cond.selects "java/lang/String" MJ0_isLatin1_aae02.1 MJ0_isLatin1_aae02.1 ∈ lw_tbl := ⟨⟨rfl, List.mem_of_getElem? (i := 756) (by decide +kernel), List.mem_of_getElem? (i := 121) (by decide +kernel), ⟨by decide +kernel, by decide +kernel⟩, by decide +kernel, by decide⟩, List.mem_of_getElem? (i := 754) (by decide +kernel), List.mem_of_getElem? (i := 755) (by decide +kernel)⟩
abbrev MJ0_checkIndex_df160 : am_Me := (yJ0_checkIndex_df160, cJ0_checkIndex_df160, 2, none, RJ0, [])
theorem tJ0_checkIndex_df160 : am_ms MJ0_checkIndex_df160 2 := ⟨⟨rfl, List.mem_of_getElem? (i := 762) (by decide +kernel), List.mem_of_getElem? (i := 121) (by decide +kernel), ⟨by decide +kernel, by decide +kernel⟩, by decide +kernel, by decide⟩, List.mem_of_getElem? (i := 761) (by decide +kernel)⟩
abbrev MJ1_charAt_3b067 : am_Me := (yJ1_charAt_3b067, cJ1_charAt_3b067, 2, (some .char), RJ1, [])
theorem tJ1_charAt_3b067 : am_ms MJ1_charAt_3b067 2 := ⟨⟨rfl, List.mem_of_getElem? (i := 759) (by decide +kernel), List.mem_of_getElem? (i := 122) (by decide +kernel), ⟨by decide +kernel, by decide +kernel⟩, by decide +kernel, by decide⟩, List.mem_of_getElem? (i := 758) (by decide +kernel)⟩
abbrev MJ3_checkIndex_8e157 : am_Me := (yJ3_checkIndex_8e157, cJ3_checkIndex_8e157, 3, (some .int), RJ3, [])
theorem tJ3_checkIndex_8e157 : am_ms MJ3_checkIndex_8e157 3 := ⟨⟨rfl, List.mem_of_getElem? (i := 767) (by decide +kernel), List.mem_of_getElem? (i := 123) (by decide +kernel), ⟨by decide +kernel, by decide +kernel⟩, by decide +kernel, by decide⟩, List.mem_of_getElem? (i := 766) (by decide +kernel)⟩
theorem ml_J0_335 : Cond.methodLink RJ0 335 yJ0_coder_7d493 ∈ lw_tbl := List.mem_of_getElem? (i := 743) (by decide +kernel)
theorem ml_J0_492 : Cond.methodLink RJ0 492 yJ0_isLatin1_aae02 ∈ lw_tbl := List.mem_of_getElem? (i := 753) (by decide +kernel)
theorem ml_J0_495 : Cond.methodLink RJ0 495 yJ1_charAt_3b067 ∈ lw_tbl := List.mem_of_getElem? (i := 757) (by decide +kernel)
theorem ml_J1_9 : Cond.methodLink RJ1 9 yJ0_checkIndex_df160 ∈ lw_tbl := List.mem_of_getElem? (i := 760) (by decide +kernel)
theorem ml_J0_1059 : Cond.methodLink RJ0 1059 yJ3_checkIndex_8e157 ∈ lw_tbl := List.mem_of_getElem? (i := 765) (by decide +kernel)
theorem flJ_38 : Cond.fieldLink RJ0 38 "java/lang/String" "COMPACT_STRINGS" "Z" ∈ lw_tbl := List.mem_of_getElem? (i := 747) (by decide +kernel)
theorem flJ_1053 : Cond.fieldLink RJ0 1053 "jdk/internal/util/Preconditions" "SIOOBE_FORMATTER" "Ljava/util/function/BiFunction;" ∈ lw_tbl := List.mem_of_getElem? (i := 763) (by decide +kernel)
theorem flJ_9 : Cond.fieldLink RJ0 9 "java/lang/String" "value" "[B" ∈ lw_tbl := List.mem_of_getElem? (i := 1882) (by decide +kernel)
theorem flJ_15 : Cond.fieldLink RJ0 15 "java/lang/String" "coder" "B" ∈ lw_tbl := List.mem_of_getElem? (i := 1883) (by decide +kernel)
theorem ian255 (x : Int) (h0 : 0 ≤ x) (h1 : x < 128) : ian x 255 = x := by
  have h : ∀ y : Fin 128, ian ((y.val : Nat) : Int) 255 = (y.val : Int) := by decide +kernel
  have := h ⟨x.toNat, by omega⟩
  simp only [Int.toNat_of_nonneg h0] at this
  exact this
theorem c16_id (x : Int) (h0 : 0 ≤ x) (h1 : x < 128) : c16 x = x := by
  have h : ∀ y : Fin 128, c16 ((y.val : Nat) : Int) = (y.val : Int) := by decide +kernel
  have := h ⟨x.toNat, by omega⟩
  simp only [Int.toNat_of_nonneg h0] at this
  exact this
theorem nar_ch (x : Int) (h0 : 0 ≤ x) (h1 : x < 128) : narrow .char (.int (Int32.ofInt x)) = .int (Int32.ofInt x) := by
  have h : ∀ y : Fin 128, narrow .char (.int (Int32.ofInt ((y.val : Nat) : Int))) = .int (Int32.ofInt (y.val : Int)) := by decide +kernel
  have := h ⟨x.toNat, by omega⟩
  simp only [Int.toNat_of_nonneg h0] at this
  exact this
set_option maxRecDepth 100000
theorem ct_coder {G : am_G} (hz : SZ G) {dp a b : Nat} {m : am_M} {Q : am_Q} {j : Nat} (hj : sby j ≠ []) (h : Q (.inl (some (iV 0))) m) : T G dp a b MJ0_coder_7d493 [sV j] m Q := by
  refine T_of rfl (by decide +kernel) rfl (Nat.le_of_ble_eq_true rfl) ?_
  refine X_gets (iV 1) dJ0_coder_7d493_0 flJ_38 (show i32 1 from ⟨by decide, by decide⟩) hz.2.1 ?_
  refine X_if_eq dJ0_coder_7d493_3 (tgt := 13) rfl (fun z => absurd z (by decide)) (fun _ => ?_)
  refine X_saload_n dJ0_coder_7d493_6 rfl rfl ?_
  refine X_sget (iV 0) dJ0_coder_7d493_7 flJ_15 (show i32 0 from ⟨by decide, by decide⟩) (hz.1 j hj).2.1 ?_
  refine X_goto dJ0_coder_7d493_10 (tgt := 14) rfl ?_
  exact X_nret dJ0_coder_7d493_14 rfl rfl h
theorem ct_isLatin1 {G : am_G} (hz : SZ G) {dp a b : Nat} {m : am_M} {Q : am_Q} {j : Nat} (hj : sby j ≠ []) (h : Q (.inl (some (iV 1))) m) : T G dp a b MJ0_isLatin1_aae02 [sV j] m Q := by
  refine T_of rfl (by decide +kernel) rfl (Nat.le_of_ble_eq_true rfl) ?_
  refine X_gets (iV 1) dJ0_isLatin1_aae02_0 flJ_38 (show i32 1 from ⟨by decide, by decide⟩) hz.2.1 ?_
  refine X_if_eq dJ0_isLatin1_aae02_3 (tgt := 17) rfl (fun z => absurd z (by decide)) (fun _ => ?_)
  refine X_saload_n dJ0_isLatin1_aae02_6 rfl rfl ?_
  refine X_sget (iV 0) dJ0_isLatin1_aae02_7 flJ_15 (show i32 0 from ⟨by decide, by decide⟩) (hz.1 j hj).2.1 ?_
  refine X_if_ne dJ0_isLatin1_aae02_10 (tgt := 17) rfl (fun z => absurd rfl z) (fun _ => ?_)
  refine X_iconst (hn := ⟨by decide, by decide⟩) dJ0_isLatin1_aae02_13 ?_
  refine X_goto dJ0_isLatin1_aae02_14 (tgt := 18) rfl ?_
  exact X_nret dJ0_isLatin1_aae02_18 rfl rfl h
theorem ct_slength {G : am_G} (hz : SZ G) {dp a b : Nat} {m : am_M} {Q : am_Q} {j : Nat} (hd : 1 ≤ dp) (hj : sby j ≠ []) (h : Q (.inl (some (iV (sby j).length))) m) : T G dp a b MJ0_length_8abf5 [sV j] m Q := by
  refine T_of rfl (by decide +kernel) rfl (Nat.le_of_ble_eq_true rfl) ?_
  refine X_saload_n dJ0_length_8abf5_0 rfl rfl ?_
  refine X_sget (sV (100 + j)) dJ0_length_8abf5_1 flJ_9 trivial (hz.1 j hj).2.2.1 ?_
  refine X_slen dJ0_length_8abf5_4 (sby_len j) (hz.1 j hj).2.2.2 ?_
  refine X_saload_n dJ0_length_8abf5_5 rfl rfl ?_
  refine X_callSV (a' := 0) (b' := 0) hz hj dJ0_length_8abf5_6 tJ0_coder_7d493 ml_J0_335 (As := []) rfl rfl (by simp [am_wd]) rfl hd (Nat.zero_le _) (Nat.zero_le _) (ct_coder hz hj ?_)
  show X G dp (a - 0) (b - 0) MJ0_length_8abf5 9 _ [iV 0, iV (sby j).length] m Q
  refine X_ishr dJ0_length_8abf5_9 ?_
  have e : ishx (((sby j).length : Nat) : Int) 0 = ((sby j).length : Nat) := by
    have h : ∀ y : Fin 9, ishx ((y.val : Nat) : Int) 0 = (y.val : Int) := by decide +kernel
    exact h ⟨(sby j).length, Nat.lt_succ_of_le (sby_len j)⟩
  rw [e]
  exact X_nret dJ0_length_8abf5_10 rfl rfl h
theorem ct_pci {G : am_G} {dp a b : Nat} {m : am_M} {Q : am_Q} {x n : Int} {v : am_V} (h0 : 0 ≤ x) (h1 : x < n) (h : Q (.inl (some (iV x))) m) (hv : v = rV none ∨ v = sV 200) : T G dp a b MJ3_checkIndex_8e157 [iV x, iV n, v] m Q := by
  rcases hv with rfl | rfl <;>
  · refine T_of rfl (by decide +kernel) rfl (Nat.le_of_ble_eq_true rfl) ?_
    refine X_iload_n dJ3_checkIndex_8e157_0 rfl rfl ?_
    refine X_if_lt dJ3_checkIndex_8e157_1 (tgt := 9) rfl (fun z => absurd z (by omega)) (fun _ => ?_)
    refine X_iload_n dJ3_checkIndex_8e157_4 rfl rfl ?_
    refine X_iload_n dJ3_checkIndex_8e157_5 rfl rfl ?_
    refine X_icmp_lt dJ3_checkIndex_8e157_6 (tgt := 16) rfl (fun _ => ?_) (fun z => absurd h1 z)
    refine X_iload_n dJ3_checkIndex_8e157_16 rfl rfl ?_
    exact X_nret dJ3_checkIndex_8e157_17 rfl rfl h
theorem ct_sci {G : am_G} (hz : SZ G) {dp a b : Nat} {m : am_M} {Q : am_Q} {x n : Int} (hd : 1 ≤ dp) (h0 : 0 ≤ x) (h1 : x < n) (h : Q (.inl none) m) : T G dp a b MJ0_checkIndex_df160 [iV x, iV n] m Q := by
  obtain ⟨v, hv, hZ⟩ := hz.2.2
  refine T_of rfl (by decide +kernel) rfl (Nat.le_of_ble_eq_true rfl) ?_
  refine X_iload_n dJ0_checkIndex_df160_0 rfl rfl ?_
  refine X_iload_n dJ0_checkIndex_df160_1 rfl rfl ?_
  refine X_gets v dJ0_checkIndex_df160_2 flJ_1053 (by rcases hv with rfl | rfl <;> trivial) hZ ?_
  refine X_callS (a' := 0) (b' := 0) dJ0_checkIndex_df160_5 tJ3_checkIndex_8e157 ml_J0_1059 (As := [iV x, iV n, v]) (rest := []) rfl rfl (by simp) rfl hd (Nat.zero_le _) (Nat.zero_le _) (ct_pci h0 h1 ?_ hv)
  show X G dp (a - 0) (b - 0) MJ0_checkIndex_df160 8 _ [iV x] m Q
  refine X_pop dJ0_checkIndex_df160_8 rfl ?_
  exact X_vret dJ0_checkIndex_df160_9 rfl h
theorem ct_l1at {G : am_G} (hz : SZ G) {dp a b : Nat} {m : am_M} {Q : am_Q} {j : Nat} {x : Int} (hd : 2 ≤ dp) (hj : sby j ≠ []) (h0 : 0 ≤ x) (h1 : x < (sby j).length) (h : Q (.inl (some (iV ((sby j).getD x.toNat 0)))) m) : T G dp a b MJ1_charAt_3b067 [sV (100 + j), iV x] m Q := by
  have hb := sby_at (j := j) (k := x.toNat) (by omega)
  refine T_of rfl (by decide +kernel) rfl (Nat.le_of_ble_eq_true rfl) ?_
  refine X_iload_n dJ1_charAt_3b067_0 rfl rfl ?_
  refine X_saload_n dJ1_charAt_3b067_1 rfl rfl ?_
  refine X_slen dJ1_charAt_3b067_2 (sby_len j) (hz.1 j hj).2.2.2 ?_
  refine X_callS (a' := 0) (b' := 0) dJ1_charAt_3b067_3 tJ0_checkIndex_df160 ml_J1_9 (As := [iV x, iV (sby j).length]) (rest := []) rfl rfl (by simp) rfl (by omega) (Nat.zero_le _) (Nat.zero_le _) (ct_sci hz (by omega) h0 h1 ?_)
  show X G dp (a - 0) (b - 0) MJ1_charAt_3b067 6 _ [] m Q
  refine X_saload_n dJ1_charAt_3b067_6 rfl rfl ?_
  refine X_iload_n dJ1_charAt_3b067_7 rfl rfl ?_
  refine X_sbald dJ1_charAt_3b067_8 (sby_len j) h0 h1 (f := fun k => (sby j).getD k 0) ⟨by omega, by omega⟩ (hz.1 j hj).2.2.2 ?_
  refine X_sipush (n := 255) (by decide) dJ1_charAt_3b067_9 ?_
  refine X_iand dJ1_charAt_3b067_12 ?_
  rw [ian255 _ hb.1 hb.2]
  refine X_i2c dJ1_charAt_3b067_13 ?_
  rw [c16_id _ hb.1 hb.2]
  exact X_nret dJ1_charAt_3b067_14 rfl (nar_ch _ hb.1 hb.2) h
theorem ct_scharAt {G : am_G} (hz : SZ G) {dp a b : Nat} {m : am_M} {Q : am_Q} {j : Nat} {x : Int} (hd : 3 ≤ dp) (hj : sby j ≠ []) (h0 : 0 ≤ x) (h1 : x < (sby j).length) (h : Q (.inl (some (iV ((sby j).getD x.toNat 0)))) m) : T G dp a b MJ0_charAt_5068e [sV j, iV x] m Q := by
  have hb := sby_at (j := j) (k := x.toNat) (by omega)
  refine T_of rfl (by decide +kernel) rfl (Nat.le_of_ble_eq_true rfl) ?_
  refine X_saload_n dJ0_charAt_5068e_0 rfl rfl ?_
  refine X_callSV (a' := 0) (b' := 0) hz hj dJ0_charAt_5068e_1 tJ0_isLatin1_aae02 ml_J0_492 (As := []) rfl rfl (by simp) rfl (by omega) (Nat.zero_le _) (Nat.zero_le _) (ct_isLatin1 hz hj ?_)
  show X G dp (a - 0) (b - 0) MJ0_charAt_5068e 4 _ [iV 1] m Q
  refine X_if_eq dJ0_charAt_5068e_4 (tgt := 16) rfl (fun z => absurd z (by decide)) (fun _ => ?_)
  refine X_saload_n dJ0_charAt_5068e_7 rfl rfl ?_
  refine X_sget (sV (100 + j)) dJ0_charAt_5068e_8 flJ_9 trivial (hz.1 j hj).2.2.1 ?_
  refine X_iload_n dJ0_charAt_5068e_11 rfl rfl ?_
  refine X_callS (a' := 0) (b' := 0) dJ0_charAt_5068e_12 tJ1_charAt_3b067 ml_J0_495 (As := [sV (100 + j), iV x]) (rest := []) rfl rfl (by simp) rfl (by omega) (Nat.zero_le _) (Nat.zero_le _) (ct_l1at hz (by omega) hj h0 h1 ?_)
  exact X_nret dJ0_charAt_5068e_15 rfl (nar_ch _ hb.1 hb.2) h
