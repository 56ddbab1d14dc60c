/-! ARRAYS -/
theorem am_e_i {G : am_G} {m : am_M} {r n : Nat} (h : m.2.2.1 r = (100, n)) : am_e G m r = .inl (G.2.2.2.2.2 100, n, .inl (fun j => Int32.ofInt (m.1 r j))) := by
  unfold am_e; rw [h]; rfl
theorem am_e_l {G : am_G} {m : am_M} {r n : Nat} (h : m.2.2.1 r = (101, n)) : am_e G m r = .inl (G.2.2.2.2.2 101, n, .inr (.inl (fun j => Int64.ofInt (m.1 r j)))) := by
  unfold am_e; rw [h]; rfl
theorem am_e_b {G : am_G} {m : am_M} {r n : Nat} (h : m.2.2.1 r = (102, n)) : am_e G m r = .inl (G.2.2.2.2.2 102, n, .inl (fun j => Int32.ofInt (m.1 r j))) := by
  unfold am_e; rw [h]; rfl
theorem am_e_q {G : am_G} {m : am_M} {r n : Nat} (h : m.2.2.1 r = (103, n)) : am_e G m r = .inl (G.2.2.2.2.2 103, n, .inr (.inr (.inr (.inr (fun j => (m.2.1 r j).map (am_ad G)))))) := by
  unfold am_e; rw [h]; rfl
theorem am_e_r {G : am_G} {m : am_M} {r n : Nat} (h : m.2.2.1 r = (104, n)) : am_e G m r = .inl (G.2.2.2.2.2 104, n, .inr (.inr (.inr (.inr (fun j => (m.2.1 r j).map (am_ad G)))))) := by
  unfold am_e; rw [h]; rfl
theorem am_wl {m : am_M} (h : am_wm m) {r t n : Nat} (hr : am_ar m r t n) : n < 2147483648 := by
  have := (h.2 r hr.1).2.1
  rw [hr.2.1] at this
  exact this
theorem am_rw {m : am_M} {r t n : Nat} (h : am_arw m r t n) : am_ar m r t n := h
theorem am_w32 {m : am_M} (h : am_wm m) {r t n : Nat} (hr : am_ar m r t n) (ht : t ≠ 101) (j : Nat) : i32 (m.1 r j) := by
  have := (h.2 r hr.1).2.2 j
  rwa [if_neg (by rw [hr.2.1]; exact ht)] at this
theorem am_w64 {m : am_M} (h : am_wm m) {r n : Nat} (hr : am_ar m r 101 n) (j : Nat) : i64 (m.1 r j) := by
  have := (h.2 r hr.1).2.2 j
  rwa [if_pos (by rw [hr.2.1])] at this
theorem am_trP (G : am_G) (q : Option Nat) : va_rf (q.map (am_ad G)) = am_tr G (rV q) := by cases q <;> rfl
theorem X_iald {G : am_G} {d a b : Nat} {M : am_Me} {pc : Nat} {L : List (Option am_V)} {st : List am_V} {m : am_M} {Q : am_Q} {r n : Nat} {z : Int} (hd : decode M.2.1 pc = .ok (.iaload, 1)) (hr : am_ar m r 100 n) (h0 : 0 ≤ z) (h1 : z < n) (kk : X G d a b M (pc + 1) L (iV (m.1 r z.toNat) :: st) m Q) : X G d a b M pc L (iV z :: rV (some r) :: st) m Q := by
  intro hG p e R s mid args below meth c H locs cells slots mc ms ls hI hH hL hS
  have hn := am_wl hH.1 hr
  have hP := am_one hH hr.2.2 hr.1
  rw [am_e_i hr.2.1] at hP
  have kk := kk hG p e R s mid args below meth c H locs cells slots mc ms ls hI hH hL (Xs1 (am_w32 hH.1 hr (by decide) _) (Xst2 hS))
  refine va_iald hI.1 hI.2.1 (am_K hG hI.2.2.2.2.2.2.2.2.1) hP 0 0 rfl rfl (o32_in h0 h1 hn) hd ?_
  rw [o32_cl h0 (by omega)]
  exact kk
theorem X_bald {G : am_G} {d a b : Nat} {M : am_Me} {pc : Nat} {L : List (Option am_V)} {st : List am_V} {m : am_M} {Q : am_Q} {r n : Nat} {z : Int} (hd : decode M.2.1 pc = .ok (.baload, 1)) (hr : am_ar m r 102 n) (h0 : 0 ≤ z) (h1 : z < n) (kk : X G d a b M (pc + 1) L (iV (m.1 r z.toNat) :: st) m Q) : X G d a b M pc L (iV z :: rV (some r) :: st) m Q := by
  intro hG p e R s mid args below meth c H locs cells slots mc ms ls hI hH hL hS
  have hn := am_wl hH.1 hr
  have hP := am_one hH hr.2.2 hr.1
  rw [am_e_b hr.2.1] at hP
  have kk := kk hG p e R s mid args below meth c H locs cells slots mc ms ls hI hH hL (Xs1 (am_w32 hH.1 hr (by decide) _) (Xst2 hS))
  refine va_bald hI.1 hI.2.1 (am_K hG hI.2.2.2.2.2.2.2.2.1) hP 0 2 rfl rfl (o32_in h0 h1 hn) hd ?_
  rw [o32_cl h0 (by omega)]
  exact kk
theorem X_lald {G : am_G} {d a b : Nat} {M : am_Me} {pc : Nat} {L : List (Option am_V)} {st : List am_V} {m : am_M} {Q : am_Q} {r n : Nat} {z : Int} (hd : decode M.2.1 pc = .ok (.laload, 1)) (hr : am_ar m r 101 n) (h0 : 0 ≤ z) (h1 : z < n) (kk : X G d a b M (pc + 1) L (lV (m.1 r z.toNat) :: st) m Q) : X G d a b M pc L (iV z :: rV (some r) :: st) m Q := by
  intro hG p e R s mid args below meth c H locs cells slots mc ms ls hI hH hL hS
  have hn := am_wl hH.1 hr
  have hP := am_one hH hr.2.2 hr.1
  rw [am_e_l hr.2.1] at hP
  have kk := kk hG p e R s mid args below meth c H locs cells slots mc ms ls hI hH hL (Xs1 (v := lV (m.1 r z.toNat)) (am_w64 hH.1 hr _) (Xst2 hS))
  refine va_lald hI.1 hI.2.1 (am_K hG hI.2.2.2.2.2.2.2.2.1) hP 0 1 rfl rfl (o32_in h0 h1 hn) hd ?_
  rw [o32_cl h0 (by omega)]
  exact kk
theorem X_aald {G : am_G} {d a b : Nat} {M : am_Me} {pc : Nat} {L : List (Option am_V)} {st : List am_V} {m : am_M} {Q : am_Q} {r t n : Nat} {z : Int} (hd : decode M.2.1 pc = .ok (.aaload, 1)) (ht : t = 103 ∨ t = 104) (hr : am_ar m r t n) (h0 : 0 ≤ z) (h1 : z < n) (kk : X G d a b M (pc + 1) L (rV (m.2.1 r z.toNat) :: st) m Q) : X G d a b M pc L (iV z :: rV (some r) :: st) m Q := by
  intro hG p e R s mid args below meth c H locs cells slots mc ms ls hI hH hL hS
  have hn := am_wl hH.1 hr
  have hat := hH.2.1 r hr.2.2 hr.1
  have kk := kk hG p e R s mid args below meth c H locs cells slots mc ms ls hI hH hL (Xs1 (v := rV (m.2.1 r z.toNat)) trivial (Xst2 hS))
  rw [List.map_cons, ← am_trP] at kk
  have hlt : (Int32.ofInt z).toNatClampNeg < n := by rw [o32_cl h0 (by omega)]; omega
  have hK := am_K hG hI.2.2.2.2.2.2.2.2.1
  rcases ht with rfl | rfl
  · rw [am_e_q hr.2.1] at hat
    refine W.aald (v := va_rf ((m.2.1 r z.toNat).map (am_ad G))) hI.1 hI.2.1 hat ((hK.2 3 _ rfl).1 n (fun j => va_rf ((m.2.1 r j).map (am_ad G)))) rfl (fun q => by cases q) (by show ¬ (_ ∨ (arrV _ _ _).slots.size ≤ _); rw [arrV_size]; exact o32_in h0 h1 hn) (by show (arrV _ _ _).slots[_]? = _; rw [arrV_read _ _ hlt, o32_cl h0 (by omega)]) rfl rfl hd kk
  · rw [am_e_r hr.2.1] at hat
    refine W.aald (v := va_rf ((m.2.1 r z.toNat).map (am_ad G))) hI.1 hI.2.1 hat ((hK.2 4 _ rfl).1 n (fun j => va_rf ((m.2.1 r j).map (am_ad G)))) rfl (fun q => by cases q) (by show ¬ (_ ∨ (arrV _ _ _).slots.size ≤ _); rw [arrV_size]; exact o32_in h0 h1 hn) (by show (arrV _ _ _).slots[_]? = _; rw [arrV_read _ _ hlt, o32_cl h0 (by omega)]) rfl rfl hd kk
theorem X_alen {G : am_G} {d a b : Nat} {M : am_Me} {pc : Nat} {L : List (Option am_V)} {st : List am_V} {m : am_M} {Q : am_Q} {r t n : Nat} (hd : decode M.2.1 pc = .ok (.arraylength, 1)) (ht : 100 ≤ t) (hr : am_ar m r t n) (kk : X G d a b M (pc + 1) L (iV n :: st) m Q) : X G d a b M pc L (rV (some r) :: st) m Q := by
  intro hG p e R s mid args below meth c H locs cells slots mc ms ls hI hH hL hS
  have hn := am_wl hH.1 hr
  have hP := am_one hH hr.2.2 hr.1
  have kk := kk hG p e R s mid args below meth c H locs cells slots mc ms ls hI hH hL (Xs1 (v := iV n) ⟨by omega, by omega⟩ (Xst hS))
  have hK := am_K hG hI.2.2.2.2.2.2.2.2.1
  have h9 := (hH.1.2 r hr.1).1
  rw [hr.2.1] at h9
  have h9 : t = 100 ∨ t = 101 ∨ t = 102 ∨ t = 103 ∨ t = 104 := by
    dsimp only at h9
    omega
  rcases h9 with rfl | rfl | rfl | rfl | rfl
  · rw [am_e_i hr.2.1] at hP; exact va_alen hI.1 hI.2.1 hK hP 0 0 rfl rfl rfl hd kk
  · rw [am_e_l hr.2.1] at hP; exact va_alen hI.1 hI.2.1 hK hP 0 1 rfl rfl rfl hd kk
  · rw [am_e_b hr.2.1] at hP; exact va_alen hI.1 hI.2.1 hK hP 0 2 rfl rfl rfl hd kk
  · rw [am_e_q hr.2.1] at hP; exact va_alen hI.1 hI.2.1 hK hP 0 3 rfl rfl rfl hd kk
  · rw [am_e_r hr.2.1] at hP; exact va_alen hI.1 hI.2.1 hK hP 0 4 rfl rfl rfl hd kk
theorem X_iast {G : am_G} {d a b : Nat} {M : am_Me} {pc : Nat} {L : List (Option am_V)} {st : List am_V} {m : am_M} {Q : am_Q} {r n : Nat} {z x : Int} (hd : decode M.2.1 pc = .ok (.iastore, 1)) (hr : am_arw m r 100 n) (h0 : 0 ≤ z) (h1 : z < n) (kk : X G d a b M (pc + 1) L st (am_wI m r z.toNat x) Q) : X G d a b M pc L (iV x :: iV z :: rV (some r) :: st) m Q := by
  intro hG p e R s mid args below meth c H locs cells slots mc ms ls hI hH hL hS
  have hn := am_wl hH.1 (am_rw hr)
  have hat := hH.2.1 r hr.2.2 hr.1
  rw [am_e_i hr.2.1] at hat
  have hK := am_K hG hI.2.2.2.2.2.2.2.2.1
  refine W.iast hI.1 hI.2.1 hat ((hK.2 0 _ rfl).1 n (fun j => .int (Int32.ofInt (m.1 r j)))) (fun q => by cases q) (by show ¬ (_ ∨ (arrV _ _ _).slots.size ≤ _); rw [arrV_size]; exact o32_in h0 h1 hn) rfl rfl hd (fun H1 e1 e2 e3 => ?_)
  refine kk hG p e R s mid args below meth c H1 _ cells slots mc ms ls (am_In_put hI e2 hr.2.2) (am_stored hG.2.2.1 hH hr.2.2 rfl (fun q hq => u2_row _ hq) (fun _ _ => rfl) (am_wm_wI hH.1 (by rw [if_neg (by rw [hr.2.1]; exact (by decide : ¬ (100 : Nat) = 101))]; exact Xsh hS)) ?_ e2 e3) hL (Xst2 (Xst hS))
  rw [am_e_i (m := am_wI m r z.toNat x) hr.2.1]
  show H1[am_ad G r]? = some (vp_cell _ _)
  rw [e1, vp_cell_i, vp_cell_i, arrV_store, o32_cl h0 (by omega)]
  congr 2
  funext q
  show updV _ _ _ q = Value.int (Int32.ofInt (u2 m.1 r z.toNat x r q))
  unfold updV
  by_cases hq : q = z.toNat
  · subst hq; rw [if_pos rfl, u2_same]
  · rw [if_neg hq, u2_ne _ (Or.inr hq)]
theorem X_last {G : am_G} {d a b : Nat} {M : am_Me} {pc : Nat} {L : List (Option am_V)} {st : List am_V} {m : am_M} {Q : am_Q} {r n : Nat} {z x : Int} (hd : decode M.2.1 pc = .ok (.lastore, 1)) (hr : am_arw m r 101 n) (h0 : 0 ≤ z) (h1 : z < n) (kk : X G d a b M (pc + 1) L st (am_wI m r z.toNat x) Q) : X G d a b M pc L (lV x :: iV z :: rV (some r) :: st) m Q := by
  intro hG p e R s mid args below meth c H locs cells slots mc ms ls hI hH hL hS
  have hn := am_wl hH.1 (am_rw hr)
  have hat := hH.2.1 r hr.2.2 hr.1
  rw [am_e_l hr.2.1] at hat
  have hK := am_K hG hI.2.2.2.2.2.2.2.2.1
  refine W.last hI.1 hI.2.1 hat ((hK.2 1 _ rfl).1 n (fun j => .long (Int64.ofInt (m.1 r j)))) (fun q => by cases q) (by show ¬ (_ ∨ (arrV _ _ _).slots.size ≤ _); rw [arrV_size]; exact o32_in h0 h1 hn) rfl rfl hd (fun H1 e1 e2 e3 => ?_)
  refine kk hG p e R s mid args below meth c H1 _ cells slots mc ms ls (am_In_put hI e2 hr.2.2) (am_stored hG.2.2.1 hH hr.2.2 rfl (fun q hq => u2_row _ hq) (fun _ _ => rfl) (am_wm_wI hH.1 (by rw [if_pos (by rw [hr.2.1])]; exact Xsh hS)) ?_ e2 e3) hL (Xst2 (Xst hS))
  rw [am_e_l (m := am_wI m r z.toNat x) hr.2.1]
  show H1[am_ad G r]? = some (vp_cell _ _)
  rw [e1, vp_cell_l, vp_cell_l, arrV_store, o32_cl h0 (by omega)]
  congr 2
  funext q
  show updV _ _ _ q = Value.long (Int64.ofInt (u2 m.1 r z.toNat x r q))
  unfold updV
  by_cases hq : q = z.toNat
  · subst hq; rw [if_pos rfl, u2_same]
  · rw [if_neg hq, u2_ne _ (Or.inr hq)]
theorem ib8_nar (x : Int) : narrow .byte (.int (Int32.ofInt x)) = .int (Int32.ofInt (ib8 x)) := by
  unfold ib8
  rw [Int32.ofInt_toInt]
  rfl
theorem X_bast {G : am_G} {d a b : Nat} {M : am_Me} {pc : Nat} {L : List (Option am_V)} {st : List am_V} {m : am_M} {Q : am_Q} {r n : Nat} {z x : Int} (hd : decode M.2.1 pc = .ok (.bastore, 1)) (hr : am_arw m r 102 n) (h0 : 0 ≤ z) (h1 : z < n) (kk : X G d a b M (pc + 1) L st (am_wI m r z.toNat (ib8 x)) Q) : X G d a b M pc L (iV x :: iV z :: rV (some r) :: st) m Q := by
  intro hG p e R s mid args below meth c H locs cells slots mc ms ls hI hH hL hS
  have hn := am_wl hH.1 (am_rw hr)
  have hat := hH.2.1 r hr.2.2 hr.1
  rw [am_e_b hr.2.1] at hat
  have hK := am_K hG hI.2.2.2.2.2.2.2.2.1
  refine W.bast hI.1 hI.2.1 hat ((hK.2 2 _ rfl).1 n (fun j => .int (Int32.ofInt (m.1 r j)))) (fun q => by cases q) (by show ¬ (_ ∨ (arrV _ _ _).slots.size ≤ _); rw [arrV_size]; exact o32_in h0 h1 hn) rfl rfl hd (fun H1 e1 e2 e3 => ?_)
  refine kk hG p e R s mid args below meth c H1 _ cells slots mc ms ls (am_In_put hI e2 hr.2.2) (am_stored hG.2.2.1 hH hr.2.2 rfl (fun q hq => u2_row _ hq) (fun _ _ => rfl) (am_wm_wI hH.1 (by rw [if_neg (by rw [hr.2.1]; exact (by decide : ¬ (102 : Nat) = 101))]; exact i32_ti _)) ?_ e2 e3) hL (Xst2 (Xst hS))
  rw [am_e_b (m := am_wI m r z.toNat (ib8 x)) hr.2.1]
  show H1[am_ad G r]? = some (vp_cell _ _)
  rw [e1, vp_cell_i, vp_cell_i, arrV_store, o32_cl h0 (by omega), ib8_nar]
  congr 2
  funext q
  show updV _ _ _ q = Value.int (Int32.ofInt (u2 m.1 r z.toNat (ib8 x) r q))
  unfold updV
  by_cases hq : q = z.toNat
  · subst hq; rw [if_pos rfl, u2_same]
  · rw [if_neg hq, u2_ne _ (Or.inr hq)]
