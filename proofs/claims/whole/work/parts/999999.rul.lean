/-! THE LAW'S LOOP: what its cases are made of -/
abbrev LL (n : Nat) (o5 o6 o7 : Option am_V) : List (Option am_V) := [some (rV (some 0)), some (rV (some 1)), some (rV (some 103)), some (rV (some 122)), some (iV (n : Int)), o5, o6, o7]
section LawR
variable {G : am_G} {dp a b : Nat} {m : am_M} {Q : am_Q} {n len pc : Nat} {st : List am_V} {o5 o6 o7 : Option am_V}
/-- the script's cell is as it was: read, its length -/
theorem X_scd {d : Nat} {M : am_Me} {L : List (Option am_V)} {xs : Nat → Int32} {z : Int} (hs : va_X G.2.2.1 len xs G.2.1 G.2.1.heap) (hl : len ≤ 3072) (hd : decode M.2.1 pc = .ok (.iaload, 1)) (h0 : 0 ≤ z) (h1 : z < len) (kk : X G d a b M (pc + 1) L (iV (xs z.toNat).toInt :: st) m Q) : X G d a b M pc L (iV z :: rV (some 0) :: st) m Q := by
  intro hG p e R s mid args below meth c H locs cells slots mc ms ls hI hH hL hS
  have hW := hI.2.2.2.2.2.2.2.2.1
  obtain ⟨scr, g1, g2, g3, g4, g5⟩ := hs
  have kk := kk hG p e R s mid args below meth c H locs cells slots mc ms ls hI hH hL (Xs1 (v := iV (xs z.toNat).toInt) (i32_ti _) (Xst2 hS))
  rw [List.map_cons, show am_tr G (iV (xs z.toNat).toInt) = .int (xs z.toNat) from congrArg Value.int (Int32.ofInt_toInt _)] at kk
  exact W.iald (v := .int (xs z.toNat)) hI.1 hI.2.1 (a := G.2.2.1) ((hH.2.2.2.2 _ hG.2.2.1).trans g1) (State.isArrayOf_alike hW.alike g2) g3 (by rw [g4]; exact o32_in h0 h1 (by omega)) (by rw [o32_cl h0 (by omega)]; exact g5 _ (by omega)) rfl rfl hd kk
theorem X_scl {d : Nat} {M : am_Me} {L : List (Option am_V)} {xs : Nat → Int32} (hs : va_X G.2.2.1 len xs G.2.1 G.2.1.heap) (hl : len ≤ 3072) (hd : decode M.2.1 pc = .ok (.arraylength, 1)) (kk : X G d a b M (pc + 1) L (iV (len : Int) :: st) m Q) : X G d a b M pc L (rV (some 0) :: st) m Q := by
  intro hG p e R s mid args below meth c H locs cells slots mc ms ls hI hH hL hS
  have hW := hI.2.2.2.2.2.2.2.2.1
  obtain ⟨scr, g1, g2, g3, g4, g5⟩ := hs
  have kk := kk hG p e R s mid args below meth c H locs cells slots mc ms ls hI hH hL (Xs1 (v := iV (len : Int)) ⟨by omega, by omega⟩ (Xst hS))
  exact W.alen (n := Int32.ofNat len) hI.1 hI.2.1 (a := G.2.2.1) ((hH.2.2.2.2 _ hG.2.2.1).trans g1) (State.isArrayOf_alike hW.alike g2) (by rw [g4] <;> rfl) rfl rfl hd kk
/-- script[i + k] -/
theorem L_ld {k : Nat} {xs : Nat → Int32} (d0 : decode cL_law pc = .ok (.aload_n 0, 1)) (d1 : decode cL_law (pc + 1) = .ok (.iload 4, 2)) (d2 : decode cL_law (pc + 3) = .ok (.iconst (k : Int), 1)) (d3 : decode cL_law (pc + 4) = .ok (.iadd, 1)) (d4 : decode cL_law (pc + 5) = .ok (.iaload, 1)) (hk : k ≤ 5) (hl : n + 6 ≤ len) (hl2 : len ≤ 3072) (hs : va_X G.2.2.1 len xs G.2.1 G.2.1.heap) (kk : X G dp a b ML_law (pc + 6) (LL n o5 o6 o7) (iV (xs (n + k)).toInt :: st) m Q) : X G dp a b ML_law pc (LL n o5 o6 o7) st m Q := by
  refine X_aload_n d0 rfl rfl ?_
  refine X_iload d1 rfl ?_
  refine Y_iconst d2 (by unfold i32; omega) ?_
  refine X_iadd d3 ?_
  rw [show wr ((n : Int) + (k : Int)) = ((n + k : Nat) : Int) from by rw [wr_of (by omega) (by omega)]; omega]
  refine X_scd hs hl2 d4 (by omega) (by omega) ?_
  rw [show (((n + k : Nat) : Int)).toNat = n + k from Int.toNat_natCast _]
  exact kk
/-- .. != 0 -/
theorem L_bool {z : Int} {q1 q2 q3 : Nat} (d0 : decode cL_law pc = .ok (.ifCond .eq 7, 3)) (d1 : decode cL_law q1 = .ok (.iconst 1, 1)) (d2 : decode cL_law q2 = .ok (.goto 4, 3)) (d3 : decode cL_law q3 = .ok (.iconst 0, 1)) (e1 : q1 = pc + 3) (e2 : q2 = pc + 4) (e3 : q3 = pc + 7) (kk : X G dp a b ML_law (pc + 8) (LL n o5 o6 o7) (iV (if z = 0 then 0 else 1) :: st) m Q) : X G dp a b ML_law pc (LL n o5 o6 o7) (iV z :: st) m Q := by
  subst e1; subst e2; subst e3
  refine X_if_eq (tgt := pc + 7) d0 (by omega) (fun c => ?_) (fun c => ?_)
  · rw [if_pos c] at kk
    exact Y_iconst d3 (by unfold i32; omega) kk
  · rw [if_neg c] at kk
    exact Y_iconst d1 (by unfold i32; omega) (X_goto (tgt := pc + 8) d2 (by omega) kk)
theorem r_thrown {I : Nat → Nat → Int} {Z : (Nat → Nat → Option Nat) × (Nat → Nat × Nat) × Nat × Bool} (hM : Md (I, Z)) (h : Q (.inl (some (iV (I 103 7)))) (I, Z)) : T G dp 0 0 M9_thrown [rV (some 103)] (I, Z) Q := T9_thrown (s9_thrown_0 (am_ow hM.1) h)
/-- int b = ..; if (m.thrown() != k) return false; if (k == 0 && out[0] != b) return false; -/
theorem L_taili {I : Nat → Nat → Int} {Z : (Nat → Nat → Option Nat) × (Nat → Nat × Nat) × Nat × Bool} {k v off : Int} {p2 p3 p6 p8 pd pf p18 p19 p20 p21 p23 p24 p25 p30 : Nat} (hdp : 1 ≤ dp) (hM : Md (I, Z)) (ho : am_arw (I, Z) 122 101 1) (hk : I 103 7 = k) (hv : k = 0 → I 122 0 = v)
    (d0 : decode cL_law pc = .ok (.istore 6, 2)) (d2 : decode cL_law p2 = .ok (.aload_n 2, 1)) (d3 : decode cL_law p3 = .ok (.invokevirtual 113, 3)) (d6 : decode cL_law p6 = .ok (.iload 5, 2)) (d8 : decode cL_law p8 = .ok (.if_icmp .eq 5, 3)) (dd : decode cL_law pd = .ok (.iload 5, 2)) (df : decode cL_law pf = .ok (.ifCond .ne 15, 3)) (d18 : decode cL_law p18 = .ok (.aload_n 3, 1)) (d19 : decode cL_law p19 = .ok (.iconst 0, 1)) (d20 : decode cL_law p20 = .ok (.laload, 1)) (d21 : decode cL_law p21 = .ok (.iload 6, 2)) (d23 : decode cL_law p23 = .ok (.i2l, 1)) (d24 : decode cL_law p24 = .ok (.lcmp, 1)) (d25 : decode cL_law p25 = .ok (.ifCond .eq 5, 3)) (d30 : decode cL_law p30 = .ok (.goto off, 3))
    (e : p2 = pc + 2 ∧ p3 = pc + 3 ∧ p6 = pc + 6 ∧ p8 = pc + 8 ∧ pd = pc + 13 ∧ pf = pc + 15 ∧ p18 = pc + 18 ∧ p19 = pc + 19 ∧ p20 = pc + 20 ∧ p21 = pc + 21 ∧ p23 = pc + 23 ∧ p24 = pc + 24 ∧ p25 = pc + 25 ∧ p30 = pc + 30 ∧ ((pc + 30 : Nat) : Int) + off = (2092 : Nat)) (kk : X G dp a b ML_law 2092 (LL n (some (iV k)) (some (iV v)) o7) [] (I, Z) Q) : X G dp a b ML_law pc (LL n (some (iV k)) o6 o7) [iV v] (I, Z) Q := by
  obtain ⟨rfl, rfl, rfl, rfl, rfl, rfl, rfl, rfl, rfl, rfl, rfl, rfl, rfl, rfl, e⟩ := e
  refine X_istore d0 (Nat.le_of_ble_eq_true rfl) ?_
  refine X_aload_n d2 rfl rfl ?_
  refine X_callV (As := []) (rest := []) (r := 103) (a' := 0) (b' := 0) d3 t9_thrown ml_L_113 (am_ow hM.1) rfl rfl (Nat.le_of_ble_eq_true rfl) rfl hdp (Nat.zero_le _) (Nat.zero_le _) (r_thrown hM ?_)
  rw [hk]
  refine X_iload d6 rfl ?_
  refine X_icmp_eq (tgt := pc + 13) d8 (by omega) (fun _ => ?_) (fun c => absurd rfl c)
  refine X_iload dd rfl ?_
  refine X_if_ne (tgt := pc + 30) df (by omega) (fun _ => ?_) (fun c => ?_)
  · exact X_goto d30 e kk
  · refine X_aload_n d18 rfl rfl ?_
    refine Y_iconst d19 (by unfold i32; omega) ?_
    refine X_lald d20 (am_rw ho) (by omega) (by omega) ?_
    refine X_iload d21 rfl ?_
    refine X_i2l d23 ?_
    refine X_lcmp d24 ?_
    refine X_if_eq (tgt := pc + 30) d25 (by omega) (fun _ => ?_) (fun c2 => absurd ((lc_eq _ _).mpr (hv c)) c2)
    exact X_goto d30 e kk
theorem L_taill {I : Nat → Nat → Int} {Z : (Nat → Nat → Option Nat) × (Nat → Nat × Nat) × Nat × Bool} {k v off : Int} {p2 p3 p6 p8 pd pf p18 p19 p20 p21 p23 p24 p29 : Nat} (hdp : 1 ≤ dp) (hM : Md (I, Z)) (ho : am_arw (I, Z) 122 101 1) (hk : I 103 7 = k) (hv : k = 0 → I 122 0 = v)
    (d0 : decode cL_law pc = .ok (.lstore 6, 2)) (d2 : decode cL_law p2 = .ok (.aload_n 2, 1)) (d3 : decode cL_law p3 = .ok (.invokevirtual 113, 3)) (d6 : decode cL_law p6 = .ok (.iload 5, 2)) (d8 : decode cL_law p8 = .ok (.if_icmp .eq 5, 3)) (dd : decode cL_law pd = .ok (.iload 5, 2)) (df : decode cL_law pf = .ok (.ifCond .ne 14, 3)) (d18 : decode cL_law p18 = .ok (.aload_n 3, 1)) (d19 : decode cL_law p19 = .ok (.iconst 0, 1)) (d20 : decode cL_law p20 = .ok (.laload, 1)) (d21 : decode cL_law p21 = .ok (.lload 6, 2)) (d23 : decode cL_law p23 = .ok (.lcmp, 1)) (d24 : decode cL_law p24 = .ok (.ifCond .eq 5, 3)) (d29 : decode cL_law p29 = .ok (.goto off, 3))
    (e : p2 = pc + 2 ∧ p3 = pc + 3 ∧ p6 = pc + 6 ∧ p8 = pc + 8 ∧ pd = pc + 13 ∧ pf = pc + 15 ∧ p18 = pc + 18 ∧ p19 = pc + 19 ∧ p20 = pc + 20 ∧ p21 = pc + 21 ∧ p23 = pc + 23 ∧ p24 = pc + 24 ∧ p29 = pc + 29 ∧ ((pc + 29 : Nat) : Int) + off = (2092 : Nat)) (kk : X G dp a b ML_law 2092 (LL n (some (iV k)) (some (lV v)) none) [] (I, Z) Q) : X G dp a b ML_law pc (LL n (some (iV k)) o6 o7) [lV v] (I, Z) Q := by
  obtain ⟨rfl, rfl, rfl, rfl, rfl, rfl, rfl, rfl, rfl, rfl, rfl, rfl, rfl, e⟩ := e
  refine X_lstore d0 (Nat.le_of_ble_eq_true rfl) ?_
  refine X_aload_n d2 rfl rfl ?_
  refine X_callV (As := []) (rest := []) (r := 103) (a' := 0) (b' := 0) d3 t9_thrown ml_L_113 (am_ow hM.1) rfl rfl (Nat.le_of_ble_eq_true rfl) rfl hdp (Nat.zero_le _) (Nat.zero_le _) (r_thrown hM ?_)
  rw [hk]
  refine X_iload d6 rfl ?_
  refine X_icmp_eq (tgt := pc + 13) d8 (by omega) (fun _ => ?_) (fun c => absurd rfl c)
  refine X_iload dd rfl ?_
  refine X_if_ne (tgt := pc + 29) df (by omega) (fun _ => ?_) (fun c => ?_)
  · exact X_goto d29 e kk
  · refine X_aload_n d18 rfl rfl ?_
    refine Y_iconst d19 (by unfold i32; omega) ?_
    refine X_lald d20 (am_rw ho) (by omega) (by omega) ?_
    refine X_lload d21 rfl ?_
    refine X_lcmp d23 ?_
    refine X_if_eq (tgt := pc + 29) d24 (by omega) (fun _ => ?_) (fun c2 => absurd ((lc_eq _ _).mpr (hv c)) c2)
    exact X_goto d29 e kk
/-- what is behind a case -/
def zK (G : am_G) (dp a b len n : Nat) (Q : am_Q) : Prop := ∀ (m' : am_M) (a' b' : Nat) (o5 o6 o7 : Option am_V), a ≤ a' + 8 → b ≤ b' + 48 → zJ m' len → X G dp a' b' ML_law 2092 (LL n o5 o6 o7) [] m' Q
end LawR
