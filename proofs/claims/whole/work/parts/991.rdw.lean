/-! WORDS, on both sides -/
theorem X_sLen {G : am_G} (hz : SZ G) {d a b : Nat} {M : am_Me} {pc : Nat} {L : List (Option am_V)} {rest : List am_V} {m : am_M} {Q : am_Q} {idx j : Nat} (hj : sby j ≠ []) (hd : decode M.2.1 pc = .ok (.invokevirtual idx, 3)) (hl : Cond.methodLink M.2.2.2.2.1 idx yJ0_length_8abf5 ∈ lw_tbl) (h8 : (rest.map am_wd).sum ≤ 8) (hh : M.2.2.2.2.2 = []) (hd1 : 2 ≤ d) (k : X G d a b M (pc + 3) L (iV (sby j).length :: rest) m Q) : X G d a b M pc L (sV j :: rest) m Q :=
  X_callSV (a' := 0) (b' := 0) hz hj hd tJ0_length_8abf5 hl (As := []) rfl rfl h8 hh (by omega) (Nat.zero_le _) (Nat.zero_le _) (ct_slength hz (by omega) hj k)
theorem X_sAt {G : am_G} (hz : SZ G) {d a b : Nat} {M : am_Me} {pc : Nat} {L : List (Option am_V)} {rest : List am_V} {m : am_M} {Q : am_Q} {idx j k : Nat} (hj : sby j ≠ []) (hd : decode M.2.1 pc = .ok (.invokevirtual idx, 3)) (hl : Cond.methodLink M.2.2.2.2.1 idx yJ0_charAt_5068e ∈ lw_tbl) (h8 : (rest.map am_wd).sum ≤ 8) (hh : M.2.2.2.2.2 = []) (hd1 : 4 ≤ d) (hk : k < (sby j).length) (kk : X G d a b M (pc + 3) L (iV ((sby j).getD k 0) :: rest) m Q) : X G d a b M pc L (iV k :: sV j :: rest) m Q :=
  X_callSV (a' := 0) (b' := 0) hz hj hd tJ0_charAt_5068e hl (As := [iV k]) rfl rfl h8 hh (by omega) (Nat.zero_le _) (Nat.zero_le _) (ct_scharAt hz (by omega) hj (by omega) (by omega) (by rw [Int.toNat_natCast]; exact kk))
section
variable {G : am_G} {dp : Nat} {Q : am_Q} {Z : (Nat → Nat → Option Nat) × (Nat → Nat × Nat) × Nat × Bool}
theorem lp_isWord {I : Nat → Nat → Int} {tp : Nat → Int} {n j : Nat} {t : TS} {x y : Nat} (hz : SZ G) (hd : 4 ≤ dp) (hj : sby j ≠ []) (hB : TpB tp) (hT : Tb I tp n) (hk : Rk (I, Z)) (hR : RdC I tp n t) (he : t.1 + (sby j).length ≤ n) (h0 : ∀ k, k < (sby j).length → ¬ tp (t.1 + k) = (sby j).getD k 0 → Q (.inl (some (iV 0))) (I, Z)) (h1 : (∀ k, k < (sby j).length → tp (t.1 + k) = (sby j).getD k 0) → Q (.inl (some (iV 1))) (I, Z)) : ∀ (u k : Nat), (sby j).length - k = u → k ≤ (sby j).length → (∀ i, i < k → tp (t.1 + i) = (sby j).getD i 0) → X G dp x y M6_isWord 35 [some (rV (some 76)), some (sV j), some (iV k)] [] (I, Z) Q := by
  obtain ⟨r1, r2, r3, r4, r5, r6, r7⟩ := hR
  have hn := hT.1
  have hl8 := sby_len j
  intro u
  induction u with
  | zero =>
    intro k hu hk8 hi
    refine X_iload_n dX6_isWord_35 rfl rfl ?_
    refine X_saload_n dX6_isWord_36 rfl rfl ?_
    refine X_sLen hz hj dX6_isWord_37 ml_6_50 (by simp [am_wd]) rfl (by omega) ?_
    refine X_icmp_ge dX6_isWord_40 (tgt := 83) rfl (fun _ => ?_) (fun q => absurd (show ((sby j).length : Int) ≤ k by omega) q)
    refine Y_iconst dX6_isWord_83 (by unfold i32; omega) ?_
    exact X_zret dX6_isWord_84 rfl (Or.inr rfl) (h1 fun i hi9 => hi i (by omega))
  | succ u ih =>
    intro k hu hk8 hi
    have hk9 : k < (sby j).length := by omega
    have e2 : (I, Z).1 76 2 = t.1 := r2
    have e1 : (I, Z).1 76 1 = n := r1
    refine X_iload_n dX6_isWord_35 rfl rfl ?_
    refine X_saload_n dX6_isWord_36 rfl rfl ?_
    refine X_sLen hz hj dX6_isWord_37 ml_6_50 (by simp [am_wd]) rfl (by omega) ?_
    refine X_icmp_ge dX6_isWord_40 (tgt := 83) rfl (fun q => absurd q (by omega)) (fun _ => ?_)
    refine X_aload_n dX6_isWord_43 rfl rfl ?_
    refine X_getI dX6_isWord_44 fl_6_19 (by decide) (am_ow hk.1) ?_
    refine X_iload_n dX6_isWord_47 rfl rfl ?_
    refine X_iadd dX6_isWord_48 ?_
    rw [e2, wr_of (by omega) (by omega)]
    refine X_aload_n dX6_isWord_49 rfl rfl ?_
    refine X_getI dX6_isWord_50 fl_6_15 (by decide) (am_ow hk.1) ?_
    rw [e1]
    refine X_icmp_ge dX6_isWord_53 (tgt := 83) rfl (fun q => absurd q (by omega)) (fun _ => ?_)
    refine X_aload_n dX6_isWord_56 rfl rfl ?_
    refine X_getP dX6_isWord_57 fl_6_9 rfl (am_ow hk.1) ?_
    refine am_ptr hk.2.1 ?_
    refine X_aload_n dX6_isWord_60 rfl rfl ?_
    refine X_getI dX6_isWord_61 fl_6_19 (by decide) (am_ow hk.1) ?_
    refine X_iload_n dX6_isWord_64 rfl rfl ?_
    refine X_iadd dX6_isWord_65 ?_
    rw [e2, wr_of (by omega) (by omega)]
    refine X_bald dX6_isWord_66 (am_rw hk.2.2) (by omega) (by omega) ?_
    rw [show ((t.1 : Int) + (k : Int)).toNat = t.1 + k by omega, show (I, Z).1 2 (t.1 + k) = sb (tp (t.1 + k)) from hT.2 _ (by omega)]
    refine X_saload_n dX6_isWord_67 rfl rfl ?_
    refine X_iload_n dX6_isWord_68 rfl rfl ?_
    refine X_sAt hz hj dX6_isWord_69 ml_6_55 (by simp [am_wd]) rfl hd hk9 ?_
    have hb := sby_at hk9
    refine X_icmp_eq dX6_isWord_72 (tgt := 77) rfl (fun q => ?_) (fun q => ?_)
    · refine X_iinc dX6_isWord_77 rfl ?_
      refine X_goto dX6_isWord_80 (tgt := 35) rfl ?_
      rw [wr_s (by omega)]
      refine ih (k + 1) (by omega) (by omega) fun i hi9 => ?_
      by_cases z : i = k
      · rw [z]; exact (sb_c (hB _) hb).mp q
      · exact hi i (by omega)
    · refine Y_iconst dX6_isWord_75 (by unfold i32; omega) ?_
      exact X_zret dX6_isWord_76 rfl (Or.inl rfl) (h0 k hk9 fun z => q ((sb_c (hB _) hb).mpr z))
theorem ct_isWord {I : Nat → Nat → Int} {tp : Nat → Int} {n j : Nat} {t : TS} (hz : SZ G) (hd : 4 ≤ dp) (hj : sby j ≠ []) (hB : TpB tp) (hT : Tb I tp n) (hk : Rk (I, Z)) (hR : RdC I tp n t) (ht : Tk n t) (h : Q (.inl (some (iV (b01 (iW tp n t (sby j)))))) (I, Z)) : T G dp 0 0 M6_isWord [rV (some 76), sV j] (I, Z) Q := by
  have hR0 := hR
  obtain ⟨r1, r2, r3, r4, r5, r6, r7⟩ := hR
  have hn := hT.1
  have e6 : (I, Z).1 76 6 = t.2.1 := r6
  have e4 : (I, Z).1 76 4 = kd tp n t.1 := r4
  have e3 : (I, Z).1 76 3 = (en tp n t.1 : Nat) := r3
  have e2 : (I, Z).1 76 2 = t.1 := r2
  have hen := en_b (tp := tp) ht.1
  unfold iW b01 at h
  have no : ¬ (t.2.1 = 0 ∧ kd tp n t.1 = 1 ∧ en tp n t.1 - t.1 = (sby j).length) → X G dp 0 0 M6_isWord 31 [some (rV (some 76)), some (sV j), none] [] (I, Z) Q := fun q => by
    rw [decide_eq_false (fun z => q ⟨z.1, z.2.1, z.2.2.1⟩), if_neg (by decide)] at h
    refine Y_iconst dX6_isWord_31 (by unfold i32; omega) ?_
    exact X_zret dX6_isWord_32 rfl (Or.inl rfl) h
  refine T6_isWord ?_
  refine X_aload_n dX6_isWord_0 rfl rfl ?_
  refine X_getI dX6_isWord_1 fl_6_31 (by decide) (am_ow hk.1) ?_
  rw [e6]
  refine X_if_ne dX6_isWord_4 (tgt := 31) rfl (fun q => no fun z => q z.1) (fun q => ?_)
  refine X_aload_n dX6_isWord_7 rfl rfl ?_
  refine X_getI dX6_isWord_8 fl_6_25 (by decide) (am_ow hk.1) ?_
  rw [e4]
  refine Y_iconst dX6_isWord_11 (by unfold i32; omega) ?_
  refine X_icmp_ne dX6_isWord_12 (tgt := 31) rfl (fun q => no fun z => q z.2.1) (fun q2 => ?_)
  refine X_aload_n dX6_isWord_15 rfl rfl ?_
  refine X_getI dX6_isWord_16 fl_6_22 (by decide) (am_ow hk.1) ?_
  refine X_aload_n dX6_isWord_19 rfl rfl ?_
  refine X_getI dX6_isWord_20 fl_6_19 (by decide) (am_ow hk.1) ?_
  refine X_isub dX6_isWord_23 ?_
  rw [e3, e2, wr_of (by omega) (by omega)]
  refine X_saload_n dX6_isWord_24 rfl rfl ?_
  refine X_sLen hz hj dX6_isWord_25 ml_6_50 (by simp [am_wd]) rfl (by omega) ?_
  refine X_icmp_eq dX6_isWord_28 (tgt := 33) rfl (fun q3 => ?_) (fun q3 => no fun z => q3 (by omega))
  have hl : en tp n t.1 - t.1 = (sby j).length := by omega
  refine Y_iconst dX6_isWord_33 (by unfold i32; omega) ?_
  refine X_istore_n dX6_isWord_34 rfl (Nat.le_of_ble_eq_true rfl) ?_
  refine lp_isWord (n := n) (tp := tp) (t := t) hz hd hj hB hT hk hR0 (by omega) (fun k hk9 z => ?_) (fun z => ?_) _ 0 rfl (Nat.zero_le _) (fun i hi => absurd hi (Nat.not_lt_zero _))
  · rw [decide_eq_false (fun y => z (y.2.2.2 k hk9)), if_neg (by decide)] at h; exact h
  · rw [decide_eq_true ⟨q, q2, hl, z⟩, if_pos rfl] at h; exact h
theorem ct_skipWord {I : Nat → Nat → Int} {tp : Nat → Int} {n j : Nat} {t : TS} (hz : SZ G) (hd : 5 ≤ dp) (hj : sby j ≠ []) (hB : TpB tp) (hT : Tb I tp n) (hk : Rk (I, Z)) (hR : RdC I tp n t) (ht : Tk n t) (h : ∀ I' : Nat → Nat → Int, (∀ x, x ≠ 76 → I' x = I x) → RdC I' tp n (kP tp n t (iW tp n t (sby j))) → Q (.inl (some (iV (b01 (iW tp n t (sby j)))))) (I', Z)) : T G dp 0 0 M6_skipWord [rV (some 76), sV j] (I, Z) Q := by
  refine T6_skipWord (s6_skipWord_0 (by omega) (am_ow hk.1) fun Q' hK => ct_isWord (n := n) (tp := tp) (t := t) hz (by omega) hj hB hT hk hR ht (hK _ _ ?_))
  by_cases e : iW tp n t (sby j) = true
  · have w0 := (of_decide_eq_true e).1
    rw [e] at h ⊢
    refine s6_skipWord_5 (by omega) (am_ow hk.1) (fun q => absurd q (by decide)) (fun _ Q' hK => ct_pass (t := t) hB hT hk hR ht w0 fun I' g1 g2 => hK _ ?_)
    exact s6_skipWord_14 (h I' g1 g2) (Or.inr rfl)
  · rw [eq_false_of_ne_true e] at h ⊢
    exact s6_skipWord_5 (by omega) (am_ow hk.1) (fun _ => s6_skipWord_14 (h I (fun _ _ => rfl) hR) (Or.inl rfl)) (fun q => absurd rfl q)
theorem ct_skipSign {I : Nat → Nat → Int} {tp : Nat → Int} {n : Nat} {t : TS} {c : Int} (hc : 0 ≤ c ∧ c < 128) (hd : 1 ≤ dp) (hB : TpB tp) (hT : Tb I tp n) (hk : Rk (I, Z)) (hR : RdC I tp n t) (ht : Tk n t) (h : ∀ I' : Nat → Nat → Int, (∀ x, x ≠ 76 → I' x = I x) → RdC I' tp n (kP tp n t (iS tp n t c)) → Q (.inl (some (iV (b01 (iS tp n t c))))) (I', Z)) : T G dp 0 0 M6_skipSign [rV (some 76), iV c] (I, Z) Q := by
  refine T6_skipSign (s6_skipSign_0 hd (am_ow hk.1) fun Q' hK => ct_isSign (n := n) (tp := tp) (t := t) hc hB hT hk hR (hK _ _ ?_))
  by_cases e : iS tp n t c = true
  · have w0 := (of_decide_eq_true e).1
    rw [e] at h ⊢
    refine s6_skipSign_5 hd (am_ow hk.1) (fun q => absurd q (by decide)) (fun _ Q' hK => ct_pass (t := t) hB hT hk hR ht w0 fun I' g1 g2 => hK _ ?_)
    exact s6_skipSign_14 (h I' g1 g2) (Or.inr rfl)
  · rw [eq_false_of_ne_true e] at h ⊢
    exact s6_skipSign_5 hd (am_ow hk.1) (fun _ => s6_skipSign_14 (h I (fun _ _ => rfl) hR) (Or.inl rfl)) (fun q => absurd rfl q)
theorem ct_needSign {I : Nat → Nat → Int} {tp : Nat → Int} {n : Nat} {t : TS} {c : Int} (hc : 0 ≤ c ∧ c < 128) (hd : 2 ≤ dp) (hB : TpB tp) (hT : Tb I tp n) (hk : Rk (I, Z)) (hR : RdC I tp n t) (ht : Tk n t) (h : ∀ I' : Nat → Nat → Int, (∀ x, x ≠ 76 → I' x = I x) → RdC I' tp n (tS tp n t c) → Q (.inl none) (I', Z)) : T G dp 0 0 M6_needSign [rV (some 76), iV c] (I, Z) Q := by
  refine T6_needSign (s6_needSign_0 (by omega) (am_ow hk.1) fun Q' hK => ct_skipSign (n := n) (tp := tp) (t := t) hc (by omega) hB hT hk hR ht (fun I1 f1 g1 => hK _ _ ?_))
  unfold tS at h
  by_cases e : iS tp n t c = true
  · rw [if_pos e] at h
    rw [e] at g1 ⊢
    exact s6_needSign_5 (by omega) (am_ow hk.1) (fun _ => s6_needSign_13 (h I1 f1 g1)) (fun q => absurd q (by decide))
  · rw [if_neg e] at h
    rw [eq_false_of_ne_true e] at g1 ⊢
    exact s6_needSign_5 (by omega) (am_ow hk.1) (fun q => absurd rfl q) (fun _ Q' hK => ct_fail (I := I1) (t := t) hk g1 fun I' f2 g2 => hK _ (s6_needSign_13 (h I' (fun x hx => (f2 x hx).trans (f1 x hx)) g2)))
theorem ct_needNumber {I : Nat → Nat → Int} {tp : Nat → Int} {n : Nat} {t : TS} {lo hi room : Int} (hlo : 0 ≤ lo ∧ lo ≤ 100000000) (hhi : hi < 100000000) (hro : room ≤ 100000000) (hd : 1 ≤ dp) (hB : TpB tp) (hT : Tb I tp n) (hk : Rk (I, Z)) (hR : RdC I tp n t) (ht : Tk n t) (h : ∀ I' : Nat → Nat → Int, (∀ x, x ≠ 76 → I' x = I x) → RdC I' tp n (tN tp n t lo hi room) → Q (.inl (some (iV (tV tp n t lo hi room)))) (I', Z)) : T G dp 0 0 M6_needNumber [rV (some 76), iV lo, iV hi, iV room] (I, Z) Q := by
  refine T6_needNumber (s6_needNumber_0 hd (am_ow hk.1) fun Q' hK => ct_isNumber (n := n) (tp := tp) (t := t) hk hR (hK _ _ ?_))
  unfold tN tV at h
  by_cases e : iN tp n t = true
  · have e4 := of_decide_eq_true e
    have r5 : (I, Z).1 76 5 = min 100000000 (nv tp n t.1) := hR.2.2.2.2.1 e4.2
    have v0 := nv_nn e4.2
    rw [e]
    rw [if_pos e] at h
    refine s6_needNumber_4 hd (am_ow hk.1) (fun _ q Q' hK => ?_) (fun _ q q2 q3 Q' hK => ?_) (fun _ q q2 q3 Q' hK => ?_) (fun _ q q2 Q' hK => ?_) (fun q => absurd q (by decide))
    · rw [r5] at q
      rw [if_pos (by omega), if_neg (by omega)] at h
      exact ct_fail (t := t) hk hR fun I' f2 g2 => hK _ (s6_needNumber_36 (h I' f2 g2))
    · rw [r5] at q q2 q3
      rw [if_neg (by omega), if_neg (by omega), if_pos (by refine ⟨e, ?_, ?_, ?_⟩ <;> omega)] at h
      refine ct_pass (t := t) hB hT hk hR ht e4.1 fun I' f2 g2 => hK _ (s6_needNumber_65 ?_)
      rw [r5, show min 100000000 (nv tp n t.1) = nv tp n t.1 by omega]
      exact h I' f2 g2
    · rw [r5] at q q2 q3
      rw [if_neg (by omega), if_pos (by omega), if_neg (by omega)] at h
      exact ct_fail (t := t) hk hR fun I' f2 g2 => hK _ (s6_needNumber_52 (h I' f2 g2))
    · rw [r5] at q q2
      rw [if_pos (by omega), if_neg (by omega)] at h
      exact ct_fail (t := t) hk hR fun I' f2 g2 => hK _ (s6_needNumber_36 (h I' f2 g2))
  · rw [if_neg e, if_neg (fun z => e z.1)] at h
    rw [eq_false_of_ne_true e]
    exact s6_needNumber_4 hd (am_ow hk.1) (fun q => absurd rfl q) (fun q => absurd rfl q) (fun q => absurd rfl q) (fun q => absurd rfl q) (fun _ Q' hK => ct_fail (t := t) hk hR fun I' f2 g2 => hK _ (s6_needNumber_12 (h I' f2 g2)))
theorem ct_open {I : Nat → Nat → Int} {tp : Nat → Int} {n : Nat} {P : Nat → Nat → Option Nat} {Z : (Nat → Nat × Nat) × Nat × Bool} (hd : 1 ≤ dp) (hB : TpB tp) (hT : Tb I tp n) (h5 : am_obw (I, P, Z) 76 5) (h2 : am_arw (I, P, Z) 2 102 600) (h : ∀ I' : Nat → Nat → Int, (∀ x, x ≠ 76 → I' x = I x) → RdC I' tp n (rn blk tp n 0, 0, -1) → Q (.inl none) (I', u2 P 76 0 (some 2), Z)) : T G dp 0 0 M6_open [rV (some 76), rV (some 2), iV n] (I, P, Z) Q := by
  have hn := hT.1
  refine T6_open (s6_open_0 hd h5 (am_rw h2) (by omega) fun Q' hK => ?_)
  rw [show max 0 (min (n : Int) ((600 : Nat) : Int)) = n by omega]
  refine ct_step (n := n) (tp := tp) (e := 0) hB ⟨hn, fun j hj => ?_⟩ ⟨h5, (show u2 P 76 0 (some 2) 76 0 = some 2 from u2_same _ _ _ _), h2⟩ ?_ ?_ (Nat.zero_le _) (fun I' g1 g2 => hK _ (s6_open_38 (h I' (fun x hx => ?_) ?_)))
  · rw [u2r (by omega), u2r (by omega), u2r (by omega), u2r (by omega)]; exact hT.2 j hj
  · rw [u2n (by omega), u2n (by omega), u2n (by omega), u2_at]
  · rw [u2n (by omega), u2n (by omega), u2_at]; rfl
  · rw [g1 x hx, u2r hx, u2r hx, u2r hx, u2r hx]
  · have a1 : (u2 (u2 (u2 (u2 I 76 1 (n : Int)) 76 3 0) 76 6 0) 76 7 (-1)) 76 6 = 0 := by rw [u2n (by omega), u2_at]
    have a2 : (u2 (u2 (u2 (u2 I 76 1 (n : Int)) 76 3 0) 76 6 0) 76 7 (-1)) 76 7 = -1 := u2_at
    dsimp only at g2
    rw [a1, a2] at g2
    exact g2
end
