/-! THE START: what is known of it (String constants by their places in narrow_1, by program) -/
theorem str_of {args : Array Value} {s : State} {t : Term} {n : Nat} {f : Nat → Value} {A : Nat → Prop} (hN : n < 2 ^ 31) (hex : (Cond.exactly t "java/lang/String").before args s = true) (hco : (Cond.eq (.field t "java/lang/String" "coder" "B") (.int 0)).before args s = true) (har : (Cond.arrayOf (.field t "java/lang/String" "value" "[B") .byte).before args s = true) (hle : (Cond.eq (.length (.field t "java/lang/String" "value" "[B")) (.int (Int32.ofNat n))).before args s = true) (hel : ∀ j : Nat, j < n → (Term.elem (.field t "java/lang/String" "value" "[B") (.int (Int32.ofNat j))).eval args s none [] s = some (f j)) (hA : ∀ a : Nat, a < s.heap.size → ¬ A a) :
    ∃ a v : Nat, t.eval args s none [] s = some (.ref a) ∧ va_O "java/lang/String" a A s s.heap ∧ va_OF "java/lang/String" "coder" "B" (.int 0) a A s s.heap ∧ va_OF "java/lang/String" "value" "[B" (.ref v) a A s s.heap ∧ va_T .byte v n f A s s.heap := by
  obtain ⟨a, c, cA, kA, q1, q2, q3, q4, q5, q6, -⟩ := Cond.exactly_spec (args := args) (first := s) (o := none) (s := s) (idx := []) (t := t) (cls := "java/lang/String") hex
  obtain ⟨v, ht, hT⟩ := va_Tof (f := f) (A := A) hN har (va_eqt hle) hel hA
  exact ⟨a, v, q1, ⟨cA, q3, q5, by rw [q6]; exact q2, hA a (Array.getElem?_eq_some_iff.mp q3).1⟩, vk_OFof q1 (va_eqt hco) hA, vk_OFof q1 ht hA, hT⟩
/-- what the Statement gives, one by one; where each constant's words begin; where its warm form stands -/
def gFl : List Cond := flatC (Jvm.Cond.and given_1 narrow_1)
def gPl : List Nat := [31, 65, 73, 81, 92, 103, 112, 119, 128, 137, 147, 155, 163, 180, 196, 222, 243, 270, 295, 313, 341, 357, 376, 397, 415, 430, 446, 470, 500, 525, 553, 607, 615, 624, 633, 640, 650, 658, 668, 677, 687, 697, 708, 715, 721, 730, 739, 751, 763, 774, 783, 794, 804, 815, 824, 833, 842, 852, 862, 870, 881, 893, 904, 914, 922]
def gSr : List Nat := [684, 734, 805, 811, 835, 843, 844, 845, 849, 860, 861, 862, 885, 903, 908, 927, 946, 971, 994, 995, 1003, 1018, 1026, 1057, 1065, 1073, 1076, 1087, 1138, 1142, 1157, 1162, 1164, 1165, 1179, 1190, 1195, 1196, 1197, 1198, 1201, 1202, 1206, 1207, 1745, 1778, 1779, 1792, 1801, 1802, 1803, 1808, 1813, 1814, 1815, 1825, 1826, 1831, 1844, 1853, 1858, 1863, 1864, 1865, 1866]
def gTm (j : Nat) : Term := match am_str[j]? with
  | some q => .string q.1 q.2.1
  | none => .string "" 0
def gWs (j : Nat) : List Cond := [Cond.eq (.field (gTm j) "java/lang/String" "coder" "B") (.int 0), Cond.arrayOf (.field (gTm j) "java/lang/String" "value" "[B") .byte, Cond.eq (.length (.field (gTm j) "java/lang/String" "value" "[B")) (.int (Int32.ofNat (sby j).length))] ++ (List.range (sby j).length).map (fun k => Cond.eq (.elem (.field (gTm j) "java/lang/String" "value" "[B") (.int (Int32.ofNat k))) (.int (Int32.ofInt ((sby j).getD k 0))))
theorem gEx : ∀ j, j < 65 → gFl[gPl.getD j 0]? = some (Cond.exactly (gTm j) "java/lang/String") := by decide +kernel
theorem gIn : ∀ j, j < 65 → sby j ≠ [] → ∀ k, k < 3 + (sby j).length → gFl[gPl.getD j 0 + 1 + k]? = (gWs j)[k]? := by decide +kernel
theorem gRf : ∀ j, j < 65 → ∀ q, am_str[j]? = some q → lw_tbl[gSr.getD j 0]? = some (Cond.stringRef q.1 q.2.1 q.2.2) := by
  intro j hj q hq
  have h : ∀ j, j < 65 → lw_tbl[gSr.getD j 0]? = (am_str[j]?).map (fun q => Cond.stringRef q.1 q.2.1 q.2.2) := by decide +kernel
  have h1 := h j hj
  rw [h1, hq]
  rfl
theorem sby_lt {j : Nat} (h : sby j ≠ []) : j < 65 := by
  by_cases hj : j < 65
  · exact hj
  · exfalso
    apply h
    unfold sby
    split <;> first | omega | rfl
theorem am_str_lt {j : Nat} {q : String × Nat × String} (h : am_str[j]? = some q) : j < 65 := (List.getElem?_eq_some_iff.mp h).1
theorem gWs_at {j : Nat} (hj : j < 65) (hs : sby j ≠ []) {w : Cond} {k : Nat} (hk : k < 3 + (sby j).length) (hw : (gWs j)[k]? = some w) : w ∈ gFl := List.mem_of_getElem? ((gIn j hj hs k hk).trans hw)
theorem gStr {args : Array Value} {s : State} {A : Nat → Prop} (hgv : ∀ w ∈ gFl, w.before args s = true) (hA : ∀ a : Nat, a < s.heap.size → ¬ A a) (j : Nat) : ∃ q : Nat × Nat, j < 65 → (gTm j).eval args s none [] s = some (.ref q.1) ∧ (sby j ≠ [] → va_O "java/lang/String" q.1 A s s.heap ∧ va_OF "java/lang/String" "coder" "B" (.int 0) q.1 A s s.heap ∧ va_OF "java/lang/String" "value" "[B" (.ref q.2) q.1 A s s.heap ∧ va_T .byte q.2 (sby j).length (fun k => .int (Int32.ofInt ((sby j).getD k 0))) A s s.heap) := by
  by_cases hj : j < 65
  · have hex := hgv _ (List.mem_of_getElem? (gEx j hj))
    by_cases hs : sby j = []
    · obtain ⟨a, c, cA, kA, q1, -⟩ := Cond.exactly_spec (args := args) (first := s) (o := none) (s := s) (idx := []) (t := gTm j) (cls := "java/lang/String") hex
      exact ⟨(a, 0), fun _ => ⟨q1, fun q => absurd hs q⟩⟩
    · have hlen := sby_len j
      obtain ⟨a, v, h1, h2, h3, h4, h5⟩ := str_of (args := args) (s := s) (t := gTm j) (n := (sby j).length) (f := fun k => .int (Int32.ofInt ((sby j).getD k 0))) (A := A) (by omega) hex (hgv _ (gWs_at hj hs (k := 0) (by omega) rfl)) (hgv _ (gWs_at hj hs (k := 1) (by omega) rfl)) (hgv _ (gWs_at hj hs (k := 2) (by omega) rfl)) (fun k hk => va_eqt (hgv _ (gWs_at hj hs (k := 3 + k) (by omega) (by
        unfold gWs
        rw [List.getElem?_append_right (by simp)]
        simp [hk])))) hA
      exact ⟨(a, v), fun _ => ⟨h1, fun _ => ⟨h2, h3, h4, h5⟩⟩⟩
  · exact ⟨(0, 0), fun h => absurd h hj⟩
theorem G_of (l : Launch) (hflags : l.flags = flags0) {s : State} {b : Nat} (hts : ∀ w ∈ lw_tbl, w.before #[Value.ref b] s = true) (hbl : b < s.heap.size) (hgv : (Jvm.Cond.and given_1 narrow_1).before #[Value.ref b] s = true) : ∃ (D : va_G) (st : Nat → Nat) (ar : Nat → ClassId), am_ok (l, s, b, D, st, ar) ∧ SZ (l, s, b, D, st, ar) ∧ NC (l, s, b, D, st, ar) := by
  have hF : ∀ w ∈ gFl, w.before #[Value.ref b] s = true := flat_of_before _ hgv
  have hA : ∀ a : Nat, a < s.heap.size → ¬ (fun q : Nat => s.heap.size ≤ q) a := fun a h => Nat.not_le.mpr h
  obtain ⟨c0, i0, k0⟩ := u_known (C := RX0) (T := TX0) (N := 9) (n := 9) hts inX0 (hts _ (List.mem_of_getElem? (i := 307) (by decide +kernel)))
  obtain ⟨c1, i1, k1⟩ := u_known (C := RX1) (T := TX1) (N := 9) (n := 9) hts inX1 (hts _ (List.mem_of_getElem? (i := 261) (by decide +kernel)))
  obtain ⟨c2, i2, k2⟩ := u_known (C := RX2) (T := TX2) (N := 10) (n := 10) hts inX2 (hts _ (List.mem_of_getElem? (i := 161) (by decide +kernel)))
  obtain ⟨c3, i3, k3⟩ := u_known (C := RX3) (T := TX3) (N := 6) (n := 6) hts inX3 (hts _ (List.mem_of_getElem? (i := 154) (by decide +kernel)))
  obtain ⟨c4, i4, k4⟩ := u_known (C := RX5) (T := TX5) (N := 6) (n := 6) hts inX5 (hts _ (List.mem_of_getElem? (i := 379) (by decide +kernel)))
  obtain ⟨c5, i5, k5⟩ := u_known (C := RX6) (T := TX6) (N := 8) (n := 8) hts inX6 (hts _ (List.mem_of_getElem? (i := 346) (by decide +kernel)))
  obtain ⟨c6, i6, k6⟩ := u_known (C := RX7) (T := TX7) (N := 2) (n := 2) hts inX7 (hts _ (List.mem_of_getElem? (i := 137) (by decide +kernel)))
  obtain ⟨c7, i7, k7⟩ := u_known (C := RX8) (T := TX8) (N := 13) (n := 13) hts inX8 (hts _ (List.mem_of_getElem? (i := 129) (by decide +kernel)))
  obtain ⟨c8, i8, k8⟩ := u_known (C := RX9) (T := TX9) (N := 35) (n := 35) hts inX9 (hts _ (List.mem_of_getElem? (i := 1236) (by decide +kernel)))
  obtain ⟨dC, dI, hKc⟩ : ∃ (dC : Nat → ClassId) (dI : Nat → Nat → Nat), ∀ (k : Nat) (q : vw_C), vwCl[k]? = some q → u_Kn s q.1 q.2.1 q.2.2 (dC k) (dI k) := by
    refine ⟨fun k => [c0, c1, c2, c3, c4, c5, c6, c7, c8].getD k c0, fun k => [i0, i1, i2, i3, i4, i5, i6, i7, i8].getD k i0, ?_⟩
    intro k q hq
    match k, hq with
    | 0, hq => cases hq; exact k0
    | 1, hq => cases hq; exact k1
    | 2, hq => cases hq; exact k2
    | 3, hq => cases hq; exact k3
    | 4, hq => cases hq; exact k4
    | 5, hq => cases hq; exact k5
    | 6, hq => cases hq; exact k6
    | 7, hq => cases hq; exact k7
    | 8, hq => cases hq; exact k8
    | k + 9, hq => simp [vwCl] at hq
  obtain ⟨aI, kI, pI, eI1, eI2, eI3⟩ := Cond.arrayClass_spec (hts (.arrayClass .int) (List.mem_of_getElem? (i := 152) (by decide +kernel)))
  obtain ⟨aL, kL, pL, eL1, eL2, eL3⟩ := Cond.arrayClass_spec (hts (.arrayClass .long) (List.mem_of_getElem? (i := 305) (by decide +kernel)))
  obtain ⟨aB, kB, pB, eB1, eB2, eB3⟩ := Cond.arrayClass_spec (hts (.arrayClass .byte) (List.mem_of_getElem? (i := 151) (by decide +kernel)))
  obtain ⟨pO, aO, kO, eO1, -, eO3, eO4, eO5⟩ := Cond.arrayOver_spec (hts (.arrayOver (.object "DrawnBallots$Contest")) (List.mem_of_getElem? (i := 160) (by decide +kernel)))
  obtain ⟨pA, aA, kA, eA1, -, eA3, eA4, eA5⟩ := arrayOver_specB (hts (.arrayOver (.array .long)) (List.mem_of_getElem? (i := 267) (by decide +kernel)))
  obtain ⟨ad, had⟩ := Classical.axiomOfChoice (gStr (A := fun q : Nat => s.heap.size ≤ q) hF hA)
  have hZq : va_Zq "jdk/internal/util/Preconditions" "SIOOBE_FORMATTER" "Ljava/util/function/BiFunction;" (fun q : Nat => s.heap.size ≤ q) s s.heap := va_Zqof (hts _ (List.mem_of_getElem? (i := 764) (by decide +kernel))) (hts _ (List.mem_of_getElem? (i := 123) (by decide +kernel))) (hF _ (List.mem_of_getElem? (i := 7) (by decide +kernel))) hA
  obtain ⟨t0, ht0⟩ : ∃ t0 : Nat, va_Z "jdk/internal/util/Preconditions" "SIOOBE_FORMATTER" "Ljava/util/function/BiFunction;" .null (fun q : Nat => s.heap.size ≤ q) s s.heap ∨ va_Z "jdk/internal/util/Preconditions" "SIOOBE_FORMATTER" "Ljava/util/function/BiFunction;" (.ref t0) (fun q : Nat => s.heap.size ≤ q) s s.heap := by
    rcases hZq with h | ⟨t, h⟩
    · exact ⟨0, Or.inl h⟩
    · exact ⟨t, Or.inr h⟩
  let st : Nat → Nat := fun j => if j < 65 then (ad j).1 else if j = 200 then t0 else (ad (j - 100)).2
  have st1 : ∀ j, j < 65 → st j = (ad j).1 := fun j hj => if_pos hj
  have st2 : ∀ j, j < 65 → st (100 + j) = (ad j).2 := fun j hj => by
    show (if 100 + j < 65 then _ else if 100 + j = 200 then _ else (ad (100 + j - 100)).2) = _
    rw [if_neg (by omega), if_neg (by omega), Nat.add_sub_cancel_left]
  have st3 : st 200 = t0 := rfl
  refine ⟨(dC, dI), st, fun k => if k = 100 then aI else if k = 101 then aL else if k = 102 then aB else if k = 103 then aO else aA, ⟨hts, ⟨hKc, fun k q hq => ?_⟩, hbl, ?_, vx_Zqof (hts _ (List.mem_of_getElem? (i := 671) (by decide +kernel))) (hts _ (List.mem_of_getElem? (i := 115) (by decide +kernel))) (hF _ (List.mem_of_getElem? (i := 4) (by decide +kernel))) hA, vx_Zqof (hts _ (List.mem_of_getElem? (i := 673) (by decide +kernel))) (hts _ (List.mem_of_getElem? (i := 115) (by decide +kernel))) (hF _ (List.mem_of_getElem? (i := 5) (by decide +kernel))) hA, fun j q hq => ?_, hts _ (List.mem_of_getElem? (i := 646) (by decide +kernel)), hts _ (List.mem_of_getElem? (i := 878) (by decide +kernel))⟩, ⟨fun j hs => ?_, va_Zof (hts _ (List.mem_of_getElem? (i := 748) (by decide +kernel))) (hts _ (List.mem_of_getElem? (i := 121) (by decide +kernel))) (va_eqt (hF _ (List.mem_of_getElem? (i := 6) (by decide +kernel)))) hA, ?_⟩, va_Nc.of (hF _ (List.mem_of_getElem? (i := 30) (by decide +kernel)))⟩
  · match k, hq with
    | 0, hq => cases hq; exact ⟨fun n z => ⟨fun k h => (by cases h), kI, eI2, pI, eI3⟩, eI1⟩
    | 1, hq => cases hq; exact ⟨fun n z => ⟨fun k h => (by cases h), kL, eL2, pL, eL3⟩, eL1⟩
    | 2, hq => cases hq; exact ⟨fun n z => ⟨fun k h => (by cases h), kB, eB2, pB, eB3⟩, eB1⟩
    | 3, hq => cases hq; exact ⟨fun n z => ⟨fun k h => (by cases h), kO, eO3, pO, eO4⟩, kO, pO, eO3, eO4, eO1, eO5⟩
    | 4, hq => cases hq; exact ⟨fun n z => ⟨fun k h => (by cases h), kA, eA3, pA, eA4⟩, eA5⟩
    | k + 5, hq => simp at hq
  · show (!l.flags.contains noTraceFlag) = false
    rw [hflags]
    decide +kernel
  · have hj := am_str_lt hq
    have e : gTm j = .string q.1 q.2.1 := by unfold gTm; rw [hq]
    refine vk_R.of (A := #[Value.ref b]) (hts _ (List.mem_of_getElem? (gRf j hj q hq))) ?_
    show (Term.string q.1 q.2.1).eval _ _ _ _ _ = some (.ref (st j))
    rw [st1 j hj, ← e]
    exact (had j hj).1
  · have hj := sby_lt hs
    show va_O _ (st j) _ _ _ ∧ va_OF _ _ _ _ (st j) _ _ _ ∧ va_OF _ _ _ (.ref (st (100 + j))) (st j) _ _ _ ∧ va_T _ (st (100 + j)) _ _ _ _ _
    rw [st1 j hj, st2 j hj]
    exact (had j hj).2 hs
  · rcases ht0 with h | h
    · exact ⟨rV none, Or.inl rfl, h⟩
    · exact ⟨sV 200, Or.inr rfl, h⟩
