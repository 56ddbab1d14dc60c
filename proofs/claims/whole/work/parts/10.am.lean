/-! THE JUDGEMENT: a frame's walk said in whole numbers and numbered cells -/
/-- values: int, long, reference (a cell's number, or null), double, String constant -/
abbrev am_V : Type := Int ⊕ (Int ⊕ (Option Nat ⊕ (UInt64 ⊕ Nat)))
abbrev iV (z : Int) : am_V := Sum.inl z
abbrev lV (z : Int) : am_V := Sum.inr (Sum.inl z)
abbrev rV (r : Option Nat) : am_V := Sum.inr (Sum.inr (Sum.inl r))
abbrev dV (x : UInt64) : am_V := Sum.inr (Sum.inr (Sum.inr (Sum.inl x)))
abbrev sV (j : Nat) : am_V := Sum.inr (Sum.inr (Sum.inr (Sum.inr j)))
/-- memory: numbers, references, shapes (kind, length), how many cells, whether the heap holds no more than them -/
abbrev am_M : Type := (Nat → Nat → Int) × (Nat → Nat → Option Nat) × (Nat → Nat × Nat) × Nat × Bool
/-- what is fixed: the launch, the law's first state, the script's cell, the tables' numbers, the String constants' cells, the array classes -/
abbrev am_G : Type := Launch × State × Nat × va_G × (Nat → Nat) × (Nat → ClassId)
/-- a method: name, code, locals, answer, class, handlers -/
abbrev am_Me : Type := MethodName × ByteArray × Nat × Option FieldType × String × List (Nat × Nat × Nat × Nat)
/-- what is asked of the end: an answer or the number of an exception's class; the memory -/
abbrev am_Q : Type := (Option am_V ⊕ Nat) → am_M → Prop
abbrev am_bs (G : am_G) : Nat := G.2.1.heap.size
def am_ad (G : am_G) (k : Nat) : Nat := if k = 0 then G.2.2.1 else am_bs G + (k - 1)
def am_tr (G : am_G) : am_V → Value
  | .inl z => .int (Int32.ofInt z)
  | .inr (.inl z) => .long (Int64.ofInt z)
  | .inr (.inr (.inl none)) => .null
  | .inr (.inr (.inl (some k))) => .ref (am_ad G k)
  | .inr (.inr (.inr (.inl x))) => .double x
  | .inr (.inr (.inr (.inr j))) => .ref (G.2.2.2.2.1 j)
def i32 (z : Int) : Prop := -2147483648 ≤ z ∧ z ≤ 2147483647
def i64 (z : Int) : Prop := -9223372036854775808 ≤ z ∧ z ≤ 9223372036854775807
/-- wrapped to an int, to a long -/
def wr (z : Int) : Int := z.bmod 4294967296
def wrl (z : Int) : Int := z.bmod 18446744073709551616
def am_wv : am_V → Prop
  | .inl z => i32 z
  | .inr (.inl z) => i64 z
  | _ => True
def am_fk : FieldType → Nat
  | .object _ => 1
  | .array _ => 1
  | .boolean => 2
  | _ => 0
/-- the classes' fields -/
def am_ty : Nat → Nat → FieldType
  | 0 => tyX0
  | 1 => tyX1
  | 2 => tyX2
  | 3 => tyX3
  | 4 => tyX5
  | 5 => tyX6
  | 6 => tyX7
  | 7 => tyX8
  | _ => tyX9
/-- an array's kind: what its elements are -/
def am_el : Nat → FieldType
  | 100 => .int
  | 101 => .long
  | 102 => .byte
  | 103 => .object "DrawnBallots$Contest"
  | _ => .array .long
abbrev am_tys (G : am_G) : List (ClassId × FieldType) := [(G.2.2.2.2.2 100, .int), (G.2.2.2.2.2 101, .long), (G.2.2.2.2.2 102, .byte), (G.2.2.2.2.2 103, .object "DrawnBallots$Contest"), (G.2.2.2.2.2 104, .array .long)]
def am_fv (G : am_G) (m : am_M) (k c j : Nat) : Value := if am_fk (am_ty c j) = 1 then va_rf ((m.2.1 k j).map (am_ad G)) else .int (Int32.ofInt (m.1 k j))
/-- what cell k holds -/
def am_e (G : am_G) (m : am_M) (k : Nat) : va_E :=
  if (m.2.2.1 k).1 < 100 then .inr ((m.2.2.1 k).1, (List.range 64).map (am_fv G m k (m.2.2.1 k).1))
  else if (m.2.2.1 k).1 = 101 then .inl (G.2.2.2.2.2 101, (m.2.2.1 k).2, .inr (.inl (fun j => Int64.ofInt (m.1 k j))))
  else if (m.2.2.1 k).1 = 103 then .inl (G.2.2.2.2.2 103, (m.2.2.1 k).2, .inr (.inr (.inr (.inr (fun j => (m.2.1 k j).map (am_ad G))))))
  else if (m.2.2.1 k).1 = 104 then .inl (G.2.2.2.2.2 104, (m.2.2.1 k).2, .inr (.inr (.inr (.inr (fun j => (m.2.1 k j).map (am_ad G))))))
  else .inl (G.2.2.2.2.2 (m.2.2.1 k).1, (m.2.2.1 k).2, .inl (fun j => Int32.ofInt (m.1 k j)))
def am_wm (m : am_M) : Prop := 1 ≤ m.2.2.2.1 ∧ ∀ k, k < m.2.2.2.1 → ((m.2.2.1 k).1 < 9 ∨ 100 ≤ (m.2.2.1 k).1 ∧ (m.2.2.1 k).1 ≤ 104) ∧ (m.2.2.1 k).2 < 2147483648 ∧ ∀ j, if (m.2.2.1 k).1 = 101 then i64 (m.1 k j) else i32 (m.1 k j)
/-- the heap holds the memory -/
def am_HR (G : am_G) (m : am_M) (H : Heap) : Prop :=
  am_wm m ∧ (∀ k, k ≠ 0 → k < m.2.2.2.1 → va_at G.2.2.2.1 vwCl (am_ad G k, am_e G m k) H) ∧ am_bs G + (m.2.2.2.1 - 1) ≤ H.size ∧ (m.2.2.2.2 = true → H.size = am_bs G + (m.2.2.2.1 - 1)) ∧ ∀ q, q < am_bs G → H[q]? = G.2.1.heap[q]?
def am_LR (G : am_G) (ls : Array Slot) (nL : Nat) (L : List (Option am_V)) : Prop := ls.size = nL ∧ L.length = nL ∧ lv_wf ls ∧ ∀ (i : Nat) (v : am_V), L[i]? = some (some v) → ls[i]? = some (Slot.val (am_tr G v)) ∧ am_wv v
def am_en : Nat → String
  | 0 => "java/lang/IllegalArgumentException"
  | _ => "java/util/NoSuchElementException"
def am_Qc (G : am_G) (Q : am_Q) : Array Value → State → Outcome → State → Prop := fun _ st o t => ∃ (r : Option am_V) (m' : am_M), Q (.inl r) m' ∧ o = .returned (r.map (am_tr G)) ∧ (∀ v, r = some v → am_wv v) ∧ am_HR G m' t.heap ∧ st.heap.size ≤ t.heap.size
def am_XC (G : am_G) (Q : am_Q) : String → State → State → Prop := fun E st t => ∃ (k : Nat) (m' : am_M), Q (.inr k) m' ∧ E = am_en k ∧ am_HR G m' t.heap ∧ st.heap.size ≤ t.heap.size
abbrev am_fr (G : am_G) : Addr → Prop := fun q => am_bs G ≤ q
def am_Z (G : am_G) (below : List Frame) (args : Array Value) (s : State) (mc ms : Nat) (Q : am_Q) : State → Prop := vx_MQ below (am_Qc G Q) (am_XC G Q) args s mc ms (am_fr G)
/-- the String constants: class, entry, text -/
def am_str : List (String × Nat × String) := [("DrawnBallots", 81, "the tape has not so many bytes"), ("DrawnBallots$ElectionText", 20, "race"), ("DrawnBallots$ElectionText", 77, "poll"), ("DrawnBallots$ElectionText", 82, "compare"), ("DrawnBallots$ElectionText", 84, "ballots"), ("DrawnBallots$ElectionText", 139, "blank"), ("DrawnBallots$ElectionText", 141, "off"), ("DrawnBallots$ElectionText", 89, "paper"), ("DrawnBallots$ElectionText", 94, "limit"), ("DrawnBallots$ElectionText", 100, "factor"), ("DrawnBallots$ElectionText", 102, "most"), ("DrawnBallots$ElectionText", 104, "seed"), ("DrawnBallots", 143, "no such count"), ("DrawnBallots", 180, "no such race"), ("DrawnBallots", 178, "nothing such of a race"), ("DrawnBallots", 186, "no such candidate"), ("DrawnBallots", 206, "no such number of draws"), ("DrawnBallots", 222, "nothing such of flips"), ("DrawnBallots", 188, "no such ballot"), ("DrawnBallots", 266, "nothing such of a ballot"), ("DrawnBallots", 268, "no such draw"), ("DrawnBallots", 276, "no such mistake"), ("DrawnBallots", 278, "not so many draws"), ("DrawnBallots", 300, "no such choice"), ("DrawnBallots", 306, "no such way"), ("DrawnBallots", 308, "no such rule"), ("DrawnBallots", 316, "the rule can't be so"), ("DrawnBallots", 353, "no such number of mistakes"), ("DrawnBallots", 391, "nothing such of tries"), ("DrawnBallots", 396, "no such number of audits"), ("DrawnBallots", 398, "no question has so many bytes, or the tape has not"), ("DrawnBallots$Question", 31, "many"), ("DrawnBallots$Question", 39, "first"), ("DrawnBallots$Question", 41, "drawn"), ("DrawnBallots$Question", 69, "not"), ("DrawnBallots$Question", 95, "blank"), ("DrawnBallots$Question", 97, "off"), ("DrawnBallots$Question", 99, "number"), ("DrawnBallots$Question", 101, "times"), ("DrawnBallots$Question", 103, "record"), ("DrawnBallots$Question", 110, "paper"), ("DrawnBallots$Question", 112, "mistake"), ("DrawnBallots$Question", 67, "and"), ("DrawnBallots$Question", 58, "or"), ("DrawnBallotsModel", 436, "race"), ("DrawnBallotsModel", 396, "poll"), ("DrawnBallotsModel", 402, "compare"), ("DrawnBallotsModel", 411, "ballots"), ("DrawnBallotsModel", 404, "blank"), ("DrawnBallotsModel", 406, "off"), ("DrawnBallotsModel", 415, "paper"), ("DrawnBallotsModel", 420, "limit"), ("DrawnBallotsModel", 426, "factor"), ("DrawnBallotsModel", 428, "most"), ("DrawnBallotsModel", 430, "seed"), ("DrawnBallotsModel", 483, "many"), ("DrawnBallotsModel", 485, "first"), ("DrawnBallotsModel", 487, "drawn"), ("DrawnBallotsModel", 462, "not"), ("DrawnBallotsModel", 450, "record"), ("DrawnBallotsModel", 455, "mistake"), ("DrawnBallotsModel", 460, "number"), ("DrawnBallotsModel", 461, "times"), ("DrawnBallotsModel", 476, "and"), ("DrawnBallotsModel", 481, "or")]
/-- what is known of the first state -/
def am_ok (G : am_G) : Prop :=
  (∀ w ∈ lw_tbl, w.before #[Value.ref G.2.2.1] G.2.1 = true) ∧ va_K G.2.2.2.1 vwCl (am_tys G) G.2.1 ∧ G.2.2.1 < am_bs G ∧ G.1.stackTraces = false ∧
  vx_Zq Bundle.tN "UNASSIGNED_STACK" Bundle.steD (fun q => am_bs G ≤ q) G.2.1 G.2.1.heap ∧ vx_Zq Bundle.tN "SUPPRESSED_SENTINEL" Bundle.listD (fun q => am_bs G ≤ q) G.2.1 G.2.1.heap ∧
  (∀ (j : Nat) (q : String × Nat × String), am_str[j]? = some q → vk_R q.1 q.2.1 q.2.2 (G.2.2.2.2.1 j) G.2.1) ∧ (Cond.castable (am_en 0) (am_en 0)).before #[Value.ref G.2.2.1] G.2.1 = true ∧ (Cond.castable (am_en 1) (am_en 1)).before #[Value.ref G.2.2.1] G.2.1 = true
def am_In (G : am_G) (d a b : Nat) (M : am_Me) (p : Program) (R : Room) (s : State) (mid : MethodId) (meth : Method) (c : Code) (H : Heap) (locs : List Loc) (cells slots mc ms : Nat) : Prop :=
  p.tables.exec = Jvm.exec ∧ c.code = M.2.1 ∧ c.maxLocals = M.2.2.1 ∧ meth.sig.returnType = M.2.2.2.1 ∧ meth.locks = false ∧ meth.name = M.1.name ∧
  c.exceptionTable.toList = M.2.2.2.2.2.map (fun h => ({ startPc := h.1, endPc := h.2.1, handlerPc := h.2.2.1, catchType := h.2.2.2 } : ExceptionTableEntry)) ∧
  s.vm.findClass M.2.2.2.2.1 = some mid.cls ∧ G.2.1.WarmedH s.vm ∧ d + 16 ≤ R.frames ∧ 40 * d + 300 ≤ R.locals ∧ cells + a ≤ mc ∧ slots + b ≤ ms ∧ mc ≤ R.cells ∧ ms ≤ R.slots ∧
  am_bs G ≤ s.heap.size ∧ s.heap.size ≤ H.size ∧ (∀ q ∈ locs, am_fr G q.base) ∧ ∀ q, q < am_bs G → s.heap[q]? = G.2.1.heap[q]?
/-- THE JUDGEMENT -/
def X (G : am_G) (d a b : Nat) (M : am_Me) (pc : Nat) (L : List (Option am_V)) (st : List am_V) (m : am_M) (Q : am_Q) : Prop :=
  am_ok G → ∀ (p : Program) (e : Env) (R : Room) (s : State) (mid : MethodId) (args : Array Value) (below : List Frame) (meth : Method) (c : Code) (H : Heap) (locs : List Loc) (cells slots mc ms : Nat) (ls : Array Slot),
    am_In G d a b M p R s mid meth c H locs cells slots mc ms → am_HR G m H → am_LR G ls M.2.2.1 L → (∀ v ∈ st, am_wv v) →
    W p G.1 e R s mid args below meth c H locs cells slots (am_Z G below args s mc ms Q) (F0 mid pc ls (st.map (am_tr G)))
def am_rm (d a b : Nat) : Room := { frames := d + 16, cells := a, slots := b, locals := 40 * d + 300 }
def am_cw (M : am_Me) : Cond := if M.2.2.2.2.2 = [] then .code M.1 M.2.1 M.2.2.1 M.2.2.2.1 else .codeWith M.1 M.2.1 M.2.2.1 M.2.2.2.1 M.2.2.2.2.2
def am_Pc (G : am_G) (av : List am_V) (m : am_M) : Array Value → State → Prop := va_Pc (av.map (am_tr G)) (fun U => G.2.1.WarmedH U.vm ∧ am_HR G m U.heap)
/-- a method's contract -/
def T (G : am_G) (d a b : Nat) (M : am_Me) (av : List am_V) (m : am_M) (Q : am_Q) : Prop :=
  am_ok G → (∀ v ∈ av, am_wv v) → vx_Met G.1 M.1 [am_cw M] (am_rm d a b) (am_Pc G av m) (am_Qc G Q) (am_XC G Q) a b (am_fr G)
theorem am_word {G : am_G} (hG : am_ok G) {U : State} (hW : G.2.1.WarmedH U.vm) {w : Cond} (hw : w ∈ lw_tbl) (hg : goodWord w = true) (a' : Array Value) : w.before a' U = true :=
  word_at hW (good_of_word hg) (hG.1 w hw)
theorem wr_i32 (z : Int) : i32 (wr z) := by
  unfold i32 wr
  have h1 := Int.le_bmod (x := z) (m := 4294967296) (by decide)
  have h2 := Int.bmod_lt (x := z) (m := 4294967296) (by decide)
  omega
theorem wrl_i64 (z : Int) : i64 (wrl z) := by
  unfold i64 wrl
  have h1 := Int.le_bmod (x := z) (m := 18446744073709551616) (by decide)
  have h2 := Int.bmod_lt (x := z) (m := 18446744073709551616) (by decide)
  omega
theorem wr_of {z : Int} (h1 : -2147483648 ≤ z) (h2 : z ≤ 2147483647) : wr z = z := by
  unfold wr
  exact Int.bmod_eq_of_le (by omega) (by omega)
theorem wrl_of {z : Int} (h1 : -9223372036854775808 ≤ z) (h2 : z ≤ 9223372036854775807) : wrl z = z := by
  unfold wrl
  exact Int.bmod_eq_of_le (by omega) (by omega)
theorem i32_of {z : Int} (h1 : -2147483648 ≤ z) (h2 : z ≤ 2147483647) : i32 z := ⟨h1, h2⟩
theorem wr_fix {z : Int} (h : i32 z) : wr z = z := wr_of h.1 h.2
theorem wrl_fix {z : Int} (h : i64 z) : wrl z = z := wrl_of h.1 h.2
theorem o32_wr (z : Int) : Int32.ofInt (wr z) = Int32.ofInt z := by
  apply Int32.toInt_inj.mp
  rw [Int32.toInt_ofInt, Int32.toInt_ofInt]
  show (wr z).bmod 4294967296 = z.bmod 4294967296
  exact wr_fix (wr_i32 z)
theorem o64_wr (z : Int) : Int64.ofInt (wrl z) = Int64.ofInt z := by
  apply Int64.toInt_inj.mp
  rw [Int64.toInt_ofInt, Int64.toInt_ofInt]
  show (wrl z).bmod 18446744073709551616 = z.bmod 18446744073709551616
  exact wrl_fix (wrl_i64 z)
theorem o32_ti {z : Int} (h : i32 z) : (Int32.ofInt z).toInt = z := by rw [Int32.toInt_ofInt]; exact wr_fix h
theorem o64_ti {z : Int} (h : i64 z) : (Int64.ofInt z).toInt = z := by rw [Int64.toInt_ofInt]; exact wrl_fix h
theorem o32_lt {x y : Int} (hx : i32 x) (hy : i32 y) : Int32.ofInt x < Int32.ofInt y ↔ x < y := by rw [Int32.lt_iff_toInt_lt, o32_ti hx, o32_ti hy]
theorem o32_le {x y : Int} (hx : i32 x) (hy : i32 y) : Int32.ofInt x ≤ Int32.ofInt y ↔ x ≤ y := by rw [Int32.le_iff_toInt_le, o32_ti hx, o32_ti hy]
theorem o32_eq {x y : Int} (hx : i32 x) (hy : i32 y) : Int32.ofInt x = Int32.ofInt y ↔ x = y := by rw [← Int32.toInt_inj, o32_ti hx, o32_ti hy]
theorem o64_lt {x y : Int} (hx : i64 x) (hy : i64 y) : Int64.ofInt x < Int64.ofInt y ↔ x < y := by rw [Int64.lt_iff_toInt_lt, o64_ti hx, o64_ti hy]
theorem o64_eq {x y : Int} (hx : i64 x) (hy : i64 y) : Int64.ofInt x = Int64.ofInt y ↔ x = y := by rw [← Int64.toInt_inj, o64_ti hx, o64_ti hy]
theorem i32_0 : i32 0 := by unfold i32; omega
theorem o32_cl {z : Int} (h0 : 0 ≤ z) (h : z ≤ 2147483647) : (Int32.ofInt z).toNatClampNeg = z.toNat := by
  show (Int32.ofInt z).toInt.toNat = _
  rw [o32_ti ⟨by omega, h⟩]
theorem o32_in {z : Int} {n : Nat} (h0 : 0 ≤ z) (h : z < n) (hn : n < 2147483648) : ¬ (Int32.ofInt z < 0 ∨ n ≤ (Int32.ofInt z).toNatClampNeg) := by
  rw [o32_cl h0 (by omega)]
  intro h9
  rcases h9 with h9 | h9
  · rw [Int32.lt_iff_toInt_lt, o32_ti ⟨by omega, by omega⟩] at h9
    have : (0 : Int32).toInt = 0 := rfl
    omega
  · omega

theorem Xi32_tdiv {x y : Int} (hx : i32 x) (hy : i32 y) : Int32.ofInt (wr (x.tdiv y)) = Int32.ofInt x / Int32.ofInt y := by
  rw [o32_wr, Int32.ofInt_tdiv (by exact hx.1) (by exact hx.2) (by exact hy.1) (by exact hy.2)]
theorem Xi64_tdiv {x y : Int} (hx : i64 x) (hy : i64 y) : Int64.ofInt (wrl (x.tdiv y)) = Int64.ofInt x / Int64.ofInt y := by
  rw [o64_wr, Int64.ofInt_tdiv (by exact hx.1) (by exact hx.2) (by exact hy.1) (by exact hy.2)]
theorem Xi32_tmod {x y : Int} (hx : i32 x) (hy : i32 y) : Int32.ofInt (x.tmod y) = Int32.ofInt x - Int32.ofInt x / Int32.ofInt y * Int32.ofInt y := by
  rw [← Xi32_tdiv hx hy, o32_wr, Int.tmod_def, Int32.ofInt_sub, Int.mul_comm, Int32.ofInt_mul]
theorem Xi64_tmod {x y : Int} (hx : i64 x) (hy : i64 y) : Int64.ofInt (x.tmod y) = Int64.ofInt x - Int64.ofInt x / Int64.ofInt y * Int64.ofInt y := by
  rw [← Xi64_tdiv hx hy, o64_wr, Int.tmod_def, Int64.ofInt_sub, Int.mul_comm, Int64.ofInt_mul]
theorem i32_tmod {x y : Int} (hx : i32 x) (hy : i32 y) (h0 : y ≠ 0) : i32 (x.tmod y) := by
  have h1 := Int.tmod_lt_of_pos (a := x) (b := y.natAbs) (by omega)
  have h2 := Int.lt_tmod_of_pos (a := x) (b := y.natAbs) (by omega)
  have e : x.tmod y.natAbs = x.tmod y := by
    rcases Int.natAbs_eq y with e | e
    · rw [← e]
    · rw [show (y.natAbs : Int) = -y by omega, Int.tmod_neg]
  rw [e] at h1 h2
  unfold i32 at *
  omega
theorem i64_tmod {x y : Int} (hx : i64 x) (hy : i64 y) (h0 : y ≠ 0) : i64 (x.tmod y) := by
  have h1 := Int.tmod_lt_of_pos (a := x) (b := y.natAbs) (by omega)
  have h2 := Int.lt_tmod_of_pos (a := x) (b := y.natAbs) (by omega)
  have e : x.tmod y.natAbs = x.tmod y := by
    rcases Int.natAbs_eq y with e | e
    · rw [← e]
    · rw [show (y.natAbs : Int) = -y by omega, Int.tmod_neg]
  rw [e] at h1 h2
  unfold i64 at *
  omega
/-- what a comparison of longs pushes -/
def lc (x y : Int) : Int := if y < x then 1 else if x = y then 0 else -1
theorem lc_lt (x y : Int) : lc x y < 0 ↔ x < y := by unfold lc; split <;> (try split) <;> omega
theorem lc_le (x y : Int) : lc x y ≤ 0 ↔ x ≤ y := by unfold lc; split <;> (try split) <;> omega
theorem lc_eq (x y : Int) : lc x y = 0 ↔ x = y := by unfold lc; split <;> (try split) <;> omega
theorem lc_gt (x y : Int) : 0 < lc x y ↔ y < x := by unfold lc; split <;> (try split) <;> omega
theorem lc_ge (x y : Int) : 0 ≤ lc x y ↔ y ≤ x := by unfold lc; split <;> (try split) <;> omega
theorem lc_i32 (x y : Int) : i32 (lc x y) := by unfold lc i32; split <;> (try split) <;> omega
theorem Xlc {x y : Int} (hx : i64 x) (hy : i64 y) : lg_cmp (Int64.ofInt x) (Int64.ofInt y) = Int32.ofInt (lc x y) := by
  unfold lg_cmp lc
  by_cases h : y < x
  · rw [if_pos h, if_pos (show Int64.ofInt x > Int64.ofInt y from (o64_lt hy hx).mpr h)]; rfl
  · rw [if_neg h, if_neg (fun q => h ((o64_lt hy hx).mp q))]
    by_cases h2 : x = y
    · rw [if_pos h2, if_pos ((o64_eq hx hy).mpr h2)]; rfl
    · rw [if_neg h2, if_neg (fun q => h2 ((o64_eq hx hy).mp q))]; rfl
def ian (x y : Int) : Int := (Int32.ofInt x &&& Int32.ofInt y).toInt
def ishx (x y : Int) : Int := (Int32.ofInt x >>> (Int32.ofInt y &&& 31)).toInt
def iushx (x y : Int) : Int := ((Int32.ofInt x).toUInt32 >>> ((Int32.ofInt y).toUInt32 &&& Int32.toUInt32 31)).toInt32.toInt
def ib8 (x : Int) : Int := (Int32.ofInt x).toInt8.toInt32.toInt
theorem i32_ti (x : Int32) : i32 x.toInt := ⟨by have := Int32.le_toInt x; simpa using this, by have := Int32.toInt_lt x; simp at this; omega⟩
