/-- throws: which exception, the entries of its class, its text, its constructor -/
abbrev am_up : List String := ["java/lang/RuntimeException", "java/lang/Exception"]
theorem am_castW {E : String} {args a' : Array Value} {s U : State} (hal : s.vm.Alike U.vm) (h : (Cond.castable E E).before args s = true) : (Cond.castable E E).before a' U = true := by
  simp only [Cond.before, Cond.holds, Cond.value, hal.findClass, hal.assignable] at h ⊢
  exact h
theorem am_declW {x : MethodName} {args a' : Array Value} {s U : State} (hal : s.vm.Alike U.vm) (h : (Cond.declares x).before args s = true) : (Cond.declares x).before a' U = true := by
  have h1 : (Cond.declares x).before args (s.setVm U.vm) = true := by
    rw [Cond.declares_setVm hal]
    exact h
  have e := Cond.onTables_vm (A := args) (A' := a') (U := s) (U' := U) U.vm (Cond.declares x) rfl
  have hU : U.setVm U.vm = U := rfl
  rw [hU] at e
  rw [← e]
  exact h1
def am_kx (k : Nat) : Nat := if k = 0 then 7 else 13
def am_kr (k : Nat) : ByteArray := if k = 0 then ⟨#[0x2a, 0x2b, 0xb7, 0x00, 0x07, 0xb1]⟩ else ⟨#[0x2a, 0x2b, 0xb7, 0x00, 0x0d, 0xb1]⟩
def am_kc (k : Nat) : Nat := if k = 0 then 79 else 141
def am_ki (k : Nat) : Nat := if k = 0 then 83 else 145
abbrev am_at9 (k : Nat) : List Cond := am_atX RX8 (am_ki k) (am_en k) (am_kx k) (am_kr k) am_up
theorem am_kd : ∀ k, k < 2 → decode (am_kr k) 0 = .ok (.aload_n 0, 1) ∧ decode (am_kr k) 1 = .ok (.aload_n 1, 1) ∧ decode (am_kr k) 2 = .ok (.invokespecial (am_kx k), 3) ∧ decode (am_kr k) 5 = .ok (.return_, 1) := by decide +kernel
def am_tB (E : String) : List Cond := [.castable E E, .declares (Bundle.initS "java/lang/RuntimeException"), .declares (Bundle.initS "java/lang/Exception"), .declares (Bundle.initS "java/lang/Throwable")]
theorem am_tgg0 : ∀ w ∈ am_at9 0, goodWord w = true ∨ w ∈ am_tB (am_en 0) := by decide +kernel
theorem am_tgg1 : ∀ w ∈ am_at9 1, goodWord w = true ∨ w ∈ am_tB (am_en 1) := by decide +kernel
theorem am_th0 : ∀ w ∈ am_at9 0, w ∈ lw_tbl := by decide +kernel
theorem am_th1 : ∀ w ∈ am_at9 1, w ∈ lw_tbl := by decide +kernel
theorem am_tBm {G : am_G} {s : State} {k : Nat} {args : Array Value} (hG : am_ok G) (hW : G.2.1.WarmedH s.vm) {E : String} {w : Cond} (hw : w ∈ am_tB E) (ht : w ∈ lw_tbl) : w.before args s = true := by
  have h0 := hG.1 w ht
  unfold am_tB at hw
  simp only [List.mem_cons, List.not_mem_nil, or_false] at hw
  rcases hw with rfl | rfl | rfl | rfl
  · exact am_castW hW.alike h0
  · exact am_declW hW.alike h0
  · exact am_declW hW.alike h0
  · exact am_declW hW.alike h0
theorem am_tk : ∀ k, k < 2 → Cond.classLink RX8 (am_kc k) (am_en k) ∈ lw_tbl ∧ Cond.initialized (am_en k) ∈ lw_tbl := by decide +kernel
theorem am_tb : ∀ k, k < 2 → Bundle.fit (am_en k) = true ∧ ∀ w ∈ Cond.classLink RX8 (am_kc k) (am_en k) :: Cond.initialized (am_en k) :: am_at9 k, vx_ot w = true := by decide +kernel
theorem am_tu : ∀ n ∈ am_up, Bundle.fit n = true := by decide +kernel
