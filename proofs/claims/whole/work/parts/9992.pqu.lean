/-! A QUESTION'S TEXT, plainly: to a row of steps; the steps on a stack of 64 -/
abbrev QC : Type := List (Int × Int)
abbrev TC : Type := TS × QC
def pVr (tp : Nat → Int) (n : Nat) (t : TS) (k K : Int) : TC := (tN tp n (tP tp n t) 0 (K - 1) 100000000, [(k, tV tp n (tP tp n t) 0 (K - 1) 100000000)])
def pV (tp : Nat → Int) (n : Nat) (K : Int) (t : TS) : TC :=
  if iW tp n t (sby 35) = true then (tP tp n t, [(0, -1)])
  else if iW tp n t (sby 36) = true then (tP tp n t, [(0, -2)])
  else if iW tp n t (sby 37) = true then (tP tp n t, [(1, 0)])
  else if iW tp n t (sby 38) = true then (tP tp n t, [(2, 0)])
  else if iW tp n t (sby 39) = true then pVr tp n t 3 K
  else if iW tp n t (sby 40) = true then pVr tp n t 4 K
  else if iW tp n t (sby 41) = true then pVr tp n t 5 K
  else (tN tp n t 0 9999 100000000, [(0, tV tp n t 0 9999 100000000)])
def pOp (tp : Nat → Int) (n : Nat) (t : TS) : TS × Int := if iS tp n t 60 = true then (tP tp n t, 6) else if iS tp n t 62 = true then (tP tp n t, 8) else (tS tp n t 61, 7)
def pC (tp : Nat → Int) (n : Nat) (K : Int) (t : TS) : TC := ((pV tp n K (pOp tp n (pV tp n K t).1).1).1, (pV tp n K t).2 ++ ((pV tp n K (pOp tp n (pV tp n K t).1).1).2 ++ [((pOp tp n (pV tp n K t).1).2, 0)]))
def lpA (tp : Nat → Int) (n : Nat) (f : TS → TC) (l : List Int) (op : Int) : Nat → TC → TC
  | 0, s => s
  | g + 1, s => if iW tp n s.1 l = true then lpA tp n f l op g ((f (tP tp n s.1)).1, s.2 ++ ((f (tP tp n s.1)).2 ++ [(op, 0)])) else s
def pB (tp : Nat → Int) (n : Nat) (f : TS → TC) (t : TS) : TC := lpA tp n f (sby 42) 10 200 (f t)
def pT (tp : Nat → Int) (n : Nat) (f : TS → TC) (t : TS) : TC := lpA tp n (pB tp n f) (sby 43) 11 200 (pB tp n f t)
def pF (tp : Nat → Int) (n : Nat) (K : Int) : Nat → TS → TC
  | 0, t => if iW tp n t (sby 34) = true ∨ iS tp n t 123 = true then (tF t 3, []) else pC tp n K t
  | L + 1, t => if iW tp n t (sby 34) = true then ((pF tp n K L (tP tp n t)).1, (pF tp n K L (tP tp n t)).2 ++ [(9, 0)])
    else if iS tp n t 123 = true then (tS tp n (pT tp n (pF tp n K L) (tP tp n t)).1 125, (pT tp n (pF tp n K L) (tP tp n t)).2)
    else pC tp n K t
/-- which word begins it: the rest's place, what is asked -/
def pK (tp : Nat → Int) (n : Nat) (t : TS) : TS := if iW tp n t (sby 31) = true ∨ iW tp n t (sby 32) = true ∨ iW tp n t (sby 33) = true then tP tp n t else tF t 1
def pQ (tp : Nat → Int) (n : Nat) (K : Int) (t : TS) : TC := pT tp n (pF tp n K 6) (pK tp n t)
def pEnd (tp : Nat → Int) (n : Nat) (t : TS) : TS := if kd tp n t.1 = 0 then t else tF t 1
def askT (tp : Nat → Int) (n : Nat) (K : Int) : TC := (pEnd tp n (pQ tp n K (rn blk tp n 0, 0, -1)).1, (pQ tp n K (rn blk tp n 0, 0, -1)).2)
def askK (tp : Nat → Int) (n : Nat) : Int := if iW tp n (rn blk tp n 0, 0, -1) (sby 31) = true then 0 else if iW tp n (rn blk tp n 0, 0, -1) (sby 32) = true then 1 else 2
theorem lpA_s {tp : Nat → Int} {n : Nat} {f : TS → TC} {l : List Int} {op : Int} {g : Nat} {s : TC} : lpA tp n f l op (g + 1) s = if iW tp n s.1 l = true then lpA tp n f l op g ((f (tP tp n s.1)).1, s.2 ++ ((f (tP tp n s.1)).2 ++ [(op, 0)])) else s := rfl
theorem lpA_no {tp : Nat → Int} {n : Nat} {f : TS → TC} {l : List Int} {op : Int} {g : Nat} {s : TC} (h : ¬ iW tp n s.1 l = true) : lpA tp n f l op g s = s := by
  cases g with
  | zero => rfl
  | succ g => rw [lpA_s, if_neg h]
/-! the places stay in order -/
theorem Tk.O {tp : Nat → Int} {n : Nat} {t : TS} (h : Tk n t) : Tk n (pOp tp n t).1 := by
  unfold pOp
  by_cases e : iS tp n t 60 = true
  · rw [if_pos e]; exact h.P
  · rw [if_neg e]
    by_cases e2 : iS tp n t 62 = true
    · rw [if_pos e2]; exact h.P
    · rw [if_neg e2]; exact h.S
theorem Tk.V {tp : Nat → Int} {n : Nat} {K : Int} {t : TS} (h : Tk n t) : Tk n (pV tp n K t).1 := by
  unfold pV
  by_cases e1 : iW tp n t (sby 35) = true
  · rw [if_pos e1]; exact h.P
  rw [if_neg e1]
  by_cases e1 : iW tp n t (sby 36) = true
  · rw [if_pos e1]; exact h.P
  rw [if_neg e1]
  by_cases e1 : iW tp n t (sby 37) = true
  · rw [if_pos e1]; exact h.P
  rw [if_neg e1]
  by_cases e1 : iW tp n t (sby 38) = true
  · rw [if_pos e1]; exact h.P
  rw [if_neg e1]
  by_cases e1 : iW tp n t (sby 39) = true
  · rw [if_pos e1]; exact h.P.N
  rw [if_neg e1]
  by_cases e1 : iW tp n t (sby 40) = true
  · rw [if_pos e1]; exact h.P.N
  rw [if_neg e1]
  by_cases e1 : iW tp n t (sby 41) = true
  · rw [if_pos e1]; exact h.P.N
  rw [if_neg e1]
  exact h.N
theorem Tk.CC {tp : Nat → Int} {n : Nat} {K : Int} {t : TS} (h : Tk n t) : Tk n (pC tp n K t).1 := h.V.O.V
theorem lpA_k {tp : Nat → Int} {n : Nat} {f : TS → TC} {l : List Int} {op : Int} (hf : ∀ t, Tk n t → Tk n (f t).1) : ∀ g (s : TC), Tk n s.1 → Tk n (lpA tp n f l op g s).1 := by
  intro g
  induction g with
  | zero => exact fun s h => h
  | succ g ih =>
    intro s h
    rw [lpA_s]
    by_cases e : iW tp n s.1 l = true
    · rw [if_pos e]; exact ih _ (hf _ h.P)
    · rw [if_neg e]; exact h
theorem pB_k {tp : Nat → Int} {n : Nat} {f : TS → TC} (hf : ∀ t, Tk n t → Tk n (f t).1) {t : TS} (h : Tk n t) : Tk n (pB tp n f t).1 := lpA_k hf 200 _ (hf t h)
theorem pT_k {tp : Nat → Int} {n : Nat} {f : TS → TC} (hf : ∀ t, Tk n t → Tk n (f t).1) {t : TS} (h : Tk n t) : Tk n (pT tp n f t).1 := lpA_k (fun _ q => pB_k hf q) 200 _ (pB_k hf h)
theorem pF_k {tp : Nat → Int} {n : Nat} {K : Int} : ∀ L (t : TS), Tk n t → Tk n (pF tp n K L t).1 := by
  intro L
  induction L with
  | zero =>
    intro t h
    show Tk n (if iW tp n t (sby 34) = true ∨ iS tp n t 123 = true then (tF t 3, []) else pC tp n K t).1
    by_cases e : iW tp n t (sby 34) = true ∨ iS tp n t 123 = true
    · rw [if_pos e]; exact h.F ⟨by decide, by decide⟩
    · rw [if_neg e]; exact h.CC
  | succ L ih =>
    intro t h
    show Tk n (if iW tp n t (sby 34) = true then ((pF tp n K L (tP tp n t)).1, (pF tp n K L (tP tp n t)).2 ++ [(9, 0)]) else if iS tp n t 123 = true then (tS tp n (pT tp n (pF tp n K L) (tP tp n t)).1 125, (pT tp n (pF tp n K L) (tP tp n t)).2) else pC tp n K t).1
    by_cases e : iW tp n t (sby 34) = true
    · rw [if_pos e]; exact ih _ h.P
    · rw [if_neg e]
      by_cases e2 : iS tp n t 123 = true
      · rw [if_pos e2]; exact (pT_k ih h.P).S
      · rw [if_neg e2]; exact h.CC
theorem pK_k {tp : Nat → Int} {n : Nat} {t : TS} (h : Tk n t) : Tk n (pK tp n t) := by
  unfold pK
  by_cases e : iW tp n t (sby 31) = true ∨ iW tp n t (sby 32) = true ∨ iW tp n t (sby 33) = true
  · rw [if_pos e]; exact h.P
  · rw [if_neg e]; exact h.F ⟨by decide, by decide⟩
theorem pQ_k {tp : Nat → Int} {n : Nat} {K : Int} {t : TS} (h : Tk n t) : Tk n (pQ tp n K t).1 := pT_k (pF_k 6) (pK_k h)
theorem pEnd_k {tp : Nat → Int} {n : Nat} {t : TS} (h : Tk n t) : Tk n (pEnd tp n t) := by
  unfold pEnd
  by_cases e : kd tp n t.1 = 0
  · rw [if_pos e]; exact h
  · rw [if_neg e]; exact h.F ⟨by decide, by decide⟩
theorem askT_k {tp : Nat → Int} {n : Nat} {K : Int} : Tk n (askT tp n K).1 := pEnd_k (pQ_k Tk.o)
/-! a fault stays -/
theorem pV_no {tp : Nat → Int} {n : Nat} {K : Int} {t : TS} (h : t.2.1 ≠ 0) : (pV tp n K t).1 = t := by
  unfold pV
  simp only [iW_no h, tN_no h]
  rfl
theorem pOp_no {tp : Nat → Int} {n : Nat} {t : TS} (h : t.2.1 ≠ 0) : (pOp tp n t).1 = t := by
  unfold pOp
  rw [iS_no h, iS_no h, if_neg (by decide), if_neg (by decide)]
  exact tS_no h
theorem pC_no {tp : Nat → Int} {n : Nat} {K : Int} {t : TS} (h : t.2.1 ≠ 0) : (pC tp n K t).1 = t := by
  unfold pC
  dsimp only
  rw [pV_no h, pOp_no h, pV_no h]
theorem pF_no {tp : Nat → Int} {n : Nat} {K : Int} {t : TS} (h : t.2.1 ≠ 0) : ∀ L, (pF tp n K L t).1 = t := by
  intro L
  cases L with
  | zero =>
    show (if iW tp n t (sby 34) = true ∨ iS tp n t 123 = true then (tF t 3, []) else pC tp n K t).1 = t
    rw [iW_no h, iS_no h, if_neg (by decide)]
    exact pC_no h
  | succ L =>
    show (if iW tp n t (sby 34) = true then ((pF tp n K L (tP tp n t)).1, (pF tp n K L (tP tp n t)).2 ++ [(9, 0)]) else if iS tp n t 123 = true then (tS tp n (pT tp n (pF tp n K L) (tP tp n t)).1 125, (pT tp n (pF tp n K L) (tP tp n t)).2) else pC tp n K t).1 = t
    rw [iW_no h, iS_no h, if_neg (by decide), if_neg (by decide)]
    exact pC_no h
theorem pB_no {tp : Nat → Int} {n : Nat} {f : TS → TC} (hf : ∀ t : TS, t.2.1 ≠ 0 → (f t).1 = t) {t : TS} (h : t.2.1 ≠ 0) : (pB tp n f t).1 = t := by
  unfold pB
  have e := hf t h
  rw [lpA_no (by rw [e, iW_no h]; decide)]
  exact e
theorem pT_no {tp : Nat → Int} {n : Nat} {f : TS → TC} (hf : ∀ t : TS, t.2.1 ≠ 0 → (f t).1 = t) {t : TS} (h : t.2.1 ≠ 0) : (pT tp n f t).1 = t := by
  unfold pT
  have e := pB_no (tp := tp) (n := n) hf h
  rw [lpA_no (by rw [e, iW_no h]; decide)]
  exact e
/-! the steps -/
def psq (v : Int) (st : List Int) : List Int := if st.length < 64 then v :: st else st
def b10 (c : Prop) [Decidable c] : Int := if c then 1 else 0
def sov (op l r : Int) : Int := if op = 6 then b10 (l < r) else if op = 7 then b10 (l = r) else if op = 8 then b10 (r < l) else if op = 10 then b10 (l ≠ 0 ∧ r ≠ 0) else b10 (l ≠ 0 ∨ r ≠ 0)
/-- a value of ballot b: number, times; of a race -/
def bvl (R : Nat → Int) (b : Nat) (s g : Int) : Int := if s = 0 then g else if s = 1 then b else cnt (dw R (R 5)) (kN R) b
def rvl (R : Nat → Int) (b : Nat) (s g : Int) : Int := if s = 5 then rM R g.toNat b else if s = 3 then rV_ R g.toNat b else rP_ R g.toNat b
def stq (R : Nat → Int) (b : Nat) (x : Int × Int) (st : List Int) : List Int :=
  if x.1 ≤ 2 then psq (bvl R b x.1 x.2) st
  else if x.1 ≤ 5 then psq (rvl R b x.1 x.2) st
  else if x.1 = 9 then psq (wr (1 - st.headD 0)) st.tail
  else psq (sov x.1 (st.tail.headD 0) (st.headD 0)) st.tail.tail
def rnC (R : Nat → Int) (b : Nat) : QC → List Int → List Int
  | [], st => st
  | x :: c, st => rnC R b c (stq R b x st)
theorem rnC_app {R : Nat → Int} {b : Nat} : ∀ (c d : QC) (st : List Int), rnC R b (c ++ d) st = rnC R b d (rnC R b c st) := by
  intro c
  induction c with
  | nil => intro d st; rfl
  | cons x c ih => intro d st; exact ih d _
/-- the steps c leave v, within H of the stack -/
def gv (R : Nat → Int) (b : Nat) (c : QC) (v : Int) (H : Nat) : Prop := ∀ st : List Int, st.length + H ≤ 64 → rnC R b c st = v :: st
theorem gv.le {R : Nat → Int} {b : Nat} {c : QC} {v : Int} {H H' : Nat} (h : gv R b c v H) (hh : H ≤ H') : gv R b c v H' := fun st hs => h st (by omega)
theorem psq_in {v : Int} {st : List Int} (h : st.length < 64) : psq v st = v :: st := if_pos h
theorem gv.two {R : Nat → Int} {b : Nat} {c d : QC} {v w op : Int} {H : Nat} (h : gv R b c v H) (k : gv R b d w H) (h6 : 5 < op) (h9 : op ≠ 9) : gv R b (c ++ (d ++ [(op, 0)])) (sov op v w) (H + 1) := by
  intro st hs
  rw [rnC_app, h st (by omega), rnC_app, k (v :: st) (by rw [List.length_cons]; omega)]
  show rnC R b [] (stq R b (op, 0) (w :: v :: st)) = _
  unfold stq
  rw [if_neg (by show ¬ op ≤ 2; omega), if_neg (by show ¬ op ≤ 5; omega), if_neg h9]
  show psq (sov op v w) st = _
  by_cases z : H = 0
  · subst z
    exact psq_in (by omega)
  · exact psq_in (by omega)
theorem gv.not {R : Nat → Int} {b : Nat} {c : QC} {v : Int} {H : Nat} (h : gv R b c v H) (hH : 1 ≤ H) (hv : v = 0 ∨ v = 1) : gv R b (c ++ [(9, 0)]) (1 - v) H := by
  intro st hs
  rw [rnC_app, h st hs]
  show psq (wr (1 - v)) st = _
  rw [wr_of (by omega) (by omega)]
  exact psq_in (by omega)
