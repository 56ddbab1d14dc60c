/-! TOKENS: the text as a row of tokens; a place is where a token begins -/
def blk (c : Int) : Bool := decide (c = 32 ∨ c = 10)
def sml (c : Int) : Bool := decide (97 ≤ c ∧ c ≤ 122)
def fig (c : Int) : Bool := decide (48 ≤ c ∧ c ≤ 57)
theorem blk_t {c : Int} : blk c = true ↔ c = 32 ∨ c = 10 := decide_eq_true_iff
theorem sml_t {c : Int} : sml c = true ↔ 97 ≤ c ∧ c ≤ 122 := decide_eq_true_iff
theorem fig_t {c : Int} : fig c = true ↔ 48 ≤ c ∧ c ≤ 57 := decide_eq_true_iff
def rnF (q : Int → Bool) (tp : Nat → Int) : Nat → Nat → Nat
  | 0, p => p
  | g + 1, p => if q (tp p) = true then rnF q tp g (p + 1) else p
/-- where a run of q's ends -/
def rn (q : Int → Bool) (tp : Nat → Int) (n p : Nat) : Nat := rnF q tp (n - p) p
theorem rn_go {q : Int → Bool} {tp : Nat → Int} {n p : Nat} (h : p < n) (e : q (tp p) = true) : rn q tp n p = rn q tp n (p + 1) := by
  unfold rn
  rw [show n - p = (n - (p + 1)) + 1 by omega]
  exact if_pos e
theorem rn_no {q : Int → Bool} {tp : Nat → Int} {n p : Nat} (e : ¬ q (tp p) = true) : rn q tp n p = p := by
  unfold rn
  cases h : n - p with
  | zero => rfl
  | succ g => exact if_neg e
theorem rn_end {q : Int → Bool} {tp : Nat → Int} {n p : Nat} (h : n ≤ p) : rn q tp n p = p := by
  unfold rn
  rw [show n - p = 0 by omega]
  rfl
theorem rnF_b {q : Int → Bool} {tp : Nat → Int} : ∀ g p, p ≤ rnF q tp g p ∧ rnF q tp g p ≤ p + g := by
  intro g
  induction g with
  | zero => intro p; exact ⟨Nat.le_refl _, Nat.le_refl _⟩
  | succ g ih =>
    intro p
    by_cases e : q (tp p) = true
    · rw [show rnF q tp (g + 1) p = rnF q tp g (p + 1) from if_pos e]
      have := ih (p + 1)
      omega
    · rw [show rnF q tp (g + 1) p = p from if_neg e]
      omega
theorem rn_b {q : Int → Bool} {tp : Nat → Int} {n p : Nat} (h : p ≤ n) : p ≤ rn q tp n p ∧ rn q tp n p ≤ n := by
  have := rnF_b (q := q) (tp := tp) (n - p) p
  unfold rn
  omega
/-- kind, end and number of the token at b -/
def kd (tp : Nat → Int) (n b : Nat) : Int := if n ≤ b then 0 else if sml (tp b) = true then 1 else if fig (tp b) = true then 2 else 3
def en (tp : Nat → Int) (n b : Nat) : Nat := if n ≤ b then b else if sml (tp b) = true then rn sml tp n b else if fig (tp b) = true then rn fig tp n b else b + 1
def vl (tp : Nat → Int) (b : Nat) : Nat → Int
  | 0 => 0
  | k + 1 => vl tp b k * 10 + tp (b + k) - 48
def nv (tp : Nat → Int) (n b : Nat) : Int := vl tp b (en tp n b - b)
/-- where the next token begins -/
def nxt (tp : Nat → Int) (n b : Nat) : Nat := rn blk tp n (en tp n b)
theorem en_b {tp : Nat → Int} {n b : Nat} (h : b ≤ n) : b ≤ en tp n b ∧ en tp n b ≤ n := by
  unfold en
  by_cases h1 : n ≤ b
  · rw [if_pos h1]; omega
  · rw [if_neg h1]
    by_cases h2 : sml (tp b) = true
    · rw [if_pos h2]; exact rn_b h
    · rw [if_neg h2]
      by_cases h3 : fig (tp b) = true
      · rw [if_pos h3]; exact rn_b h
      · rw [if_neg h3]; omega
theorem en_lt {tp : Nat → Int} {n b : Nat} (h : b < n) : b < en tp n b := by
  unfold en
  rw [if_neg (by omega)]
  by_cases h2 : sml (tp b) = true
  · rw [if_pos h2, rn_go h h2]; exact (rn_b (by omega)).1
  · rw [if_neg h2]
    by_cases h3 : fig (tp b) = true
    · rw [if_pos h3, rn_go h h3]; exact (rn_b (by omega)).1
    · rw [if_neg h3]; omega
theorem nxt_b {tp : Nat → Int} {n b : Nat} (h : b ≤ n) : b ≤ nxt tp n b ∧ nxt tp n b ≤ n := by
  have := en_b (tp := tp) h
  have := rn_b (q := blk) (tp := tp) this.2
  unfold nxt
  omega
theorem nxt_lt {tp : Nat → Int} {n b : Nat} (h : b < n) : b < nxt tp n b := by
  have h1 := en_lt (tp := tp) h
  have h2 := en_b (tp := tp) (Nat.le_of_lt h)
  have := rn_b (q := blk) (tp := tp) h2.2
  unfold nxt
  omega
theorem kd_0 {tp : Nat → Int} {n b : Nat} : kd tp n b = 0 ↔ n ≤ b := by
  unfold kd
  by_cases h1 : n ≤ b
  · rw [if_pos h1]; exact ⟨fun _ => h1, fun _ => rfl⟩
  · rw [if_neg h1]
    refine ⟨fun z => absurd z ?_, fun z => absurd z h1⟩
    by_cases h2 : sml (tp b) = true
    · rw [if_pos h2]; decide
    · rw [if_neg h2]
      by_cases h3 : fig (tp b) = true
      · rw [if_pos h3]; decide
      · rw [if_neg h3]; decide
theorem kd_in {tp : Nat → Int} {n b : Nat} (h : kd tp n b ≠ 0) : b < n := Nat.lt_of_not_le fun z => h (kd_0.mpr z)
theorem kd_v {tp : Nat → Int} {n b : Nat} : kd tp n b = 0 ∨ kd tp n b = 1 ∨ kd tp n b = 2 ∨ kd tp n b = 3 := by
  unfold kd
  by_cases h1 : n ≤ b
  · rw [if_pos h1]; omega
  · rw [if_neg h1]
    by_cases h2 : sml (tp b) = true
    · rw [if_pos h2]; omega
    · rw [if_neg h2]
      by_cases h3 : fig (tp b) = true
      · rw [if_pos h3]; omega
      · rw [if_neg h3]; omega
theorem kd_t1 {tp : Nat → Int} {n b : Nat} (h : b < n) (e : sml (tp b) = true) : kd tp n b = 1 ∧ en tp n b = rn sml tp n b := by
  unfold kd en
  rw [if_neg (by omega), if_pos e, if_neg (by omega), if_pos e]
  exact ⟨rfl, rfl⟩
theorem kd_t2 {tp : Nat → Int} {n b : Nat} (h : b < n) (e : ¬ sml (tp b) = true) (e2 : fig (tp b) = true) : kd tp n b = 2 ∧ en tp n b = rn fig tp n b := by
  unfold kd en
  rw [if_neg (by omega), if_neg e, if_pos e2, if_neg (by omega), if_neg e, if_pos e2]
  exact ⟨rfl, rfl⟩
theorem kd_t3 {tp : Nat → Int} {n b : Nat} (h : b < n) (e : ¬ sml (tp b) = true) (e2 : ¬ fig (tp b) = true) : kd tp n b = 3 ∧ en tp n b = b + 1 := by
  unfold kd en
  rw [if_neg (by omega), if_neg e, if_neg e2, if_neg (by omega), if_neg e, if_neg e2]
  exact ⟨rfl, rfl⟩
theorem kd_t0 {tp : Nat → Int} {n b : Nat} (h : n ≤ b) : kd tp n b = 0 ∧ en tp n b = b := by
  unfold kd en
  rw [if_pos h, if_pos h]
  exact ⟨rfl, rfl⟩
/-- digits all along a number -/
theorem rn_all {q : Int → Bool} {tp : Nat → Int} {n : Nat} : ∀ (t p : Nat), n - p = t → ∀ k, p ≤ k → k < rn q tp n p → k < n ∧ q (tp k) = true := by
  intro t
  induction t with
  | zero => intro p ht k h1 h2; rw [rn_end (by omega)] at h2; omega
  | succ t ih =>
    intro p ht k h1 h2
    by_cases e : q (tp p) = true
    · by_cases z : k = p
      · subst z; exact ⟨by omega, e⟩
      · rw [rn_go (by omega) e] at h2
        exact ih (p + 1) (by omega) k (by omega) h2
    · rw [rn_no e] at h2; omega
theorem vl_nn {tp : Nat → Int} {b : Nat} : ∀ k, (∀ j, j < k → fig (tp (b + j)) = true) → 0 ≤ vl tp b k := by
  intro k
  induction k with
  | zero => intro _; exact Int.le_refl _
  | succ k ih =>
    intro h
    have h1 := ih fun j hj => h j (by omega)
    have h2 := fig_t.mp (h k (by omega))
    have e : vl tp b (k + 1) = vl tp b k * 10 + tp (b + k) - 48 := rfl
    omega
theorem nv_nn {tp : Nat → Int} {n b : Nat} (h : kd tp n b = 2) : 0 ≤ nv tp n b := by
  have hb := kd_in (tp := tp) (n := n) (b := b) (by omega)
  have h2 : ¬ sml (tp b) = true := fun z => by rw [(kd_t1 hb z).1] at h; exact absurd h (by decide)
  have h3 : fig (tp b) = true := Decidable.byContradiction fun z => by rw [(kd_t3 hb h2 z).1] at h; exact absurd h (by decide)
  unfold nv
  refine vl_nn _ fun j hj => ?_
  rw [(kd_t2 hb h2 h3).2] at hj
  exact (rn_all (n := n) _ b rfl (b + j) (by omega) (by omega)).2
/-! where a text stands: the token's begin, the fault, its place -/
abbrev TS : Type := Nat × Int × Int
def tP (tp : Nat → Int) (n : Nat) (t : TS) : TS := if t.2.1 = 0 then (nxt tp n t.1, t.2) else t
def tF (t : TS) (k : Int) : TS := if t.2.1 = 0 then (t.1, k, (t.1 : Int)) else t
def iW (tp : Nat → Int) (n : Nat) (t : TS) (l : List Int) : Bool := decide (t.2.1 = 0 ∧ kd tp n t.1 = 1 ∧ en tp n t.1 - t.1 = l.length ∧ ∀ k, k < l.length → tp (t.1 + k) = l.getD k 0)
def iS (tp : Nat → Int) (n : Nat) (t : TS) (c : Int) : Bool := decide (t.2.1 = 0 ∧ kd tp n t.1 = 3 ∧ tp t.1 = c)
def iN (tp : Nat → Int) (n : Nat) (t : TS) : Bool := decide (t.2.1 = 0 ∧ kd tp n t.1 = 2)
def b01 (c : Bool) : Int := if c = true then 1 else 0
def kP (tp : Nat → Int) (n : Nat) (t : TS) (c : Bool) : TS := if c = true then tP tp n t else t
def tS (tp : Nat → Int) (n : Nat) (t : TS) (c : Int) : TS := if iS tp n t c = true then tP tp n t else tF t 1
def tN (tp : Nat → Int) (n : Nat) (t : TS) (lo hi room : Int) : TS := if iN tp n t = true then (if nv tp n t.1 < lo ∨ hi < nv tp n t.1 then tF t 2 else if room < nv tp n t.1 then tF t 3 else tP tp n t) else tF t 1
def tV (tp : Nat → Int) (n : Nat) (t : TS) (lo hi room : Int) : Int := if iN tp n t = true ∧ lo ≤ nv tp n t.1 ∧ nv tp n t.1 ≤ hi ∧ nv tp n t.1 ≤ room then nv tp n t.1 else lo
def Tk (n : Nat) (t : TS) : Prop := t.1 ≤ n ∧ (t.2.1 = 0 → t.2.2 = -1) ∧ 0 ≤ t.2.1 ∧ t.2.1 ≤ 3
theorem Tk.P {tp : Nat → Int} {n : Nat} {t : TS} (h : Tk n t) : Tk n (tP tp n t) := by
  unfold tP
  by_cases e : t.2.1 = 0
  · rw [if_pos e]
    exact ⟨(nxt_b h.1).2, h.2⟩
  · rw [if_neg e]; exact h
theorem Tk.F {n : Nat} {t : TS} {k : Int} (h : Tk n t) (hk : 1 ≤ k ∧ k ≤ 3) : Tk n (tF t k) := by
  unfold tF
  by_cases e : t.2.1 = 0
  · rw [if_pos e]
    exact ⟨h.1, fun z => absurd z (by dsimp only; omega), by dsimp only; omega, hk.2⟩
  · rw [if_neg e]; exact h
theorem Tk.K {tp : Nat → Int} {n : Nat} {t : TS} {c : Bool} (h : Tk n t) : Tk n (kP tp n t c) := by
  unfold kP
  by_cases e : c = true
  · rw [if_pos e]; exact h.P
  · rw [if_neg e]; exact h
theorem Tk.S {tp : Nat → Int} {n : Nat} {t : TS} {c : Int} (h : Tk n t) : Tk n (tS tp n t c) := by
  unfold tS
  by_cases e : iS tp n t c = true
  · rw [if_pos e]; exact h.P
  · rw [if_neg e]; exact h.F ⟨by decide, by decide⟩
theorem Tk.N {tp : Nat → Int} {n : Nat} {t : TS} {lo hi room : Int} (h : Tk n t) : Tk n (tN tp n t lo hi room) := by
  unfold tN
  by_cases e : iN tp n t = true
  · rw [if_pos e]
    by_cases e2 : nv tp n t.1 < lo ∨ hi < nv tp n t.1
    · rw [if_pos e2]; exact h.F ⟨by decide, by decide⟩
    · rw [if_neg e2]
      by_cases e3 : room < nv tp n t.1
      · rw [if_pos e3]; exact h.F ⟨by decide, by decide⟩
      · rw [if_neg e3]; exact h.P
  · rw [if_neg e]; exact h.F ⟨by decide, by decide⟩
/-- behind a fault all stands still -/
theorem tP_no {tp : Nat → Int} {n : Nat} {t : TS} (h : t.2.1 ≠ 0) : tP tp n t = t := if_neg h
theorem tF_no {t : TS} {k : Int} (h : t.2.1 ≠ 0) : tF t k = t := if_neg h
theorem iW_no {tp : Nat → Int} {n : Nat} {t : TS} {l : List Int} (h : t.2.1 ≠ 0) : iW tp n t l = false := decide_eq_false fun z => h z.1
theorem iS_no {tp : Nat → Int} {n : Nat} {t : TS} {c : Int} (h : t.2.1 ≠ 0) : iS tp n t c = false := decide_eq_false fun z => h z.1
theorem iN_no {tp : Nat → Int} {n : Nat} {t : TS} (h : t.2.1 ≠ 0) : iN tp n t = false := decide_eq_false fun z => h z.1
theorem kP_no {tp : Nat → Int} {n : Nat} {t : TS} {c : Bool} (h : t.2.1 ≠ 0) : kP tp n t c = t := by
  unfold kP
  rw [tP_no h]
  exact ite_self _
theorem tS_no {tp : Nat → Int} {n : Nat} {t : TS} {c : Int} (h : t.2.1 ≠ 0) : tS tp n t c = t := by
  unfold tS
  rw [tP_no h, tF_no h]
  exact ite_self _
theorem tN_no {tp : Nat → Int} {n : Nat} {t : TS} {lo hi room : Int} (h : t.2.1 ≠ 0) : tN tp n t lo hi room = t := by
  unfold tN
  rw [iN_no h, if_neg (by decide), tF_no h]
theorem tF_w {t : TS} {k : Int} (hk : k ≠ 0) : (tF t k).2.1 ≠ 0 := by
  unfold tF
  by_cases e : t.2.1 = 0
  · rw [if_pos e]; exact hk
  · rw [if_neg e]; exact e
theorem tP_w {tp : Nat → Int} {n : Nat} {t : TS} : (tP tp n t).2 = t.2 := by
  unfold tP
  by_cases e : t.2.1 = 0
  · rw [if_pos e]
  · rw [if_neg e]
theorem tV_in {tp : Nat → Int} {n : Nat} {t : TS} {lo hi room : Int} (h : lo ≤ hi) : lo ≤ tV tp n t lo hi room ∧ tV tp n t lo hi room ≤ hi := by
  unfold tV
  by_cases e : iN tp n t = true ∧ lo ≤ nv tp n t.1 ∧ nv tp n t.1 ≤ hi ∧ nv tp n t.1 ≤ room
  · rw [if_pos e]; exact ⟨e.2.1, e.2.2.1⟩
  · rw [if_neg e]; exact ⟨Int.le_refl _, h⟩
theorem tN_v {tp : Nat → Int} {n : Nat} {t : TS} {lo hi room : Int} (h : (tN tp n t lo hi room).2.1 = 0) : t.2.1 = 0 ∧ kd tp n t.1 = 2 ∧ lo ≤ nv tp n t.1 ∧ nv tp n t.1 ≤ hi ∧ nv tp n t.1 ≤ room ∧ tV tp n t lo hi room = nv tp n t.1 ∧ tN tp n t lo hi room = tP tp n t := by
  have h0 := h
  unfold tN at h
  by_cases e : iN tp n t = true
  · rw [if_pos e] at h
    by_cases e2 : nv tp n t.1 < lo ∨ hi < nv tp n t.1
    · rw [if_pos e2] at h; exact absurd h (tF_w (by decide))
    · rw [if_neg e2] at h
      by_cases e3 : room < nv tp n t.1
      · rw [if_pos e3] at h; exact absurd h (tF_w (by decide))
      · have e4 := of_decide_eq_true e
        refine ⟨e4.1, e4.2, by omega, by omega, by omega, if_pos ⟨e, by omega, by omega, by omega⟩, ?_⟩
        unfold tN
        rw [if_pos e, if_neg e2, if_neg e3]
  · rw [if_neg e] at h; exact absurd h (tF_w (by decide))
theorem tS_v {tp : Nat → Int} {n : Nat} {t : TS} {c : Int} (h : (tS tp n t c).2.1 = 0) : t.2.1 = 0 ∧ kd tp n t.1 = 3 ∧ tp t.1 = c ∧ tS tp n t c = tP tp n t := by
  unfold tS at h ⊢
  by_cases e : iS tp n t c = true
  · rw [if_pos e] at h ⊢
    have e4 := of_decide_eq_true e
    exact ⟨e4.1, e4.2.1, e4.2.2, rfl⟩
  · rw [if_neg e] at h; exact absurd h (tF_w (by decide))
