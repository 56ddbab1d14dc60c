/-! A QUESTION that was read: its steps are few and sound -/
def VC (K : Int) (c : QC) : Prop := ∀ x, x ∈ c → 0 ≤ x.1 ∧ (3 ≤ x.1 → x.1 ≤ 5 → 0 ≤ x.2 ∧ x.2 < K)
theorem VC.app {K : Int} {c d : QC} (h : VC K c) (k : VC K d) : VC K (c ++ d) := fun x hx => (List.mem_append.mp hx).elim (h x) (k x)
theorem VC.one {K a b : Int} (h0 : 0 ≤ a) (h : 3 ≤ a → a ≤ 5 → 0 ≤ b ∧ b < K) : VC K [(a, b)] := fun x hx => by rw [List.mem_singleton.mp hx]; exact ⟨h0, h⟩
theorem VC.nil {K : Int} : VC K [] := fun x hx => absurd hx List.not_mem_nil
def GdF (n : Nat) (K : Int) (f : TS → TC) : Prop := ∀ t : TS, Tk n t → (f t).1.2.1 = 0 → t.2.1 = 0 ∧ t.1 + (f t).2.length ≤ (f t).1.1 ∧ VC K (f t).2
theorem iW_adv {tp : Nat → Int} {n : Nat} {t : TS} {l : List Int} (h : iW tp n t l = true) : t.2.1 = 0 ∧ t.1 + 1 ≤ (tP tp n t).1 ∧ (tP tp n t).2.1 = 0 := by
  have q := of_decide_eq_true h
  have := nxt_lt (tp := tp) (kd_in (tp := tp) (n := n) (b := t.1) (by omega))
  unfold tP
  rw [if_pos q.1]
  exact ⟨q.1, this, q.1⟩
theorem iS_adv {tp : Nat → Int} {n : Nat} {t : TS} {c : Int} (h : iS tp n t c = true) : t.2.1 = 0 ∧ t.1 + 1 ≤ (tP tp n t).1 ∧ (tP tp n t).2.1 = 0 := by
  have q := of_decide_eq_true h
  have := nxt_lt (tp := tp) (kd_in (tp := tp) (n := n) (b := t.1) (by omega))
  unfold tP
  rw [if_pos q.1]
  exact ⟨q.1, this, q.1⟩
theorem tN_adv {tp : Nat → Int} {n : Nat} {t : TS} {lo hi room : Int} (h : (tN tp n t lo hi room).2.1 = 0) : t.2.1 = 0 ∧ t.1 + 1 ≤ (tN tp n t lo hi room).1 ∧ lo ≤ tV tp n t lo hi room ∧ tV tp n t lo hi room ≤ hi := by
  have q := tN_v h
  have := nxt_lt (tp := tp) (kd_in (tp := tp) (n := n) (b := t.1) (by omega))
  rw [q.2.2.2.2.2.2, q.2.2.2.2.2.1]
  unfold tP
  rw [if_pos q.1]
  exact ⟨q.1, this, q.2.2.1, q.2.2.2.1⟩
theorem tS_adv {tp : Nat → Int} {n : Nat} {t : TS} {c : Int} (h : (tS tp n t c).2.1 = 0) : t.2.1 = 0 ∧ t.1 + 1 ≤ (tS tp n t c).1 := by
  have q := tS_v h
  have := nxt_lt (tp := tp) (kd_in (tp := tp) (n := n) (b := t.1) (by omega))
  rw [q.2.2.2]
  unfold tP
  rw [if_pos q.1]
  exact ⟨q.1, this⟩
theorem pVr_gd {tp : Nat → Int} {n : Nat} {K k : Int} {t : TS} {l : List Int} (h0 : 0 ≤ k) (e : iW tp n t l = true) (h : (pVr tp n t k K).1.2.1 = 0) : t.2.1 = 0 ∧ t.1 + (pVr tp n t k K).2.length ≤ (pVr tp n t k K).1.1 ∧ VC K (pVr tp n t k K).2 := by
  have a := iW_adv e
  have b : _ := tN_adv (tp := tp) (n := n) (t := tP tp n t) (lo := 0) (hi := K - 1) (room := 100000000) h
  refine ⟨a.1, ?_, VC.one h0 fun _ _ => ⟨b.2.2.1, by omega⟩⟩
  show t.1 + 1 ≤ (tN tp n (tP tp n t) 0 (K - 1) 100000000).1
  omega
theorem pV_gd {tp : Nat → Int} {n : Nat} {K : Int} : GdF n K (pV tp n K) := by
  intro t ht h
  have one : ∀ {l : List Int} {a b : Int}, iW tp n t l = true → 0 ≤ a → (3 ≤ a → False) → t.2.1 = 0 ∧ t.1 + ([(a, b)] : QC).length ≤ (tP tp n t).1 ∧ VC K [(a, b)] := fun e h0 h3 => ⟨(iW_adv e).1, (iW_adv e).2.1, VC.one h0 fun q => absurd q h3⟩
  unfold pV at h ⊢
  by_cases e1 : iW tp n t (sby 35) = true
  · rw [if_pos e1] at h ⊢; exact one e1 (by decide) (by decide)
  rw [if_neg e1] at h ⊢
  by_cases e1 : iW tp n t (sby 36) = true
  · rw [if_pos e1] at h ⊢; exact one e1 (by decide) (by decide)
  rw [if_neg e1] at h ⊢
  by_cases e1 : iW tp n t (sby 37) = true
  · rw [if_pos e1] at h ⊢; exact one e1 (by decide) (by decide)
  rw [if_neg e1] at h ⊢
  by_cases e1 : iW tp n t (sby 38) = true
  · rw [if_pos e1] at h ⊢; exact one e1 (by decide) (by decide)
  rw [if_neg e1] at h ⊢
  by_cases e1 : iW tp n t (sby 39) = true
  · rw [if_pos e1] at h ⊢; exact pVr_gd (by decide) e1 h
  rw [if_neg e1] at h ⊢
  by_cases e1 : iW tp n t (sby 40) = true
  · rw [if_pos e1] at h ⊢; exact pVr_gd (by decide) e1 h
  rw [if_neg e1] at h ⊢
  by_cases e1 : iW tp n t (sby 41) = true
  · rw [if_pos e1] at h ⊢; exact pVr_gd (by decide) e1 h
  rw [if_neg e1] at h ⊢
  have b := tN_adv (tp := tp) (n := n) (t := t) (lo := 0) (hi := 9999) (room := 100000000) h
  exact ⟨b.1, b.2.1, VC.one (by decide) fun q => absurd q (by decide)⟩
theorem pOp_adv {tp : Nat → Int} {n : Nat} {t : TS} (h : (pOp tp n t).1.2.1 = 0) : t.2.1 = 0 ∧ t.1 + 1 ≤ (pOp tp n t).1.1 ∧ 6 ≤ (pOp tp n t).2 ∧ (pOp tp n t).2 ≤ 8 := by
  unfold pOp at h ⊢
  by_cases e : iS tp n t 60 = true
  · rw [if_pos e] at h ⊢; exact ⟨(iS_adv e).1, (iS_adv e).2.1, by dsimp only; omega, by dsimp only; omega⟩
  rw [if_neg e] at h ⊢
  by_cases e : iS tp n t 62 = true
  · rw [if_pos e] at h ⊢; exact ⟨(iS_adv e).1, (iS_adv e).2.1, by dsimp only; omega, by dsimp only; omega⟩
  rw [if_neg e] at h ⊢
  exact ⟨(tS_adv h).1, (tS_adv h).2, by dsimp only; omega, by dsimp only; omega⟩
theorem pC_gd {tp : Nat → Int} {n : Nat} {K : Int} : GdF n K (pC tp n K) := by
  intro t ht h
  have t1 : Tk n (pV tp n K t).1 := ht.V
  have h3 := pV_gd (tp := tp) (n := n) (K := K) (pOp tp n (pV tp n K t).1).1 t1.O h
  have h2 := pOp_adv h3.1
  have h1 := pV_gd (tp := tp) (n := n) (K := K) t ht h2.1
  unfold pC
  dsimp only
  refine ⟨h1.1, ?_, h1.2.2.app (h3.2.2.app (VC.one (by omega) fun _ q => absurd q (by omega)))⟩
  rw [List.length_append, List.length_append, List.length_singleton]
  omega
theorem lpA_gd {tp : Nat → Int} {n : Nat} {K op : Int} {f : TS → TC} {l : List Int} (hop : 6 ≤ op) (hf : GdF n K f) (hk : ∀ t, Tk n t → Tk n (f t).1) : ∀ (g : Nat) (s : TC) (b0 : Nat), Tk n s.1 → (lpA tp n f l op g s).1.2.1 = 0 → (s.1.2.1 = 0 → b0 + s.2.length ≤ s.1.1 ∧ VC K s.2) → s.1.2.1 = 0 ∧ b0 + (lpA tp n f l op g s).2.length ≤ (lpA tp n f l op g s).1.1 ∧ VC K (lpA tp n f l op g s).2 := by
  intro g
  induction g with
  | zero => intro s b0 ht h h0; exact ⟨h, h0 h⟩
  | succ g ih =>
    intro s b0 ht h h0
    rw [lpA_s] at h ⊢
    by_cases e : iW tp n s.1 l = true
    · rw [if_pos e] at h ⊢
      have a := iW_adv e
      have q := ih ((f (tP tp n s.1)).1, s.2 ++ ((f (tP tp n s.1)).2 ++ [(op, 0)])) b0 (hk _ ht.P) h (fun w => by
        have q1 := hf (tP tp n s.1) ht.P w
        have q0 := h0 a.1
        refine ⟨?_, q0.2.app (q1.2.2.app (VC.one (by omega) fun _ q => absurd q (by omega)))⟩
        dsimp only
        rw [List.length_append, List.length_append, List.length_singleton]
        omega)
      exact ⟨a.1, q.2⟩
    · rw [if_neg e] at h ⊢
      exact ⟨h, h0 h⟩
theorem pB_gd {tp : Nat → Int} {n : Nat} {K : Int} {f : TS → TC} (hf : GdF n K f) (hk : ∀ t, Tk n t → Tk n (f t).1) : GdF n K (pB tp n f) := by
  intro t ht h
  have q := lpA_gd (K := K) (by decide) hf hk 200 (f t) t.1 (hk t ht) h (fun w => (hf t ht w).2)
  exact ⟨(hf t ht q.1).1, q.2⟩
theorem pT_gd {tp : Nat → Int} {n : Nat} {K : Int} {f : TS → TC} (hf : GdF n K f) (hk : ∀ t, Tk n t → Tk n (f t).1) : GdF n K (pT tp n f) := by
  intro t ht h
  have hg := pB_gd (tp := tp) hf hk
  have q := lpA_gd (K := K) (by decide) hg (fun t q => pB_k hk q) 200 (pB tp n f t) t.1 (pB_k hk ht) h (fun w => (hg t ht w).2)
  exact ⟨(hg t ht q.1).1, q.2⟩
theorem pF_gd {tp : Nat → Int} {n : Nat} {K : Int} : ∀ L, GdF n K (pF tp n K L) := by
  intro L
  induction L with
  | zero =>
    intro t ht h
    rw [pF_0] at h ⊢
    by_cases e : iW tp n t (sby 34) = true ∨ iS tp n t 123 = true
    · rw [if_pos e] at h; exact absurd h (tF_w (by decide))
    · rw [if_neg e] at h ⊢; exact pC_gd t ht h
  | succ L ih =>
    intro t ht h
    rw [pF_s] at h ⊢
    by_cases e : iW tp n t (sby 34) = true
    · rw [if_pos e] at h ⊢
      have a := iW_adv e
      have q := ih (tP tp n t) ht.P h
      refine ⟨a.1, ?_, q.2.2.app (VC.one (by decide) fun _ z => absurd z (by decide))⟩
      dsimp only
      rw [List.length_append, List.length_singleton]
      omega
    · rw [if_neg e] at h ⊢
      by_cases e2 : iS tp n t 123 = true
      · rw [if_pos e2] at h ⊢
        have a := iS_adv e2
        have b := tS_adv h
        have q := pT_gd ih (fun t q => pF_k L t q) (tP tp n t) ht.P b.1
        refine ⟨a.1, ?_, q.2.2⟩
        dsimp only
        omega
      · rw [if_neg e2] at h ⊢; exact pC_gd t ht h
theorem askT_gd {tp : Nat → Int} {n : Nat} {K : Int} (h : (askT tp n K).1.2.1 = 0) : (askT tp n K).2.length ≤ n ∧ VC K (askT tp n K).2 := by
  have w := (pEnd_w h).1
  have t1 : Tk n (pK tp n (rn blk tp n 0, 0, -1)) := pK_k Tk.o
  have q := pT_gd (tp := tp) (pF_gd (tp := tp) (n := n) (K := K) 6) (fun t q => pF_k 6 t q) _ t1 w
  have k : Tk n (pQ tp n K (rn blk tp n 0, 0, -1)).1 := pQ_k Tk.o
  have hk := k.1
  refine ⟨?_, q.2.2⟩
  have e : (pQ tp n K (rn blk tp n 0, 0, -1)).2.length ≤ (pQ tp n K (rn blk tp n 0, 0, -1)).1.1 := Nat.le_trans (Nat.le_add_left _ _) q.2.1
  show (pQ tp n K (rn blk tp n 0, 0, -1)).2.length ≤ n
  omega
/-- the stack -/
def StV (I : Nat → Nat → Int) (st : List Int) : Prop := I 78 4 = st.length ∧ st.length ≤ 64 ∧ ∀ (i : Nat) (v : Int), st[i]? = some v → I 81 (st.length - 1 - i) = v
def HF (I I' : Nat → Nat → Int) : Prop := (∀ x, x ≠ 78 → x ≠ 81 → I' x = I x) ∧ ∀ j, j ≠ 4 → I' 78 j = I 78 j
theorem HF.rf {I : Nat → Nat → Int} : HF I I := ⟨fun _ _ _ => rfl, fun _ _ => rfl⟩
theorem HF.tr {I J K : Nat → Nat → Int} (h : HF I J) (k : HF J K) : HF I K := ⟨fun x a b => (k.1 x a b).trans (h.1 x a b), fun j a => (k.2 j a).trans (h.2 j a)⟩
section
variable {G : am_G} {dp : Nat} {Q : am_Q} {Z : (Nat → Nat → Option Nat) × (Nat → Nat × Nat) × Nat × Bool}
theorem ct_push {I : Nat → Nat → Int} {st : List Int} {v : Int} (hq : Qu (I, Z) 78) (hS : StV I st) (h : ∀ I' : Nat → Nat → Int, HF I I' → StV I' (psq v st) → Q (.inl none) (I', Z)) : T G dp 0 0 M5_push [rV (some 78), iV v] (I, Z) Q := by
  have e4 : (I, Z).1 78 4 = (st.length : Int) := hS.1
  have hl := hS.2.1
  refine T5_push (s5_push_0 (n_p1 := 64) hq.2.1.2.2 hq.2.2.2.2 hq.1 (fun q => h I HF.rf ?_) (fun q => ?_) (fun _ => by omega) (fun q => by omega))
  · rw [e4] at q
    unfold psq
    rw [if_neg (by omega)]
    exact hS
  · rw [e4] at q
    dsimp only at e4 ⊢
    rw [e4, Int.toNat_natCast]
    have e9 : (u2 I 81 st.length v) 78 4 = st.length := by rw [u2r (by omega)]; exact e4
    rw [e9, wr_s (by omega)]
    refine h _ ⟨fun x a b => by rw [u2r a, u2r b], fun j hj => by rw [u2n hj, u2r (by omega)]⟩ ?_
    rw [psq_in (by omega)]
    refine ⟨u2_at, by rw [List.length_cons]; omega, fun i w hw => ?_⟩
    rw [u2r (by omega), List.length_cons]
    cases i with
    | zero =>
      have hw : v = w := Option.some.inj hw
      rw [show st.length + 1 - 1 - 0 = st.length by omega, u2_at, hw]
    | succ i =>
      have hw : st[i]? = some w := hw
      have hi := (List.getElem?_eq_some_iff.mp hw).1
      rw [u2n (by omega), show st.length + 1 - 1 - (i + 1) = st.length - 1 - i by omega]
      exact hS.2.2 i w hw
theorem ct_pop {I : Nat → Nat → Int} {st : List Int} (hq : Qu (I, Z) 78) (hS : StV I st) (h : ∀ I' : Nat → Nat → Int, HF I I' → StV I' st.tail → Q (.inl (some (iV (st.headD 0)))) (I', Z)) : T G dp 0 0 M5_pop [rV (some 78)] (I, Z) Q := by
  have e4 : (I, Z).1 78 4 = (st.length : Int) := hS.1
  have hl := hS.2.1
  have e1 : 0 < st.length → (u2 (I, Z).1 78 4 (wr ((I, Z).1 78 4 - 1))) 78 4 = ((st.length - 1 : Nat) : Int) := fun q => by
    rw [u2_at, e4, wr_of (by omega) (by omega)]; omega
  refine T5_pop (s5_pop_0 hq.1 hq.2.1.2.2 (am_rw hq.2.2.2.2) (fun q => ?_) (fun q => ?_) (fun q => ?_) (fun q => ?_))
  · rw [e4] at q
    have e1 := e1 (by omega)
    dsimp only at e4 e1 ⊢
    rw [e1, Int.toNat_natCast, u2r (by omega)]
    cases st with
    | nil => exact absurd q (by decide)
    | cons v st =>
      have q0 : I 81 ((v :: st).length - 1) = v := by have := hS.2.2 0 v rfl; exact this
      rw [q0]
      refine h _ ⟨fun x a _ => u2r a, fun j hj => u2n hj⟩ ⟨?_, by rw [List.length_cons] at hl; exact (by omega : st.length ≤ 64), fun i w hw => ?_⟩
      · rw [e1]; rfl
      · have := hS.2.2 (i + 1) w hw
        rw [List.length_cons, show st.length + 1 - 1 - (i + 1) = st.length - 1 - i by omega] at this
        rw [u2r (by omega)]
        exact this
  · rw [e4] at q
    have hn : st = [] := List.eq_nil_of_length_eq_zero (by omega)
    subst hn
    exact h I HF.rf hS
  · rw [e4] at q
    rw [e1 (by omega)]
    omega
  · rw [e4] at q
    rw [e1 (by omega)]
    omega
theorem ct_isSo {I : Nat → Nat → Int} {op l r : Int} (ho : 6 ≤ op ∧ op ≠ 9) (h : Q (.inl (some (iV (sov op l r)))) (I, Z)) : T G dp 0 0 M5_isSo [iV op, iV l, iV r] (I, Z) Q := by
  unfold sov b10 at h
  refine T5_isSo (s5_isSo_0 (fun a b => ?_) (fun a b => ?_) (fun a b => ?_) (fun a b => ?_) (fun a b => ?_) (fun a b => ?_) (fun a => absurd a ho.2) (fun a => absurd a ho.2) (fun a => absurd a ho.2) (fun a b => ?_) (fun a b c => ?_) (fun a b c => ?_) (fun a1 a2 a3 a4 a5 b => ?_) (fun a1 a2 a3 a4 a5 b c => ?_) (fun a1 a2 a3 a4 a5 b c => ?_))
  · rw [if_pos a, if_neg (by omega)] at h; exact h
  · rw [if_pos a, if_pos (by omega)] at h; exact h
  · rw [if_neg (by omega), if_pos a, if_neg b] at h; exact h
  · rw [if_neg (by omega), if_pos a, if_pos b] at h; exact h
  · rw [if_neg (by omega), if_neg (by omega), if_pos a, if_neg (by omega)] at h; exact h
  · rw [if_neg (by omega), if_neg (by omega), if_pos a, if_pos (by omega)] at h; exact h
  · rw [if_neg (by omega), if_neg (by omega), if_neg (by omega), if_pos a, if_neg (fun z => z.1 b)] at h; exact h
  · rw [if_neg (by omega), if_neg (by omega), if_neg (by omega), if_pos a, if_neg (fun z => z.2 c)] at h; exact h
  · rw [if_neg (by omega), if_neg (by omega), if_neg (by omega), if_pos a, if_pos ⟨b, c⟩] at h; exact h
  · rw [if_neg a1, if_neg a2, if_neg a3, if_neg a5, if_pos (Or.inl b)] at h; exact h
  · rw [if_neg a1, if_neg a2, if_neg a3, if_neg a5, if_neg (fun z => z.elim (fun y => y b) (fun y => y c))] at h; exact h
  · rw [if_neg a1, if_neg a2, if_neg a3, if_neg a5, if_pos (Or.inr c)] at h; exact h
theorem ct_ballotValue {I : Nat → Nat → Int} {R : Nat → Int} {w b : Nat} {s g : Int} (hA : Au (I, Z) 47) (hI : CI I w R) (hb : b < 200) (h : Q (.inl (some (iV (bvl R b s g)))) (I, Z)) : T G dp 0 0 M5_ballotValue [iV s, iV g, rV (some 47), iV b] (I, Z) Q := by
  unfold bvl at h
  refine T5_ballotValue (s5_ballotValue_0 (am_ow hA.1) hA.2.1.2.2.2.2 (am_rw hA.2.2.1.2.2.2.2) (fun a c => ?_) (fun a c => ?_) (fun a => ?_) (fun _ _ => by omega) (fun _ _ => by omega))
  · rw [if_neg a, if_neg c] at h
    rw [Int.toNat_natCast, show (I, Z).1 58 b = cnt (dw R (R 5)) (kN R) b from hI.2.2.2.2.2.2.2.2 b hb]
    exact h
  · rw [if_neg a, if_pos c] at h; exact h
  · rw [if_pos a] at h; exact h
theorem ct_raceValue {I : Nat → Nat → Int} {R : Nat → Int} {w b : Nat} {s g : Int} (hE : El (I, Z) w) (hI : CI I w R) (hb : b < rN R) (hg : 0 ≤ g ∧ g < R 0) (h : Q (.inl (some (iV (rvl R b s g)))) (I, Z)) : T G dp 0 0 M5_raceValue [iV s, iV g, rV (some w), iV b] (I, Z) Q := by
  have hc := hI.1.c
  have hn := hI.1.n
  obtain ⟨r, rfl⟩ : ∃ r : Nat, g = r := ⟨g.toNat, by omega⟩
  have hr : r < rC R := by omega
  have hct := hE.2.2.2 r (by omega)
  have hv := (hI.2.1.2.2.2.2.2 r hr).2.2.2.2.2.2 b hb
  unfold rvl at h
  rw [Int.toNat_natCast] at h
  refine T5_raceValue (s5_raceValue_0 (p2 := ec w r) (p3 := ec w r + 2) (p4 := ec w r + 1) (p5 := ec w r + 3) (n_p3 := 200) (n_p4 := 200) (n_p5 := 200) (am_ow hE.1) hE.2.1.1 (Or.inl rfl) (am_rw hE.2.2.1.1) (fun _ _ => by rw [Int.toNat_natCast]; exact hct.1) (fun _ _ _ _ => am_ow hct.2.1) (fun _ _ _ _ => hct.2.2.1.2.1) (fun _ _ _ _ => am_rw hct.2.2.2.2.1) (fun _ _ _ _ => am_ow hct.2.1) (fun _ _ _ _ => hct.2.2.1.1) (fun _ _ _ _ => am_rw hct.2.2.2.1) (fun _ _ _ => am_ow hct.2.1) (fun _ _ _ => hct.2.2.1.2.2.1) (fun _ _ _ => am_rw hct.2.2.2.2.2.1) (fun a => absurd a (by omega)) (fun _ _ a c => ?_) (fun _ _ a c => ?_) (fun _ _ a => ?_) (fun _ a => absurd (by omega) a) (fun _ _ => by omega) (fun _ _ => by omega) (fun _ _ _ _ => by omega) (fun _ _ _ _ => by omega) (fun _ _ _ _ => by omega) (fun _ _ _ _ => by omega) (fun _ _ _ => by omega) (fun _ _ _ => by omega))
  · rw [if_neg a, if_neg c] at h
    rw [Int.toNat_natCast, show (I, Z).1 (ec w r + 2) b = rP_ R r b from hv.2.1]
    exact h
  · rw [if_neg a, if_pos c] at h
    rw [Int.toNat_natCast, show (I, Z).1 (ec w r + 1) b = rV_ R r b from hv.1]
    exact h
  · rw [if_pos a] at h
    rw [Int.toNat_natCast, show (I, Z).1 (ec w r + 3) b = rM R r b from hv.2.2]
    exact h
end
