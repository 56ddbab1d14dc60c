/-! WHAT THE CLASS AND THE REFERENCE BOTH TELL OF, between two calls -/
/-- the class: its election R, its n past rows Pa, the tape's nt bytes tp, what it said l, its latest fault f, whether it keeps an image g, the image Ri -/
def zC (I : Nat → Nat → Int) (w : Nat) (R : Nat → Int) (n : Nat) (Pa : Nat → Nat → Int) (tp : Nat → Int) (nt : Nat) (l : List Int) (f g : Int) (Ri : Nat → Int) : Prop := CX I w R n Pa ∧ TpC I tp nt ∧ SpV I 3 l ∧ I 1 2 = f ∧ I 1 11 = g ∧ (g ≠ 0 → RV Ri ∧ ElV I 82 Ri)
def zR (I : Nat → Nat → Int) (R : Nat → Int) (n : Nat) (Pa : Nat → Nat → Int) (tp : Nat → Int) (nt : Nat) (l : List Int) (f g : Int) (Ri : Nat → Int) : Prop := RowV I R ∧ PaV I n Pa ∧ TpM I tp nt ∧ SaV I l ∧ I 103 32 = f ∧ I 103 5 = g ∧ (g ≠ 0 → ∀ j, j < 1514 → I 107 j = Ri j)
def zP (R : Nat → Int) (n : Nat) (Pa : Nat → Nat → Int) (tp : Nat → Int) (l : List Int) (g : Int) (Ri : Nat → Int) : Prop := DR R ∧ (∀ j, j < n → DR (Pa j)) ∧ TpB tp ∧ l.length ≤ 64 ∧ (g ≠ 0 → DR Ri)
theorem zC.of {I I' : Nat → Nat → Int} {w w' n n' nt nt' : Nat} {R R' Ri tp tp' : Nat → Int} {Pa Pa' : Nat → Nat → Int} {l : List Int} {f f' g : Int} (h : zC I w R n Pa tp nt l f g Ri) (s3 : I' 3 = I 3) (s4 : I' 4 = I 4) (s82 : ∀ x, 82 ≤ x → x < 103 → I' x = I x) (h11 : I' 1 11 = I 1 11) (hX : CX I' w' R' n' Pa') (hT : TpC I' tp' nt') (hf : I' 1 2 = f') : zC I' w' R' n' Pa' tp' nt' l f' g Ri := by
  obtain ⟨_, _, a3, _, a5, a6⟩ := h
  refine ⟨hX, hT, ?_, hf, h11.trans a5, fun q => ⟨(a6 q).1, (a6 q).2.same (a6 q).1 (fun x h1 h2 => s82 x (by omega) (by omega))⟩⟩
  unfold SpV at *
  have e4 : I' (3 + 1) = I (3 + 1) := s4
  rw [s3, e4]; exact a3
theorem zC.cf {I I' : Nat → Nat → Int} {w n nt : Nat} {R Ri tp : Nat → Int} {Pa : Nat → Nat → Int} {l : List Int} {f g : Int} (h : zC I w R n Pa tp nt l f g Ri) (hw : w = 5 ∨ w = 26) (hs : ∀ x, x < 103 → (x < 59 ∨ 71 ≤ x) → I' x = I x) : zC I' w R n Pa tp nt l f g Ri := by
  have e1 : I' 1 = I 1 := hs 1 (by omega) (by omega)
  have e2 : I' 2 = I 2 := hs 2 (by omega) (by omega)
  refine h.of (hs 3 (by omega) (by omega)) (hs 4 (by omega) (by omega)) (fun x h1 h2 => hs x (by omega) (by omega)) (by rw [e1]) (h.1.same (fun x h1 h2 => hs x (by omega) (by omega)) (fun x h1 h2 => hs x (by omega) (by omega)) (fun x h1 h2 => hs x (by omega) (by omega))) ?_ (by rw [e1]; exact h.2.2.2.1)
  have := h.2.1
  unfold TpC at *
  rw [e1, e2]; exact this
theorem zC.rf {I I' : Nat → Nat → Int} {w n nt : Nat} {R Ri tp : Nat → Int} {Pa : Nat → Nat → Int} {l : List Int} {f g : Int} (h : zC I w R n Pa tp nt l f g Ri) (hw : w = 5 ∨ w = 26) (hs : ∀ x, x < 103 → I' x = I x) : zC I' w R n Pa tp nt l f g Ri := h.cf hw fun x hx _ => hs x hx
theorem zR.of {I I' : Nat → Nat → Int} {n n' nt nt' : Nat} {R R' Ri tp tp' : Nat → Int} {Pa Pa' : Nat → Nat → Int} {l : List Int} {f f' g : Int} (h : zR I R n Pa tp nt l f g Ri) (s107 : I' 107 = I 107) (s120 : I' 120 = I 120) (s5 : I' 103 5 = I 103 5) (s22 : I' 103 22 = I 103 22) (hr : RowV I' R') (hp : PaV I' n' Pa') (hT : TpM I' tp' nt') (hf : I' 103 32 = f') : zR I' R' n' Pa' tp' nt' l f' g Ri := by
  obtain ⟨_, _, _, a4, _, a6, a7⟩ := h
  refine ⟨hr, hp, hT, ?_, hf, s5.trans a6, fun q j hj => by rw [s107]; exact a7 q j hj⟩
  unfold SaV at *
  rw [s22, s120]; exact a4
theorem TpM.to {I I' : Nat → Nat → Int} {tp : Nat → Int} {nt : Nat} (h : TpM I tp nt) (h24 : I' 103 24 = I 103 24) (h121 : I' 121 = I 121) : TpM I' tp nt := by
  unfold TpM at *
  rw [h24, h121]; exact h
theorem PaV.to {I I' : Nat → Nat → Int} {n : Nat} {P : Nat → Nat → Int} (h : PaV I n P) (h6 : I' 103 6 = I 103 6) (h108 : I' 108 = I 108) : PaV I' n P := by
  unfold PaV at *
  rw [h6, h108]; exact h
theorem zR.cf {I I' : Nat → Nat → Int} {n nt : Nat} {R Ri tp : Nat → Int} {Pa : Nat → Nat → Int} {l : List Int} {f g : Int} (h : zR I R n Pa tp nt l f g Ri) (hs : ∀ x, 103 ≤ x → x ≠ 122 → I' x = I x) : zR I' R n Pa tp nt l f g Ri := by
  have e3 : I' 103 = I 103 := hs 103 (by omega) (by omega)
  refine h.of (hs _ (by omega) (by omega)) (hs _ (by omega) (by omega)) (by rw [e3]) (by rw [e3]) (fun j hj => by rw [hs 104 (by omega) (by omega)]; exact h.1 j hj) (h.2.1.to (by rw [e3]) (hs _ (by omega) (by omega))) (h.2.2.1.to (by rw [e3]) (hs _ (by omega) (by omega))) (by rw [e3]; exact h.2.2.2.2.1)
theorem zR.mf {I I' : Nat → Nat → Int} {n nt : Nat} {R Ri tp : Nat → Int} {Pa : Nat → Nat → Int} {l : List Int} {f g : Int} (h : zR I R n Pa tp nt l f g Ri) (m : MF I I') : zR I' R n Pa tp nt l f g Ri :=
  h.of (m.1 _ (by omega) (by omega)) (m.1 _ (by omega) (by omega)) (m.2 _ (by omega) (by omega) (by omega)) (m.2 _ (by omega) (by omega) (by omega)) (m.row h.1) (m.pa h.2.1) (h.2.2.1.to (m.2 _ (by omega) (by omega) (by omega)) (m.1 _ (by omega) (by omega))) ((m.2 _ (by omega) (by omega) (by omega)).trans h.2.2.2.2.1)
theorem zR.mu {I I' : Nat → Nat → Int} {n n' nt : Nat} {R R' Ri tp : Nat → Int} {Pa Pa' : Nat → Nat → Int} {l : List Int} {f g : Int} (h : zR I R n Pa tp nt l f g Ri) (m : MU I I') (hr : RowV I' R') (hp : PaV I' n' Pa') : zR I' R' n' Pa' tp nt l f g Ri :=
  h.of (m.1 _ (by omega)) (m.1 _ (by omega)) (m.2 _ (by omega)) (m.2 _ (by omega)) hr hp (h.2.2.1.to (m.2 _ (by omega)) (m.1 _ (by omega))) ((m.2 _ (by omega)).trans h.2.2.2.2.1)
theorem MF.low {I I' : Nat → Nat → Int} (m : MF I I') : ∀ x, x < 103 → I' x = I x := fun x hx => m.1 x (by omega) (by omega)
theorem MU.low {I I' : Nat → Nat → Int} (m : MU I I') : ∀ x, x < 103 → I' x = I x := fun x hx => m.1 x (by omega)
/-- the things that both own -/
def zS (m : am_M) (len w s : Nat) : Prop := Cl m w s ∧ Md m ∧ am_arw m 122 101 1 ∧ len ≤ 3072
theorem zS.w {m : am_M} {len w s : Nat} (h : zS m len w s) : w = 5 ∨ w = 26 := by have := h.1.ws; omega
def zJ (m : am_M) (len : Nat) : Prop := ∃ (w s : Nat) (R : Nat → Int) (n : Nat) (Pa : Nat → Nat → Int) (tp : Nat → Int) (nt : Nat) (l : List Int) (f g : Int) (Ri : Nat → Int), zS m len w s ∧ zC m.1 w R n Pa tp nt l f g Ri ∧ zR m.1 R n Pa tp nt l f g Ri ∧ zP R n Pa tp l g Ri
/-- what a question changes of the class, and the answer's place -/
def zQ (I I' : Nat → Nat → Int) : Prop := ∀ x, x ≠ 122 → (x < 59 ∨ 71 ≤ x) → I' x = I x
theorem zQ.rf {I : Nat → Nat → Int} : zQ I I := fun _ _ _ => rfl
/-- what an act changes of the class, and the answer's place -/
def zU (I I' : Nat → Nat → Int) : Prop := ∀ x, x ≠ 122 → (x < 5 ∨ 76 ≤ x) → I' x = I x
theorem zU.rf {I : Nat → Nat → Int} : zU I I := fun _ _ _ => rfl
theorem zJ.q {I I1 I2 : Nat → Nat → Int} {Z : (Nat → Nat → Option Nat) × (Nat → Nat × Nat) × Nat × Bool} {len w s n nt : Nat} {R Ri tp : Nat → Int} {Pa : Nat → Nat → Int} {l : List Int} {f g : Int} (hS : zS (I, Z) len w s) (hC : zC I w R n Pa tp nt l f g Ri) (hR : zR I R n Pa tp nt l f g Ri) (hP : zP R n Pa tp l g Ri) (q : zQ I I1) (m : MF I1 I2) : zJ (I2, Z) len :=
  ⟨w, s, R, n, Pa, tp, nt, l, f, g, Ri, hS, (hC.cf hS.w fun x h1 h2 => q x (by omega) h2).rf hS.w m.low, (hR.cf fun x h1 h2 => q x h2 (by omega)).mf m, hP⟩
theorem psh_all {p : (Nat → Int) → Prop} {n : Nat} {P : Nat → Nat → Int} {R : Nat → Int} (h : ∀ j, j < n → p (P j)) (hn : n ≤ 12) (hR : p R) : ∀ j, j < psn n → p (psh P n R j) := by
  intro j hj
  unfold psn at hj
  unfold psh
  by_cases q : n < 12
  · rw [if_pos q] at hj ⊢
    try dsimp only
    by_cases e : j = n
    · rw [if_pos e]; exact hR
    · rw [if_neg e]; exact h j (by omega)
  · rw [if_neg q] at hj ⊢
    try dsimp only
    by_cases e : j = 11
    · rw [if_pos e]; exact hR
    · rw [if_neg e]; exact h (j + 1) (by omega)
/-- an act is done: the class, then the reference -/
theorem zJ.u {I I1 I2 : Nat → Nat → Int} {Z : (Nat → Nat → Option Nat) × (Nat → Nat × Nat) × Nat × Bool} {len w s n n' nt : Nat} {R R' Ri tp : Nat → Int} {Pa Pa' : Nat → Nat → Int} {l : List Int} {f g : Int} (hS : zS (I, Z) len w s) (hC : zC I w R n Pa tp nt l f g Ri) (hR : zR I R n Pa tp nt l f g Ri) (hP : zP R n Pa tp l g Ri) (q : zU I I1) (hX : CX I1 w R' n' Pa') (m : MU I1 I2) (hr : RowV I2 R') (hp : PaV I2 n' Pa') (hD : DR R') (hDp : ∀ j, j < n' → DR (Pa' j)) : zJ (I2, Z) len := by
  have e1 : I1 1 = I 1 := q 1 (by omega) (by omega)
  have e2 : I1 2 = I 2 := q 2 (by omega) (by omega)
  have c1 : zC I1 w R' n' Pa' tp nt l f g Ri := by
    refine hC.of (q _ (by omega) (by omega)) (q _ (by omega) (by omega)) (fun x h1 h2 => q x (by omega) (by omega)) (by rw [e1]) hX ?_ (by rw [e1]; exact hC.2.2.2.1)
    have := hC.2.1
    unfold TpC at *
    rw [e1, e2]; exact this
  exact ⟨w, s, R', n', Pa', tp, nt, l, f, g, Ri, hS, c1.rf hS.w m.low, (hR.cf fun x h1 h2 => q x h2 (by omega)).mu m hr hp, hD, hDp, hP.2.2⟩
/-! questions' answers: what comes out, as a relation of code and value -/
def zA (A : Int → Prop) (B1 B2 : Prop) (k v : Int) : Prop := (k = 0 ∧ A v) ∨ (k = 1 ∧ v = 0 ∧ B1) ∨ (k = 2 ∧ v = 0 ∧ B2)
def zN (A : Int → Prop) (B1 B2 : Prop) : Prop := (∀ v v', A v → A v' → v = v') ∧ (∀ v, A v → B1 → False) ∧ (∀ v, A v → B2 → False) ∧ (B1 → B2 → False)
theorem zA.fn {A : Int → Prop} {B1 B2 : Prop} {k k' v v' : Int} (h : zA A B1 B2 k v) (h' : zA A B1 B2 k' v') (f : zN A B1 B2) : k = k' ∧ v = v' := by
  obtain ⟨f1, f2, f3, f4⟩ := f
  rcases h with ⟨a, b⟩ | ⟨a, c, b⟩ | ⟨a, c, b⟩ <;> rcases h' with ⟨a', b'⟩ | ⟨a', c', b'⟩ | ⟨a', c', b'⟩
  · exact ⟨a.trans a'.symm, f1 _ _ b b'⟩
  · exact (f2 _ b b').elim
  · exact (f3 _ b b').elim
  · exact (f2 _ b' b).elim
  · exact ⟨a.trans a'.symm, c.trans c'.symm⟩
  · exact (f4 b b').elim
  · exact (f3 _ b' b).elim
  · exact (f4 b' b).elim
  · exact ⟨a.trans a'.symm, c.trans c'.symm⟩
def zH (I : Nat → Nat → Int) (Z : (Nat → Nat → Option Nat) × (Nat → Nat × Nat) × Nat × Bool) (Q : am_Q) (A : Int → Prop) (B1 B2 : Prop) : Prop := ∀ k v, zA A B1 B2 k v → ∀ I', zQ I I' → (k = 0 → I' 122 0 = v) → Q (.inl (some (iV k))) (I', Z)
section OHs
variable {I I1 : Nat → Nat → Int} {Z : (Nat → Nat → Option Nat) × (Nat → Nat × Nat) × Nat × Bool} {Q : am_Q} {A : Int → Prop} {B1 B2 : Prop} {c : Nat → Int → Prop} {v : Int} {k : Nat}
theorem zH.st (h : zH I Z Q A B1 B2) (g : ∀ x, x < 59 ∨ 71 ≤ x → I1 x = I x) (a : A v) : Q (.inl (some (iV 0))) (am_wI (I1, Z) 122 0 v) :=
  h 0 v (Or.inl ⟨rfl, a⟩) (u2 I1 122 0 v) (fun x h1 h2 => (u2_row I1 h1).trans (g x h2)) (fun _ => u2_same I1 122 0 v)
theorem zH.i (h : zH I Z Q A B1 B2) (ho : am_arw (I, Z) 122 101 1) (g : ∀ x, x < 59 ∨ 71 ≤ x → I1 x = I x) (a : A v) : wi c Q (.inl (some (iV v))) (I1, Z) := Or.inl ⟨v, rfl, ho, h.st g a⟩
theorem zH.l (h : zH I Z Q A B1 B2) (ho : am_arw (I, Z) 122 101 1) (g : ∀ x, x < 59 ∨ 71 ≤ x → I1 x = I x) (a : A v) : wl c Q (.inl (some (lV v))) (I1, Z) := Or.inl ⟨v, rfl, ho, h.st g a⟩
theorem zH.x1 (h : zH I Z Q A B1 B2) (b : B1) : Q (.inl (some (iV 1))) (I, Z) := h 1 0 (Or.inr (Or.inl ⟨rfl, rfl, b⟩)) _ zQ.rf (fun q => absurd q (by decide))
theorem zH.x2 (h : zH I Z Q A B1 B2) (b : B2) : Q (.inl (some (iV 2))) (I, Z) := h 2 0 (Or.inr (Or.inr ⟨rfl, rfl, b⟩)) _ zQ.rf (fun q => absurd q (by decide))
theorem zH.i1 (h : zH I Z Q A B1 B2) (b : B1) (hc : c k 1) : wi c Q (.inr k) (I, Z) := Or.inr ⟨k, 1, rfl, hc, h.x1 b⟩
theorem zH.i2 (h : zH I Z Q A B1 B2) (b : B2) (hc : c k 2) : wi c Q (.inr k) (I, Z) := Or.inr ⟨k, 2, rfl, hc, h.x2 b⟩
theorem zH.l1 (h : zH I Z Q A B1 B2) (b : B1) (hc : c k 1) : wl c Q (.inr k) (I, Z) := Or.inr ⟨k, 1, rfl, hc, h.x1 b⟩
theorem zH.l2 (h : zH I Z Q A B1 B2) (b : B2) (hc : c k 2) : wl c Q (.inr k) (I, Z) := Or.inr ⟨k, 2, rfl, hc, h.x2 b⟩
end OHs
