/-! THE QUESTIONS' ANSWERS as relations -/
theorem isR_of {R : Nat → Int} {i : Int} {r : Nat} (hR : RV R) (e : i = r) (h : r < rC R) : isR R i := by have := hR.c; unfold isR; omega
theorem isB_of {R : Nat → Int} {i : Int} {b : Nat} (hR : RV R) (e : i = b) (h : b < rN R) : isB R i := by have := hR.n; unfold isB; omega
theorem isC_of {R : Nat → Int} {j : Int} {r c : Nat} (hR : RV R) (hr : r < rC R) (e : j = c) (h : c < rK R r) : isC R r j := by have := hR.k hr; unfold isC; omega
theorem nat_eq {i : Int} {r r' : Nat} (e : i = r) (e' : i = r') : r = r' := by omega
section Ans
variable {R : Nat → Int} {i j z x y N sd : Int} {n : Nat} {t : Int}
def A_count (R : Nat → Int) (n : Nat) (t i v : Int) : Prop := vCount R n t i = some v
def B_count (R : Nat → Int) (n : Nat) (t i : Int) : Prop := vCount R n t i = none
theorem f_count : zN (A_count R n t i) (B_count R n t i) False :=
  ⟨fun v v' a b => Option.some.inj (Eq.trans (Eq.symm a) b), fun v a b => (nomatch (Eq.trans (Eq.symm a) b : some v = none)), fun _ _ q => q, fun _ q => q⟩
def A_race (R : Nat → Int) (i j v : Int) : Prop := ∃ r : Nat, i = r ∧ r < rC R ∧ vRace R r j = some v
def B_race (R : Nat → Int) (i j : Int) : Prop := ¬ isR R i ∨ ∀ r, vRace R r j = none
theorem f_race (hR : RV R) : zN (A_race R i j) (B_race R i j) False :=
  ⟨fun v v' ⟨r, e, _, q⟩ ⟨r', e', _, q'⟩ => by have := nat_eq e e'; subst this; exact Option.some.inj (q.symm.trans q'),
    fun v ⟨r, e, h, q⟩ b => b.elim (fun b => b (isR_of hR e h)) (fun b => nomatch (q.symm.trans (b r) : some v = none)), fun _ _ q => q, fun _ q => q⟩
def B_r (R : Nat → Int) (i : Int) : Prop := ¬ isR R i
def A_risk (R : Nat → Int) (i v : Int) : Prop := ∃ r : Nat, i = r ∧ r < rC R ∧ v = (rq R r).2.1
theorem f_risk (hR : RV R) : zN (A_risk R i) (B_r R i) False :=
  ⟨fun v v' ⟨r, e, _, q⟩ ⟨r', e', _, q'⟩ => by have := nat_eq e e'; subst this; exact q.trans q'.symm, fun v ⟨r, e, h, q⟩ b => b (isR_of hR e h), fun _ _ q => q, fun _ q => q⟩
def B_rc (R : Nat → Int) (i j : Int) : Prop := ¬ isR R i ∨ ∃ r : Nat, i = r ∧ ¬ isC R r j
def A_riskOf (R : Nat → Int) (i j v : Int) : Prop := ∃ r c : Nat, i = r ∧ r < rC R ∧ j = c ∧ c < rK R r ∧ v = vRiskOf R r c
theorem f_riskOf (hR : RV R) : zN (A_riskOf R i j) (B_rc R i j) False :=
  ⟨fun v v' ⟨r, c, e, _, d, _, q⟩ ⟨r', c', e', _, d', _, q'⟩ => by have h1 := nat_eq e e'; have h2 := nat_eq d d'; subst h1; subst h2; exact q.trans q'.symm,
    fun v ⟨r, c, e, h, d, k, q⟩ b => b.elim (fun b => b (isR_of hR e h)) (fun ⟨r', e', b⟩ => by have h1 := nat_eq e e'; subst h1; exact b (isC_of hR h d k)), fun _ _ q => q, fun _ q => q⟩
def A_votes (R : Nat → Int) (i j z v : Int) : Prop := ∃ r c : Nat, i = r ∧ r < rC R ∧ j = c ∧ c < rK R r ∧ v = if z = 0 then rT R r c else rH R r c
theorem f_votes (hR : RV R) : zN (A_votes R i j z) (B_rc R i j) False :=
  ⟨fun v v' ⟨r, c, e, _, d, _, q⟩ ⟨r', c', e', _, d', _, q'⟩ => by have h1 := nat_eq e e'; have h2 := nat_eq d d'; subst h1; subst h2; exact q.trans q'.symm,
    fun v ⟨r, c, e, h, d, k, q⟩ b => b.elim (fun b => b (isR_of hR e h)) (fun ⟨r', e', b⟩ => by have h1 := nat_eq e e'; subst h1; exact b (isC_of hR h d k)), fun _ _ q => q, fun _ q => q⟩
def A_ballot (R : Nat → Int) (i j z v : Int) : Prop := ∃ r b : Nat, j = r ∧ r < rC R ∧ i = b ∧ b < rN R ∧ vBallot R r b z = some v
def B_ballot (R : Nat → Int) (i j z : Int) : Prop := ¬ isR R j ∨ ¬ isB R i ∨ ∀ r b, vBallot R r b z = none
theorem f_ballot (hR : RV R) : zN (A_ballot R i j z) (B_ballot R i j z) False :=
  ⟨fun v v' ⟨r, c, e, _, d, _, q⟩ ⟨r', c', e', _, d', _, q'⟩ => by have h1 := nat_eq e e'; have h2 := nat_eq d d'; subst h1; subst h2; exact Option.some.inj (q.symm.trans q'),
    fun v ⟨r, c, e, h, d, k, q⟩ b => b.elim (fun b => b (isR_of hR e h)) (fun b => b.elim (fun b => b (isB_of hR d k)) (fun b => nomatch (q.symm.trans (b r c) : some v = none))), fun _ _ q => q, fun _ q => q⟩
def A_next (R : Nat → Int) (i j v : Int) : Prop := ∃ r b : Nat, i = r ∧ r < rC R ∧ j = b ∧ b < rN R ∧ v = nx R r b
def B_rb (R : Nat → Int) (i j : Int) : Prop := ¬ isR R i ∨ ¬ isB R j
theorem f_next (hR : RV R) : zN (A_next R i j) (B_rb R i j) False :=
  ⟨fun v v' ⟨r, c, e, _, d, _, q⟩ ⟨r', c', e', _, d', _, q'⟩ => by have h1 := nat_eq e e'; have h2 := nat_eq d d'; subst h1; subst h2; exact q.trans q'.symm,
    fun v ⟨r, c, e, h, d, k, q⟩ b => b.elim (fun b => b (isR_of hR e h)) (fun b => b (isB_of hR d k)), fun _ _ q => q, fun _ q => q⟩
def A_worst (R : Nat → Int) (i v : Int) : Prop := ∃ r : Nat, i = r ∧ r < rC R ∧ v = (wgo (nx R r) (rN R)).1
theorem f_worst (hR : RV R) : zN (A_worst R i) (B_r R i) False :=
  ⟨fun v v' ⟨r, e, _, q⟩ ⟨r', e', _, q'⟩ => by have := nat_eq e e'; subst this; exact q.trans q'.symm, fun v ⟨r, e, h, q⟩ b => b (isR_of hR e h), fun _ _ q => q, fun _ q => q⟩
def A_drawn (R : Nat → Int) (i v : Int) : Prop := ∃ k : Nat, i = k ∧ k < kN R ∧ v = dw R (R 5) k
def B_drawn (R : Nat → Int) (i : Int) : Prop := ¬ (0 ≤ i ∧ i < kN R)
theorem f_drawn : zN (A_drawn R i) (B_drawn R i) False :=
  ⟨fun v v' ⟨r, e, _, q⟩ ⟨r', e', _, q'⟩ => by have := nat_eq e e'; subst this; exact q.trans q'.symm, fun v ⟨r, e, h, q⟩ b => b ⟨by omega, by omega⟩, fun _ _ q => q, fun _ q => q⟩
def A_times (R : Nat → Int) (i v : Int) : Prop := ∃ b : Nat, i = b ∧ b < rN R ∧ v = cnt (dw R (R 5)) (kN R) b
def B_b (R : Nat → Int) (i : Int) : Prop := ¬ isB R i
theorem f_times (hR : RV R) : zN (A_times R i) (B_b R i) False :=
  ⟨fun v v' ⟨r, e, _, q⟩ ⟨r', e', _, q'⟩ => by have := nat_eq e e'; subst this; exact q.trans q'.symm, fun v ⟨r, e, h, q⟩ b => b (isB_of hR e h), fun _ _ q => q, fun _ q => q⟩
def A_riskAt (R : Nat → Int) (i j v : Int) : Prop := ∃ r k : Nat, i = r ∧ r < rC R ∧ j = k ∧ k ≤ kN R ∧ v = (rs R (dw R (R 5)) r k).2.1
def B_riskAt (R : Nat → Int) (i j : Int) : Prop := ¬ isR R i ∨ ¬ (0 ≤ j ∧ j ≤ kN R)
theorem f_riskAt (hR : RV R) : zN (A_riskAt R i j) (B_riskAt R i j) False :=
  ⟨fun v v' ⟨r, c, e, _, d, _, q⟩ ⟨r', c', e', _, d', _, q'⟩ => by have h1 := nat_eq e e'; have h2 := nat_eq d d'; subst h1; subst h2; exact q.trans q'.symm,
    fun v ⟨r, c, e, h, d, k, q⟩ b => b.elim (fun b => b (isR_of hR e h)) (fun b => b ⟨by omega, by omega⟩), fun _ _ q => q, fun _ q => q⟩
def A_mistakes (R : Nat → Int) (i z v : Int) : Prop := ∃ r : Nat, i = r ∧ r < rC R ∧ -2 ≤ z ∧ z ≤ 2 ∧ v = mkd R r z
def B_mistakes (R : Nat → Int) (i z : Int) : Prop := ¬ isR R i ∨ ¬ (-2 ≤ z ∧ z ≤ 2)
theorem f_mistakes (hR : RV R) : zN (A_mistakes R i z) (B_mistakes R i z) False :=
  ⟨fun v v' ⟨r, e, _, _, _, q⟩ ⟨r', e', _, _, _, q'⟩ => by have := nat_eq e e'; subst this; exact q.trans q'.symm, fun v ⟨r, e, h, a1, a2, q⟩ b => b.elim (fun b => b (isR_of hR e h)) (fun b => b ⟨a1, a2⟩), fun _ _ q => q, fun _ q => q⟩
def A_chance (R : Nat → Int) (i j v : Int) : Prop := ∃ r n : Nat, i = r ∧ r < rC R ∧ j = n ∧ n ≤ 300 ∧ v = chn (R 1) (wo R r) n
def B_chance (R : Nat → Int) (i j : Int) : Prop := isR R i ∧ ¬ (0 ≤ j ∧ j ≤ 300)
theorem f_chance (hR : RV R) : zN (A_chance R i j) (B_r R i) (B_chance R i j) :=
  ⟨fun v v' ⟨r, c, e, _, d, _, q⟩ ⟨r', c', e', _, d', _, q'⟩ => by have h1 := nat_eq e e'; have h2 := nat_eq d d'; subst h1; subst h2; exact q.trans q'.symm,
    fun v ⟨r, c, e, h, d, k, q⟩ b => b (isR_of hR e h), fun v ⟨r, c, e, h, d, k, q⟩ b => b.2 ⟨by omega, by omega⟩, fun b b' => b b'.1⟩
def A_enough (R : Nat → Int) (i v : Int) : Prop := ∃ r : Nat, i = r ∧ r < rC R ∧ v = engo (R 1) (wo R r) (goal R) 5000 1
theorem f_enough (hR : RV R) : zN (A_enough R i) (B_r R i) False :=
  ⟨fun v v' ⟨r, e, _, q⟩ ⟨r', e', _, q'⟩ => by have := nat_eq e e'; subst this; exact q.trans q'.symm, fun v ⟨r, e, h, q⟩ b => b (isR_of hR e h), fun _ _ q => q, fun _ q => q⟩
def A_flips (R : Nat → Int) (i j v : Int) : Prop := ∃ r : Nat, i = r ∧ r < rC R ∧ 0 ≤ j ∧ j ≤ 1 ∧ v = if j = 0 then (fgo (rH R r) (rO R r) (rK R r)).2 else (fgo (rH R r) (rO R r) (rK R r)).1
def B_flips (R : Nat → Int) (i j : Int) : Prop := ¬ isR R i ∨ ¬ (0 ≤ j ∧ j ≤ 1)
theorem f_flips (hR : RV R) : zN (A_flips R i j) (B_flips R i j) False :=
  ⟨fun v v' ⟨r, e, _, _, _, q⟩ ⟨r', e', _, _, _, q'⟩ => by have := nat_eq e e'; subst this; exact q.trans q'.symm, fun v ⟨r, e, h, a1, a2, q⟩ b => b.elim (fun b => b (isR_of hR e h)) (fun b => b ⟨a1, a2⟩), fun _ _ q => q, fun _ q => q⟩
def B_two (R : Nat → Int) (i x y : Int) : Prop := isR R i ∧ ¬ (0 ≤ x ∧ x ≤ 99 ∧ 0 ≤ y ∧ y ≤ 99)
def A_need (R : Nat → Int) (i x y v : Int) : Prop := ∃ r a b : Nat, i = r ∧ r < rC R ∧ x = a ∧ y = b ∧ a ≤ 99 ∧ b ≤ 99 ∧ v = neD R r (R 3) a b 5000
theorem f_need (hR : RV R) : zN (A_need R i x y) (B_r R i) (B_two R i x y) :=
  ⟨fun v v' ⟨r, a, b, e, _, d, g, _, _, q⟩ ⟨r', a', b', e', _, d', g', _, _, q'⟩ => by have h1 := nat_eq e e'; have h2 := nat_eq d d'; have h3 := nat_eq g g'; subst h1; subst h2; subst h3; exact q.trans q'.symm,
    fun v ⟨r, a, b, e, h, d, g, k1, k2, q⟩ c => c (isR_of hR e h), fun v ⟨r, a, b, e, h, d, g, k1, k2, q⟩ c => c.2 ⟨by omega, by omega, by omega, by omega⟩, fun b b' => b b'.1⟩
def A_bestFactor (R : Nat → Int) (i x y v : Int) : Prop := ∃ r a b : Nat, i = r ∧ r < rC R ∧ x = a ∧ y = b ∧ a ≤ 99 ∧ b ≤ 99 ∧ v = (bfo R r a b (bfN R r)).1
theorem f_bestFactor (hR : RV R) : zN (A_bestFactor R i x y) (B_r R i) (B_two R i x y) :=
  ⟨fun v v' ⟨r, a, b, e, _, d, g, _, _, q⟩ ⟨r', a', b', e', _, d', g', _, _, q'⟩ => by have h1 := nat_eq e e'; have h2 := nat_eq d d'; have h3 := nat_eq g g'; subst h1; subst h2; subst h3; exact q.trans q'.symm,
    fun v ⟨r, a, b, e, h, d, g, k1, k2, q⟩ c => c (isR_of hR e h), fun v ⟨r, a, b, e, h, d, g, k1, k2, q⟩ c => c.2 ⟨by omega, by omega, by omega, by omega⟩, fun b b' => b b'.1⟩
def A_more (R : Nat → Int) (i v : Int) : Prop := ∃ r : Nat, i = r ∧ r < rC R ∧ v = mo R r
theorem f_more (hR : RV R) : zN (A_more R i) (B_r R i) False :=
  ⟨fun v v' ⟨r, e, _, q⟩ ⟨r', e', _, q'⟩ => by have := nat_eq e e'; subst this; exact q.trans q'.symm, fun v ⟨r, e, h, q⟩ b => b (isR_of hR e h), fun _ _ q => q, fun _ q => q⟩
def A_tries (R : Nat → Int) (i sd N z v : Int) : Prop := ∃ r n : Nat, i = r ∧ r < rC R ∧ 0 ≤ z ∧ z ≤ 2 ∧ N = n ∧ 1 ≤ n ∧ n ≤ 30 ∧ v = tsum R r z sd n
def B_tries (R : Nat → Int) (i z : Int) : Prop := ¬ isR R i ∨ ¬ (0 ≤ z ∧ z ≤ 2)
def C_tries (R : Nat → Int) (i N z : Int) : Prop := isR R i ∧ 0 ≤ z ∧ z ≤ 2 ∧ ¬ (1 ≤ N ∧ N ≤ 30)
theorem f_tries (hR : RV R) : zN (A_tries R i sd N z) (B_tries R i z) (C_tries R i N z) :=
  ⟨fun v v' ⟨r, n, e, _, _, _, d, _, _, q⟩ ⟨r', n', e', _, _, _, d', _, _, q'⟩ => by have h1 := nat_eq e e'; have h2 := nat_eq d d'; subst h1; subst h2; exact q.trans q'.symm,
    fun v ⟨r, n, e, h, a1, a2, d, k1, k2, q⟩ b => b.elim (fun b => b (isR_of hR e h)) (fun b => b ⟨a1, a2⟩), fun v ⟨r, n, e, h, a1, a2, d, k1, k2, q⟩ b => b.2.2.2 ⟨by omega, by omega⟩, fun b b' => b.elim (fun b => b b'.1) (fun b => b ⟨b'.2.1, b'.2.2.1⟩)⟩
def A_quickest (R : Nat → Int) (sd N v : Int) : Prop := ∃ n : Nat, N = n ∧ 1 ≤ n ∧ n ≤ 30 ∧ v = (qgo R sd n).1
def B_quickest (N : Int) : Prop := ¬ (1 ≤ N ∧ N ≤ 30)
theorem f_quickest : zN (A_quickest R sd N) (B_quickest N) False :=
  ⟨fun v v' ⟨n, d, _, _, q⟩ ⟨n', d', _, _, q'⟩ => by have h2 := nat_eq d d'; subst h2; exact q.trans q'.symm, fun v ⟨n, d, k1, k2, q⟩ b => b ⟨by omega, by omega⟩, fun _ _ q => q, fun _ q => q⟩
end Ans
