/-! AN ELECTION as a row of numbers R, as the reference has it; its audit -/
def rV_ (R : Nat → Int) (r b : Nat) : Int := R (14 + 3 * b + r)
def rP_ (R : Nat → Int) (r b : Nat) : Int := R (614 + 3 * b + r)
def rK (R : Nat → Int) (r : Nat) : Nat := (R (8 + 2 * r)).toNat
def rY (R : Nat → Int) (r : Nat) : Int := R (8 + 2 * r + 1)
def rN (R : Nat → Int) : Nat := (R 1).toNat
def rC (R : Nat → Int) : Nat := (R 0).toNat
def rT (R : Nat → Int) (r j : Nat) : Int := tal (rV_ R r) (rN R) j
def rH (R : Nat → Int) (r j : Nat) : Int := tal (rP_ R r) (rN R) j
def rW (R : Nat → Int) (r : Nat) : Nat := win (rV_ R r) (rN R) (rK R r)
def rS (R : Nat → Int) (r : Nat) : Nat := sec (rV_ R r) (rN R) (rK R r)
def rO (R : Nat → Int) (r : Nat) : Nat := win (rP_ R r) (rN R) (rK R r)
def rG (R : Nat → Int) (r : Nat) : Int := mrg (rV_ R r) (rN R) (rK R r)
def rM (R : Nat → Int) (r b : Nat) : Int := mst (rV_ R r) (rP_ R r) (rN R) (rK R r) b
/-- what is so of every election that was told -/
def RV (R : Nat → Int) : Prop := (0 ≤ R 0 ∧ R 0 ≤ 3) ∧ (0 ≤ R 1 ∧ R 1 ≤ 200) ∧ (1 ≤ R 2 ∧ R 2 ≤ 500) ∧ (101 ≤ R 3 ∧ R 3 ≤ 300) ∧ (1 ≤ R 4 ∧ R 4 ≤ 300) ∧ (0 ≤ R 5 ∧ R 5 ≤ 999999) ∧ (0 ≤ R 6 ∧ R 6 ≤ 300) ∧ ∀ r, r < rC R → (2 ≤ R (8 + 2 * r) ∧ R (8 + 2 * r) ≤ 4) ∧ (rY R r = 0 ∨ rY R r = 1) ∧ ∀ b, b < rN R → (-2 ≤ rV_ R r b ∧ rV_ R r b < R (8 + 2 * r)) ∧ (-2 ≤ rP_ R r b ∧ rP_ R r b < R (8 + 2 * r))
theorem RV.c {R : Nat → Int} (h : RV R) : R 0 = rC R ∧ rC R ≤ 3 := by have := h.1; unfold rC; omega
theorem RV.n {R : Nat → Int} (h : RV R) : R 1 = rN R ∧ rN R ≤ 200 := by have := h.2.1; unfold rN; omega
theorem RV.k {R : Nat → Int} (h : RV R) {r : Nat} (hr : r < rC R) : R (8 + 2 * r) = rK R r ∧ 2 ≤ rK R r ∧ rK R r ≤ 4 := by have := (h.2.2.2.2.2.2.2 r hr).1; unfold rK; omega
theorem RV.y {R : Nat → Int} (h : RV R) {r : Nat} (hr : r < rC R) : rY R r = 0 ∨ rY R r = 1 := (h.2.2.2.2.2.2.2 r hr).2.1
theorem RV.w {R : Nat → Int} (h : RV R) {r : Nat} (hr : r < rC R) : rW R r < rK R r := by unfold rW win; exact ldg_lt (h.k hr).2.1
theorem RV.s {R : Nat → Int} (h : RV R) {r : Nat} (hr : r < rC R) : rS R r < rK R r := ldg_lt (h.k hr).2.1
theorem RV.o {R : Nat → Int} (h : RV R) {r : Nat} (hr : r < rC R) : rO R r < rK R r := by unfold rO win; exact ldg_lt (h.k hr).2.1
theorem RV.t {R : Nat → Int} (h : RV R) (r j : Nat) : 0 ≤ rT R r j ∧ rT R r j ≤ 200 := by
  have := h.n
  have := tal_rng (f := rV_ R r) (n := rN R) (b := j)
  unfold rT
  omega
theorem RV.h {R : Nat → Int} (h : RV R) (r j : Nat) : 0 ≤ rH R r j ∧ rH R r j ≤ 200 := by
  have := h.n
  have := tal_rng (f := rP_ R r) (n := rN R) (b := j)
  unfold rH
  omega
/-- the greatest is the greatest -/
theorem ldgGo_max {s : Nat → Int} : ∀ (t k f : Nat), (∀ j, j < k → s j ≤ s f) → ∀ j, j < k + t → s j ≤ s (ldgGo s (-1) t k f)
  | 0, k, f, h => fun j hj => h j (by omega)
  | t + 1, k, f, h => fun j hj => by
    unfold ldgGo
    refine ldgGo_max t (k + 1) _ (fun i hi => ?_) j (by omega)
    have hi2 := h i
    split
    · rename_i q
      by_cases e : i = k
      · rw [e]; exact Int.le_refl _
      · have := hi2 (by omega); omega
    · rename_i q
      by_cases e : i = k
      · rw [e]
        have : ¬ s f < s k := fun z => q ⟨by omega, z⟩
        omega
      · exact hi2 (by omega)
theorem ldg_max {s : Nat → Int} {n j : Nat} (h : j < n) : s j ≤ s (ldg s (-1) n) := by
  unfold ldg
  rw [if_neg (by omega)]
  exact ldgGo_max (n - 1) 1 0 (fun i hi => by rw [show i = 0 by omega]; exact Int.le_refl _) j (by omega)
theorem RV.tw {R : Nat → Int} (_ : RV R) {r j : Nat} (hj : j < rK R r) : rT R r j ≤ rT R r (rW R r) := ldg_max hj
theorem RV.ho {R : Nat → Int} (_ : RV R) {r j : Nat} (hj : j < rK R r) : rH R r j ≤ rH R r (rO R r) := ldg_max hj
theorem RV.g {R : Nat → Int} (h : RV R) {r : Nat} (hr : r < rC R) : 0 ≤ rG R r ∧ rG R r ≤ rN R ∧ rG R r ≤ 200 := by
  have h1 := h.tw (r := r) (h.s hr)
  have h2 := tal_rng (f := rV_ R r) (n := rN R) (b := rW R r)
  have h3 := tal_rng (f := rV_ R r) (n := rN R) (b := rS R r)
  have h4 := h.n
  have e : rG R r = rT R r (rW R r) - rT R r (rS R r) := rfl
  unfold rT at e h1
  omega
theorem RV.m {R : Nat → Int} (_ : RV R) (r b : Nat) : -2 ≤ rM R r b ∧ rM R r b ≤ 2 := slp_rng _ _ _ _
/-- by COMPARE: what a risk is multiplied with, what it is divided by -/
def tms (R : Nat → Int) (r : Nat) (f : Int) : Int := f * R 1 - 50 * rG R r
def bys (R : Nat → Int) (f s : Int) : Int := R 1 * (f - 50 * s)
theorem RV.tm {R : Nat → Int} (h : RV R) {r : Nat} (hr : r < rC R) {f : Int} (h1 : 101 ≤ f) (h2 : f ≤ 300) : 0 ≤ tms R r f ∧ tms R r f ≤ 60000 := by
  have h3 := h.n
  have h4 := h.g hr
  have h5 := mul_bd (v := f) (t := R 1) (by omega) h2 (by omega) (show R 1 ≤ 200 by omega)
  have h6 : 101 * R 1 ≤ f * R 1 := Int.mul_le_mul_of_nonneg_right h1 (by omega)
  unfold tms
  omega
theorem RV.by_ {R : Nat → Int} (h : RV R) {f s : Int} (h1 : 101 ≤ f) (h2 : f ≤ 300) (h5 : -2 ≤ s) (h6 : s ≤ 2) : 0 ≤ bys R f s ∧ bys R f s ≤ 80000 := by
  have h3 := h.n
  exact mul_bd (v := R 1) (t := f - 50 * s) (by omega) (show R 1 ≤ 200 by omega) (by omega) (show f - 50 * s ≤ 400 by omega)
/-- the greatest own risk but the winner's -/
def grt (z : Int) (w : Nat) (own : Nat → Int) : Nat → Int
  | 0 => z
  | n + 1 => if n = w then grt z w own n else max (grt z w own n) (own n)
theorem grt_rng {z : Int} {w : Nat} {own : Nat → Int} {A B : Int} (h1 : A ≤ z) (h2 : z ≤ B) : ∀ n : Nat, (∀ j, j < n → own j ≤ B) → A ≤ grt z w own n ∧ grt z w own n ≤ B
  | 0, _ => ⟨h1, h2⟩
  | n + 1, h => by
    have h3 := grt_rng (w := w) (own := own) h1 h2 n (fun j hj => h j (by omega))
    have h4 := h n (by omega)
    unfold grt
    split <;> omega
theorem grt_congr {z : Int} {w : Nat} {own own' : Nat → Int} : ∀ n : Nat, (∀ j, j < n → j ≠ w → own j = own' j) → grt z w own n = grt z w own' n
  | 0, _ => rfl
  | n + 1, h => by
    have ih := grt_congr (z := z) (w := w) n (fun j hj => h j (by omega))
    unfold grt
    rw [ih]
    split
    · rfl
    · rename_i q; rw [h n (by omega) q]
/-- own risks behind a ballot with a choice, by POLL -/
def stO (R : Nat → Int) (r : Nat) (own : Nat → Int) (ch : Int) (k : Nat) : Int := if k < rK R r ∧ k ≠ rW R r then pol (rT R r) (rW R r) k (own k) ch else own k
/-- a race's risk behind a ballot with a mistake and a choice -/
def stC (R : Nat → Int) (r : Nat) (f : Int) (own : Nat → Int) (cur mi ch : Int) : Int := if rY R r = 0 then sc cur (tms R r f) (bys R f mi) else grt 1 (rW R r) (stO R r own ch) (rK R r)
def goal (R : Nat → Int) : Int := R 2 * 1000000
/-- a race behind k draws of ballots d: own risks, risk, behind how many it was done -/
def rs (R : Nat → Int) (d : Nat → Int) (r : Nat) : Nat → (Nat → Int) × Int × Int
  | 0 => (fun _ => 1000000000, 1000000000, -1)
  | k + 1 => if (rs R d r k).2.2 ≠ -1 then rs R d r k else
      ((if rY R r = 0 then (rs R d r k).1 else stO R r (rs R d r k).1 (rP_ R r (d k).toNat)),
       stC R r (R 3) (rs R d r k).1 (rs R d r k).2.1 (rM R r (d k).toNat) (rP_ R r (d k).toNat),
       if stC R r (R 3) (rs R d r k).1 (rs R d r k).2.1 (rM R r (d k).toNat) (rP_ R r (d k).toNat) ≤ goal R then ((k + 1 : Nat) : Int) else -1)
theorem pol_rng {T : Nat → Int} {w k : Nat} {own ch : Int} (h1 : 1 ≤ own) (h2 : own ≤ 10000000000000) : 1 ≤ pol T w k own ch ∧ pol T w k own ch ≤ 10000000000000 := by
  unfold pol
  split
  · exact sc_rng _ _ _
  · exact ⟨h1, h2⟩
theorem stO_rng {R : Nat → Int} {r : Nat} {own : Nat → Int} {ch : Int} {k : Nat} (h1 : 1 ≤ own k) (h2 : own k ≤ 10000000000000) : 1 ≤ stO R r own ch k ∧ stO R r own ch k ≤ 10000000000000 := by
  unfold stO
  split
  · exact pol_rng h1 h2
  · exact ⟨h1, h2⟩
theorem rs_rng (R : Nat → Int) (d : Nat → Int) (r : Nat) : ∀ k : Nat, (∀ j, 1 ≤ (rs R d r k).1 j ∧ (rs R d r k).1 j ≤ 10000000000000) ∧ (1 ≤ (rs R d r k).2.1 ∧ (rs R d r k).2.1 ≤ 10000000000000) ∧ (-1 ≤ (rs R d r k).2.2 ∧ (rs R d r k).2.2 ≤ k)
  | 0 => ⟨fun _ => ⟨by show (1 : Int) ≤ 1000000000; omega, by show (1000000000 : Int) ≤ 10000000000000; omega⟩, ⟨by show (1 : Int) ≤ 1000000000; omega, by show (1000000000 : Int) ≤ 10000000000000; omega⟩, ⟨by show (-1 : Int) ≤ -1; omega, by show (-1 : Int) ≤ 0; omega⟩⟩
  | k + 1 => by
    have ih := rs_rng R d r k
    unfold rs
    split
    · exact ⟨ih.1, ih.2.1, ih.2.2.1, by have := ih.2.2.2; omega⟩
    · refine ⟨fun j => ?_, ?_, ?_⟩
      · dsimp only
        split
        · exact ih.1 j
        · exact stO_rng (ih.1 j).1 (ih.1 j).2
      · dsimp only
        unfold stC
        split
        · exact sc_rng _ _ _
        · exact grt_rng (by omega) (by omega) _ (fun j _ => (stO_rng (ih.1 j).1 (ih.1 j).2).2)
      · dsimp only
        split <;> omega
theorem rs_done {R : Nat → Int} {d : Nat → Int} {r k : Nat} (h : (rs R d r k).2.2 ≠ -1) : rs R d r (k + 1) = rs R d r k := by
  show (if (rs R d r k).2.2 ≠ -1 then rs R d r k else _) = _
  rw [if_pos h]
theorem rs_go {R : Nat → Int} {d : Nat → Int} {r k : Nat} (h : (rs R d r k).2.2 = -1) : rs R d r (k + 1) = ((if rY R r = 0 then (rs R d r k).1 else stO R r (rs R d r k).1 (rP_ R r (d k).toNat)),
       stC R r (R 3) (rs R d r k).1 (rs R d r k).2.1 (rM R r (d k).toNat) (rP_ R r (d k).toNat),
       if stC R r (R 3) (rs R d r k).1 (rs R d r k).2.1 (rM R r (d k).toNat) (rP_ R r (d k).toNat) ≤ goal R then ((k + 1 : Nat) : Int) else -1) := by
  show (if (rs R d r k).2.2 ≠ -1 then rs R d r k else _) = _
  rw [if_neg (fun q => q h)]
/-- how many races aren't done -/
def pnd (R : Nat → Int) (d : Nat → Int) (k : Nat) : Nat → Nat
  | 0 => 0
  | n + 1 => pnd R d k n + if (rs R d n k).2.2 = -1 then 1 else 0
/-- how many of the first k are unlike all before -/
def unl (d : Nat → Int) : Nat → Int
  | 0 => 0
  | k + 1 => unl d k + if cnt d k (d k) = 0 then 1 else 0
/-- the draws: what stands behind k of them; which ballot comes next -/
def lx (z : Int) : Nat → Int
  | 0 => z
  | k + 1 => wr (wr (lx z k * 1103515245) + 12345)
def dw (R : Nat → Int) (z : Int) (k : Nat) : Int := Int.tmod (ian (iushx (lx z (k + 1)) 16) 32767) (R 1)
/-! where they lie: an election at e, an audit at a -/
def ec (e r : Nat) : Nat := e + 3 + 6 * r
def El (m : am_M) (e : Nat) : Prop := am_obw m e 3 ∧ (m.2.1 e 0 = some (e + 1) ∧ m.2.1 e 1 = some (e + 2)) ∧ (am_arw m (e + 1) 103 3 ∧ am_arw m (e + 2) 100 3) ∧ ∀ r, r < 3 → m.2.1 (e + 1) r = some (ec e r) ∧ Ct m (ec e r)
def Au (m : am_M) (a : Nat) : Prop := am_obw m a 1 ∧ (m.2.1 a 0 = some (a + 1) ∧ m.2.1 a 1 = some (a + 5) ∧ m.2.1 a 2 = some (a + 9) ∧ m.2.1 a 3 = some (a + 10) ∧ m.2.1 a 4 = some (a + 11)) ∧ (am_arw m (a + 1) 104 3 ∧ am_arw m (a + 5) 104 3 ∧ am_arw m (a + 9) 100 3 ∧ am_arw m (a + 10) 100 300 ∧ am_arw m (a + 11) 100 200) ∧ ∀ r, r < 3 → (m.2.1 (a + 1) r = some (a + 2 + r) ∧ m.2.1 (a + 5) r = some (a + 6 + r)) ∧ am_arw m (a + 2 + r) 101 4 ∧ am_arw m (a + 6 + r) 101 301
/-- a contest at c tells of race r of R -/
def CtV (I : Nat → Nat → Int) (c : Nat) (R : Nat → Int) (r : Nat) : Prop := I c 5 = R (8 + 2 * r) ∧ I c 6 = rY R r ∧ I c 7 = rW R r ∧ I c 8 = rO R r ∧ I c 9 = rG R r ∧ (∀ j, j < 4 → I (c + 4) j = rT R r j ∧ I (c + 5) j = rH R r j) ∧ ∀ b, b < rN R → I (c + 1) b = rV_ R r b ∧ I (c + 2) b = rP_ R r b ∧ I (c + 3) b = rM R r b
def ElV (I : Nat → Nat → Int) (e : Nat) (R : Nat → Int) : Prop := I e 2 = R 0 ∧ I e 3 = R 1 ∧ I e 4 = R 5 ∧ I e 5 = R 6 ∧ (I (e + 2) 0 = R 2 ∧ I (e + 2) 1 = R 3 ∧ I (e + 2) 2 = R 4) ∧ ∀ r, r < rC R → CtV I (ec e r) R r
def RcV (I : Nat → Nat → Int) (a : Nat) (R : Nat → Int) (d : Nat → Int) (r ko kd : Nat) : Prop := (∀ j, j < 4 → I (a + 2 + r) j = (rs R d r ko).1 j) ∧ (∀ j, j ≤ ko → I (a + 6 + r) j = (rs R d r j).2.1) ∧ I (a + 9) r = (rs R d r kd).2.2
def AuV (I : Nat → Nat → Int) (a : Nat) (R : Nat → Int) (z : Int) (k : Nat) : Prop := I a 5 = k ∧ I a 6 = unl (dw R z) k ∧ I a 7 = pnd R (dw R z) k (rC R) ∧ I a 8 = lx z k ∧ (∀ r, r < rC R → RcV I a R (dw R z) r k k) ∧ (∀ j, j < k → I (a + 10) j = dw R z j) ∧ ∀ b : Nat, b < 200 → I (a + 11) b = cnt (dw R z) k b
