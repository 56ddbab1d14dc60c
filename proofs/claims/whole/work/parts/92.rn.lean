/-! HOW MANY DRAWS ARE NEEDED: both ways of reckoning are one -/
theorem ddn_cut {t b v g : Int} : ∀ f k f' : Nat, f' ≤ f → ddn t b v g f' k = if ddn t b v g f k ≠ -1 ∧ ddn t b v g f k < ((k + f' : Nat) : Int) then ddn t b v g f k else -1
  | 0, k, f', h => by
    have e : f' = 0 := by omega
    subst e
    rw [if_neg (fun z => z.1 rfl)]; rfl
  | f + 1, k, 0, h => by
    have h1 : -1 ≤ ddn t b v g (f + 1) k ∧ (ddn t b v g (f + 1) k = -1 ∨ (k : Int) ≤ ddn t b v g (f + 1) k) := by
      have key : ∀ f k : Nat, ddn t b v g f k = -1 ∨ (k : Int) ≤ ddn t b v g f k := fun f => by
        induction f with
        | zero => intro k; exact Or.inl rfl
        | succ f ih =>
          intro k
          unfold ddn
          split
          · exact Or.inr (Int.le_refl _)
          · have := ih (k + 1); omega
      have := key (f + 1) k
      omega
    rw [if_neg (fun z => by omega)]; rfl
  | f + 1, k, f' + 1, h => by
    have ih := ddn_cut (t := t) (b := b) (v := v) (g := g) f (k + 1) f' (by omega)
    have e1 : ddn t b v g (f' + 1) k = if scn t b v k ≤ g then (k : Int) else ddn t b v g f' (k + 1) := rfl
    have e2 : ddn t b v g (f + 1) k = if scn t b v k ≤ g then (k : Int) else ddn t b v g f (k + 1) := rfl
    rw [e1, e2]
    by_cases q : scn t b v k ≤ g
    · rw [if_pos q, if_pos q, if_pos ⟨by omega, by omega⟩]
    · rw [if_neg q, if_neg q, ih, show k + 1 + f' = k + (f' + 1) by omega]
/-- where it comes down to stay, the first time tells all -/
theorem ddn_iff {t b v g : Int} (hm : ∀ c, scn t b v c ≤ g → scn t b v (c + 1) ≤ g) : ∀ f k c : Nat, k ≤ c → c < k + f → (scn t b v c ≤ g ↔ ddn t b v g f k ≠ -1 ∧ ddn t b v g f k ≤ c)
  | 0, k, c, h1, h2 => by omega
  | f + 1, k, c, h1, h2 => by
    have e2 : ddn t b v g (f + 1) k = if scn t b v k ≤ g then (k : Int) else ddn t b v g f (k + 1) := rfl
    rw [e2]
    by_cases q : scn t b v k ≤ g
    · rw [if_pos q]
      have up : ∀ n, scn t b v (k + n) ≤ g := fun n => by
        induction n with
        | zero => exact q
        | succ n ih => exact hm _ ih
      have := up (c - k)
      rw [show k + (c - k) = c by omega] at this
      exact ⟨fun _ => ⟨by omega, by omega⟩, fun _ => this⟩
    · rw [if_neg q]
      by_cases e : c = k
      · subst e
        have key : ∀ f k : Nat, ddn t b v g f k = -1 ∨ (k : Int) ≤ ddn t b v g f k := fun f => by
          induction f with
          | zero => intro k; exact Or.inl rfl
          | succ f ih =>
            intro k
            unfold ddn
            split
            · exact Or.inr (Int.le_refl _)
            · have := ih (k + 1); omega
        have := key f (c + 1)
        exact ⟨fun z => absurd z q, fun z => by omega⟩
      · exact ddn_iff hm f (k + 1) c (by omega) (by omega)
theorem ngo_iff {F : Nat → Int} {w : Nat} {c : Int} (hc : 0 ≤ c) (hF : ∀ j, -1 ≤ F j) : ∀ n, (ngo F w n ≠ -1 ∧ ngo F w n ≤ c) ↔ ∀ k, k < n → k ≠ w → F k ≠ -1 ∧ F k ≤ c
  | 0 => ⟨fun _ k hk => absurd hk (by omega), fun _ => ⟨by unfold ngo; omega, by unfold ngo; omega⟩⟩
  | n + 1 => by
    have ih := ngo_iff (w := w) hc hF n
    have hn := hF n
    have e : ngo F w (n + 1) = if ngo F w n = -1 then -1 else if n = w then ngo F w n else if F n = -1 then -1 else max (ngo F w n) (F n) := rfl
    rw [e]
    constructor
    · intro h k hk hkw
      by_cases q : ngo F w n = -1
      · rw [if_pos q] at h; exact absurd rfl h.1
      · rw [if_neg q] at h
        by_cases qw : n = w
        · rw [if_pos qw] at h
          exact ih.mp h k (by omega) hkw
        · rw [if_neg qw] at h
          by_cases qf : F n = -1
          · rw [if_pos qf] at h; exact absurd rfl h.1
          · rw [if_neg qf] at h
            by_cases ek : k = n
            · subst ek; exact ⟨qf, by omega⟩
            · exact ih.mp ⟨q, by omega⟩ k (by omega) hkw
    · intro h
      have h1 := ih.mpr (fun k hk hkw => h k (by omega) hkw)
      rw [if_neg h1.1]
      by_cases qw : n = w
      · rw [if_pos qw]; exact h1
      · have h2 := h n (by omega) qw
        rw [if_neg qw, if_neg h2.1]
        omega
theorem grt_iff {w : Nat} {own : Nat → Int} {g : Int} (hg : 0 ≤ g) : ∀ n, grt 0 w own n ≤ g ↔ ∀ k, k < n → k ≠ w → own k ≤ g
  | 0 => ⟨fun _ k hk => absurd hk (by omega), fun _ => hg⟩
  | n + 1 => by
    have ih := grt_iff (w := w) (own := own) hg n
    unfold grt
    by_cases q : n = w
    · rw [if_pos q]
      exact ⟨fun h k hk hkw => ih.mp h k (by omega) hkw, fun h => ih.mpr (fun k hk hkw => h k (by omega) hkw)⟩
    · rw [if_neg q]
      constructor
      · intro h k hk hkw
        by_cases e : k = n
        · subst e; omega
        · exact ih.mp (by omega) k (by omega) hkw
      · intro h
        have h1 := ih.mpr (fun k hk hkw => h k (by omega) hkw)
        have h2 := h n (by omega) q
        omega
theorem sc_down {v t b : Int} (h1 : 1 ≤ v) (ht : 0 ≤ t) (hb : 0 < b) (h : t ≤ b) : sc v t b ≤ v := by
  unfold sc
  rw [if_neg (by omega)]
  have hm : v * t ≤ v * b := Int.mul_le_mul_of_nonneg_left h (by omega)
  have hq : (v * t + b - 1) / b < v + 1 := Int.ediv_lt_of_lt_mul hb (by rw [Int.add_mul]; omega)
  omega
/-- all that are not the winner's: at the goal behind c of them, or not -/
theorem dec_all {w K F c : Nat} {t v : Nat → Int} {b g : Int} (hg : 0 ≤ g) (hc : c < F) (hm : ∀ k, k < K → k ≠ w → ∀ c, scn (t k) b (v k) c ≤ g → scn (t k) b (v k) (c + 1) ≤ g) : grt 0 w (fun k => scn (t k) b (v k) c) K ≤ g ↔ ngo (fun k => ddn (t k) b (v k) g F 0) w K ≠ -1 ∧ ngo (fun k => ddn (t k) b (v k) g F 0) w K ≤ c := by
  rw [grt_iff hg, ngo_iff (by omega) (fun j => (ddn_rng F 0).1)]
  constructor
  · intro h k hk hkw
    exact (ddn_iff (hm k hk hkw) F 0 c (by omega) (by omega)).mp (h k hk hkw)
  · intro h k hk hkw
    exact (ddn_iff (hm k hk hkw) F 0 c (by omega) (by omega)).mpr (h k hk hkw)
theorem ngo_lt {F : Nat → Int} {w : Nat} {B : Int} (hB : 0 < B) (h : ∀ j, F j < B) : ∀ n, ngo F w n < B
  | 0 => hB
  | n + 1 => by
    have ih := ngo_lt (w := w) hB h n
    have := h n
    unfold ngo
    repeat' split
    all_goals omega
theorem ldgGo_ne {s : Nat → Int} {but : Int} : ∀ (t k f : Nat), (f : Int) ≠ but → ((ldgGo s but t k f : Nat) : Int) ≠ but
  | 0, k, f, h => h
  | t + 1, k, f, h => by
    unfold ldgGo
    by_cases q : (k : Int) ≠ but ∧ s f < s k
    · rw [if_pos q]; exact ldgGo_ne t (k + 1) k q.1
    · rw [if_neg q]; exact ldgGo_ne t (k + 1) f h
theorem rS_ne {R : Nat → Int} {r : Nat} : rS R r ≠ rW R r := by
  have h : ((ldg (tal (rV_ R r) (rN R)) ((rW R r : Nat) : Int) (rK R r) : Nat) : Int) ≠ ((rW R r : Nat) : Int) := by
    unfold ldg
    by_cases q : ((rW R r : Nat) : Int) = 0
    · rw [if_pos q]; exact ldgGo_ne _ _ _ (by omega)
    · rw [if_neg q]; exact ldgGo_ne _ _ _ (by omega)
  have e : rS R r = ldg (tal (rV_ R r) (rN R)) ((rW R r : Nat) : Int) (rK R r) := rfl
  rw [e]
  omega
theorem goal_rng {R : Nat → Int} (hR : RV R) : 1000000 ≤ goal R ∧ goal R ≤ 500000000 := by
  have := hR.2.2.1
  unfold goal
  omega
/-- what is supposed lies above the goal -/
theorem sR_big {R : Nat → Int} {r : Nat} {f : Int} {k i j : Nat} (hR : RV R) (hr : r < rC R) (hf : 101 ≤ f) (hf2 : f ≤ 300) (hk : k < rK R r) : 1000000000 ≤ sR R r f k i j := by
  have hg := hR.g hr
  have hn := hR.n
  have h0 : ∀ s : Int, 1 ≤ s → s ≤ 2 → bys R f s ≤ 0 ∨ bys R f s ≤ tms R r f := fun s a b => by
    right
    unfold bys tms
    have e : R 1 * (f - 50 * s) = f * R 1 - 50 * (s * R 1) := by rw [Int.mul_sub, Int.mul_comm (R 1) f, Int.mul_comm (R 1) (50 * s), Int.mul_assoc]
    rw [e]
    have h1 : 1 * R 1 ≤ s * R 1 := Int.mul_le_mul_of_nonneg_right a (by omega)
    omega
  have a := scn_rng (t := tms R r f) (b := bys R f 2) (v := 1000000000) (by omega) (by omega) j
  unfold sR
  by_cases y : rY R r = 0
  · rw [if_pos y]
    have h1 := scn_up (v := 1000000000) (by omega) (by omega) (h0 2 (by omega) (by omega)) j
    have h2 := scn_up a.1 a.2 (h0 1 (by omega) (by omega)) i
    omega
  · rw [if_neg y]
    by_cases e : k = rS R r
    · rw [if_pos e]
      have t1 := hR.tw (r := r) hk
      exact scn_up (by omega) (by omega) (Or.inr (by omega)) j
    · rw [if_neg e]; omega
/-- with less room: the same, or none -/
theorem neD_room {R : Nat → Int} {r i j : Nat} {f N : Int} (hR : RV R) (hr : r < rC R) (hy : rY R r = 0) (hf : 101 ≤ f) (hf2 : f ≤ 300) (hi : i ≤ 99) (hj : j ≤ 99) (hN : -1 ≤ N) (hN2 : N ≤ 5000) : neD R r f i j N = if neD R r f i j 5000 ≠ -1 ∧ neD R r f i j 5000 ≤ N then neD R r f i j 5000 else -1 := by
  have hK := hR.k hr
  have hb := sR_big (R := R) (r := r) (f := f) (k := 0) (i := i) (j := j) hR hr hf hf2 (by omega)
  have hg := goal_rng hR
  have hcut := ddn_cut (t := tB R r f 0) (b := bC R r f) (v := sR R r f 0 i j) (g := goal R) (((5000 : Int) - i - j).toNat + 1) 0 ((N - i - j).toNat + 1) (by omega)
  have hrng := ddn_rng (t := tB R r f 0) (b := bC R r f) (v := sR R r f 0 i j) (g := goal R) (((5000 : Int) - i - j).toNat + 1) 0
  have hz : ddn (tB R r f 0) (bC R r f) (sR R r f 0 i j) (goal R) (((5000 : Int) - i - j).toNat + 1) 0 ≠ 0 := by
    have key : ∀ f' : Nat, ddn (tB R r f 0) (bC R r f) (sR R r f 0 i j) (goal R) f' 1 ≠ 0 := fun f' => by
      have k2 : ∀ f' k : Nat, 1 ≤ k → ddn (tB R r f 0) (bC R r f) (sR R r f 0 i j) (goal R) f' k ≠ 0 := fun f' => by
        induction f' with
        | zero => intro k hk; unfold ddn; omega
        | succ f' ih =>
          intro k hk
          unfold ddn
          split
          · omega
          · exact ih (k + 1) (by omega)
      exact k2 f' 1 (by omega)
    unfold ddn
    rw [if_neg (show ¬ scn (tB R r f 0) (bC R r f) (sR R r f 0 i j) 0 ≤ goal R by show ¬ sR R r f 0 i j ≤ goal R; omega)]
    exact key _
  have e1 : neD0 R r f i j N = ddn (tB R r f 0) (bC R r f) (sR R r f 0 i j) (goal R) ((N - i - j).toNat + 1) 0 := by unfold neD0 ndF cD dd; rw [if_pos hy]
  have e2 : neD0 R r f i j 5000 = ddn (tB R r f 0) (bC R r f) (sR R r f 0 i j) (goal R) (((5000 : Int) - i - j).toNat + 1) 0 := by unfold neD0 ndF cD dd; rw [if_pos hy]
  rw [← e1, ← e2] at hcut
  rw [← e2] at hz hrng
  unfold neD
  generalize neD0 R r f i j 5000 = A at *
  by_cases q : A = -1
  · rw [if_neg (fun z => z.1 q)] at hcut
    rw [hcut, if_pos rfl, if_pos q, if_neg (fun z => z.1 rfl)]
  · by_cases q2 : (i : Int) + j + A ≤ N
    · rw [if_pos ⟨q, by omega⟩] at hcut
      rw [hcut, if_neg q, if_pos ⟨by omega, q2⟩]
    · rw [if_neg (fun z => by omega)] at hcut
      rw [hcut, if_pos rfl, if_neg q, if_neg (fun z => q2 z.2)]
/-- the reference's way to the best factor -/
def rbo (its : Nat → Int) : Nat → Int × Int
  | 0 => (-1, 0)
  | n + 1 => if its n = -1 then rbo its n else if (rbo its n).1 = -1 ∨ its n < (rbo its n).2 then (((101 + n : Nat) : Int), its n) else rbo its n
theorem rbo_rng {its : Nat → Int} (h : ∀ n, its n = -1 ∨ 0 ≤ its n) : ∀ n, -1 ≤ (rbo its n).1 ∧ 0 ≤ (rbo its n).2
  | 0 => by unfold rbo; dsimp only; omega
  | n + 1 => by
    have ih := rbo_rng h n
    have hn := h n
    unfold rbo
    by_cases q : its n = -1
    · rw [if_pos q]; exact ih
    · rw [if_neg q]
      split
      · dsimp only; omega
      · exact ih
theorem bfo_rbo {R : Nat → Int} {r i j : Nat} (hR : RV R) (hr : r < rC R) (hy : rY R r = 0) (hi : i ≤ 99) (hj : j ≤ 99) : ∀ n, n ≤ 200 → (bfo R r i j n).1 = (rbo (fun n => neD R r ((101 + n : Nat) : Int) i j 5000) n).1 ∧ (bfo R r i j n).2 = if (rbo (fun n => neD R r ((101 + n : Nat) : Int) i j 5000) n).1 = -1 then 5000 else (rbo (fun n => neD R r ((101 + n : Nat) : Int) i j 5000) n).2 - 1
  | 0, _ => ⟨rfl, rfl⟩
  | n + 1, h => by
    obtain ⟨h1, h2⟩ := bfo_rbo hR hr hy hi hj n (by omega)
    have hb := bfo_rng hi hj hR hr n
    have hroom := neD_room (N := (bfo R r i j n).2) hR hr hy (f := ((101 + n : Nat) : Int)) (by omega) (by omega) hi hj hb.1 hb.2.1
    have hge := neD_rng (R := R) (r := r) (i := i) (j := j) (f := ((101 + n : Nat) : Int)) (N := 5000) (by omega) hi hj hR hr
    have hle5 := neD_room (N := 5000) hR hr hy (f := ((101 + n : Nat) : Int)) (by omega) (by omega) hi hj (by omega) (by omega)
    have hr1 := rbo_rng (its := fun n => neD R r ((101 + n : Nat) : Int) i j 5000) (fun n => neD_ge) n
    have e1 : bfo R r i j (n + 1) = if neD R r ((101 + n : Nat) : Int) i j (bfo R r i j n).2 = -1 then bfo R r i j n else (((101 + n : Nat) : Int), neD R r ((101 + n : Nat) : Int) i j (bfo R r i j n).2 - 1) := rfl
    have e2 : rbo (fun n => neD R r ((101 + n : Nat) : Int) i j 5000) (n + 1) = if neD R r ((101 + n : Nat) : Int) i j 5000 = -1 then rbo (fun n => neD R r ((101 + n : Nat) : Int) i j 5000) n else if (rbo (fun n => neD R r ((101 + n : Nat) : Int) i j 5000) n).1 = -1 ∨ neD R r ((101 + n : Nat) : Int) i j 5000 < (rbo (fun n => neD R r ((101 + n : Nat) : Int) i j 5000) n).2 then (((101 + n : Nat) : Int), neD R r ((101 + n : Nat) : Int) i j 5000) else rbo (fun n => neD R r ((101 + n : Nat) : Int) i j 5000) n := rfl
    generalize neD R r ((101 + n : Nat) : Int) i j 5000 = A at *
    generalize rbo (fun n => neD R r ((101 + n : Nat) : Int) i j 5000) n = B at *
    by_cases q : A = -1
    · rw [if_neg (fun z => z.1 q)] at hroom
      rw [e1, e2, hroom, if_pos rfl, if_pos q]
      exact ⟨h1, h2⟩
    · have hA5 : A ≤ 5000 := by
        by_cases z : A ≠ -1 ∧ A ≤ 5000
        · exact z.2
        · rw [if_neg z] at hle5; exact absurd hle5 q
      by_cases q2 : B.1 = -1 ∨ A < B.2
      · have hle : A ≤ (bfo R r i j n).2 := by
          rw [h2]
          by_cases z : B.1 = -1
          · rw [if_pos z]; exact hA5
          · rw [if_neg z]; omega
        rw [if_pos ⟨q, hle⟩] at hroom
        rw [e1, e2, hroom, if_neg q, if_neg q, if_pos q2]
        refine ⟨rfl, ?_⟩
        dsimp only
        rw [if_neg (by omega)]
      · have hle : ¬ A ≤ (bfo R r i j n).2 := by
          rw [h2, if_neg (fun z => q2 (Or.inl z))]
          omega
        rw [if_neg (fun z => hle z.2)] at hroom
        rw [e1, e2, hroom, if_pos rfl, if_neg q, if_neg q2]
        exact ⟨h1, h2⟩
theorem neD_poll {R : Nat → Int} {r i j : Nat} {f f' N : Int} (hy : rY R r ≠ 0) : neD R r f i j N = neD R r f' i j N := by
  have e : ndF R r f i j N = ndF R r f' i j N := by
    funext k
    unfold ndF cD tB bC sR
    rw [if_neg hy, if_neg hy, if_neg hy, if_neg hy, if_neg hy, if_neg hy]
  unfold neD neD0
  rw [if_neg hy, if_neg hy, e]
theorem rbo_const {its : Nat → Int} {A : Int} (h : ∀ n, its n = A) : ∀ n, rbo its (n + 1) = if A = -1 then (-1, 0) else (101, A)
  | 0 => by
    have e : rbo its (0 + 1) = if its 0 = -1 then (-1, 0) else if (-1 : Int) = -1 ∨ its 0 < 0 then (((101 + 0 : Nat) : Int), its 0) else (-1, 0) := rfl
    rw [e, h 0]
    by_cases q : A = -1
    · rw [if_pos q, if_pos q]
    · rw [if_neg q, if_neg q, if_pos (Or.inl rfl)]; rfl
  | n + 1 => by
    have ih := rbo_const h n
    have e : rbo its (n + 1 + 1) = if its (n + 1) = -1 then rbo its (n + 1) else if (rbo its (n + 1)).1 = -1 ∨ its (n + 1) < (rbo its (n + 1)).2 then (((101 + (n + 1) : Nat) : Int), its (n + 1)) else rbo its (n + 1) := rfl
    rw [e, h (n + 1), ih]
    by_cases q : A = -1
    · rw [if_pos q, if_pos q]
    · rw [if_neg q, if_neg q, if_neg]
      dsimp only
      omega
/-- what bestFactor tells -/
theorem best_same {R : Nat → Int} {r i j : Nat} (hR : RV R) (hr : r < rC R) (hi : i ≤ 99) (hj : j ≤ 99) : (rbo (fun n => neD R r ((101 + n : Nat) : Int) i j 5000) 200).1 = (bfo R r i j (bfN R r)).1 := by
  by_cases hy : rY R r = 0
  · unfold bfN
    rw [if_pos hy]
    exact (bfo_rbo hR hr hy hi hj 200 (by omega)).1.symm
  · unfold bfN
    rw [if_neg hy, rbo_const (A := neD R r 101 i j 5000) (fun n => neD_poll hy) 199]
    have e : bfo R r i j 1 = if neD R r ((101 + 0 : Nat) : Int) i j 5000 = -1 then (-1, 5000) else (((101 + 0 : Nat) : Int), neD R r ((101 + 0 : Nat) : Int) i j 5000 - 1) := rfl
    rw [e]
    have e0 : ((101 + 0 : Nat) : Int) = 101 := rfl
    rw [e0]
    by_cases q : neD R r 101 i j 5000 = -1
    · rw [if_pos q, if_pos q]
    · rw [if_neg q, if_neg q]
