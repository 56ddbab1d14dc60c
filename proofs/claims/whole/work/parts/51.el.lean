/-! ELECTIONS: reckoning all, copying, changing -/
theorem tal_congr {f g : Nat → Int} {n b : Nat} (h : ∀ j, j < n → f j = g j) : tal f n b = tal g n b := cnt_congr n h
theorem win_congr {f g : Nat → Int} {n K : Nat} (hK : 2 ≤ K) (h : ∀ j, j < n → f j = g j) : win f n K = win g n K := by
  unfold win
  exact ldg_congr hK fun j _ => tal_congr h
theorem sec_congr {f g : Nat → Int} {n K : Nat} (hK : 2 ≤ K) (h : ∀ j, j < n → f j = g j) : sec f n K = sec g n K := by
  unfold sec
  rw [win_congr hK h]
  exact ldg_congr hK fun j _ => tal_congr h
theorem mrg_congr {f g : Nat → Int} {n K : Nat} (hK : 2 ≤ K) (h : ∀ j, j < n → f j = g j) : mrg f n K = mrg g n K := by
  unfold mrg
  rw [win_congr hK h, sec_congr hK h, tal_congr h, tal_congr h]
theorem CtV.of {I : Nat → Nat → Int} {c : Nat} {R : Nat → Int} {r : Nat} (hR : RV R) (hr : r < rC R) (h5 : I c 5 = R (8 + 2 * r)) (h6 : I c 6 = rY R r) (h : ∀ b, b < rN R → I (c + 1) b = rV_ R r b ∧ I (c + 2) b = rP_ R r b) (k : Rkd I c (rN R) (rK R r)) : CtV I c R r := by
  have hK := (hR.k hr).2.1
  have a1 : ∀ b, b < rN R → I (c + 1) b = rV_ R r b := fun b hb => (h b hb).1
  have a2 : ∀ b, b < rN R → I (c + 2) b = rP_ R r b := fun b hb => (h b hb).2
  obtain ⟨k1, k2, k3, k4, k5, k6⟩ := k
  refine ⟨h5, h6, ?_, ?_, ?_, fun j hj => ⟨?_, ?_⟩, fun b hb => ⟨a1 b hb, a2 b hb, ?_⟩⟩
  · rw [k3, win_congr hK a1]; rfl
  · rw [k4, win_congr hK a2]; rfl
  · rw [k5, mrg_congr hK a1]; rfl
  · rw [k1 j hj, tal_congr a1]; rfl
  · rw [k2 j hj, tal_congr a2]; rfl
  · rw [k6 b hb]
    unfold rM mst
    rw [win_congr hK a1, a1 b hb, a2 b hb]
theorem Rkd.same {I I' : Nat → Nat → Int} {c n K : Nat} (h : Rkd I c n K) (hs : ∀ x, c ≤ x → x < c + 6 → I' x = I x) : Rkd I' c n K := by
  unfold Rkd at h ⊢
  rw [hs c (by omega) (by omega), hs (c + 1) (by omega) (by omega), hs (c + 2) (by omega) (by omega), hs (c + 3) (by omega) (by omega), hs (c + 4) (by omega) (by omega), hs (c + 5) (by omega) (by omega)]
  exact h
theorem CtV.same {I I' : Nat → Nat → Int} {c : Nat} {R : Nat → Int} {r : Nat} (h : CtV I c R r) (hs : ∀ x, c ≤ x → x < c + 6 → I' x = I x) : CtV I' c R r := by
  unfold CtV at h ⊢
  rw [hs c (by omega) (by omega), hs (c + 1) (by omega) (by omega), hs (c + 2) (by omega) (by omega), hs (c + 3) (by omega) (by omega), hs (c + 4) (by omega) (by omega), hs (c + 5) (by omega) (by omega)]
  exact h
theorem cpI_row {I : Nat → Nat → Int} {r0 sp r1 dp n x : Nat} (h : x ≠ r1) : cpI I r0 sp r1 dp n x = I x := funext fun _ => if_neg fun q => h q.1
theorem cpI_at {I : Nat → Nat → Int} {r0 r1 n b : Nat} (h : b < n) : cpI I r0 0 r1 0 n r1 b = I r0 b := by
  unfold cpI
  rw [if_pos ⟨rfl, by omega, by omega⟩]
  rw [Nat.sub_zero, Nat.zero_add]
/-- a contest copied -/
theorem ct_copyC {G : am_G} {dp : Nat} {Q : am_Q} {c o : Nat} {R : Nat → Int} {r : Nat} {Z : (Nat → Nat → Option Nat) × (Nat → Nat × Nat) × Nat × Bool} {I : Nat → Nat → Int} (hd : 4 ≤ dp) (hz : Z.2.2.2 = false) (hc : Ct (I, Z) c) (ho : Ct (I, Z) o) (hs : c + 6 ≤ o ∨ o + 6 ≤ c) (hv : CtV I o R r) (hR : RV R) (hr : r < rC R) (h : ∀ I' : Nat → Nat → Int, (∀ x, x < c ∨ c + 6 ≤ x → I' x = I x) → CtV I' c R r → Q (.inl none) (I', Z)) : T G dp 0 0 M2_copy [rV (some c), rV (some o), iV (rN R)] (I, Z) Q := by
  have hK := hR.k hr
  have hN := hR.n
  refine T2_copy (s2_copy_0 (p1 := o + 1) (p2 := c + 1) (p3 := o + 2) (p4 := c + 2) (n_p1 := 200) (n_p2 := 200) (n_p3 := 200) (n_p4 := 200) (by omega) (am_ow ho.1) ho.2.1.1 hc.2.1.1 hz (am_rw ho.2.2.1) hc.2.2.1 (by omega) ho.2.1.2.1 hc.2.1.2.1 (am_rw ho.2.2.2.1) hc.2.2.2.1 (by omega) hc.1 (fun Q' hK' => ?_) )
  dsimp only
  generalize hJ : u2 (u2 (cpI (cpI I (o + 1) (Int.toNat 0) (c + 1) (Int.toNat 0) (Int.toNat 200)) (o + 2) (Int.toNat 0) (c + 2) (Int.toNat 0) (Int.toNat 200)) c 5 _) c 6 _ = J
  have e1 : ∀ x, x ≠ c → x ≠ c + 1 → x ≠ c + 2 → J x = I x := fun x q1 q2 q3 => by rw [← hJ, u2r q1, u2r q1, cpI_row q3, cpI_row q2]
  have v1 : ∀ b, b < 200 → J (c + 1) b = I (o + 1) b := fun b hb => by rw [← hJ, u2r (by omega), u2r (by omega), cpI_row (by omega)]; exact cpI_at hb
  have v2 : ∀ b, b < 200 → J (c + 2) b = I (o + 2) b := fun b hb => by
    rw [← hJ, u2r (by omega), u2r (by omega)]
    refine (cpI_at hb).trans ?_
    rw [cpI_row (by omega)]
  have f5 : J c 5 = I o 5 := by rw [← hJ, u2n (by omega), u2_at, cpI_row (by omega), cpI_row (by omega)]
  have f6 : J c 6 = I o 6 := by rw [← hJ, u2_at, u2r (by omega), cpI_row (by omega), cpI_row (by omega)]
  refine ct_reckon (K := rK R r) (by omega) hc (by dsimp only; rw [f5, hv.1]; exact hK.1) hK.2.1 hK.2.2 hN.2 (fun I' g1 g2 g3 => hK' _ (s2_copy_53 (h I' (fun x hx => ?_) (CtV.of hR hr ?_ ?_ (fun b hb => ⟨?_, ?_⟩) g3))))
  · rw [g1 x (by omega) (by omega) (by omega) (by omega)]; exact e1 x (by omega) (by omega) (by omega)
  · rw [g2 5 (by omega)]; dsimp only; rw [f5]; exact hv.1
  · rw [g2 6 (by omega)]; dsimp only; rw [f6]; exact hv.2.1
  · rw [g1 (c + 1) (by omega) (by omega) (by omega) (by omega)]; dsimp only; rw [v1 b (by omega)]; exact (hv.2.2.2.2.2.2 b hb).1
  · rw [g1 (c + 2) (by omega) (by omega) (by omega) (by omega)]; dsimp only; rw [v2 b (by omega)]; exact (hv.2.2.2.2.2.2 b hb).2.1
