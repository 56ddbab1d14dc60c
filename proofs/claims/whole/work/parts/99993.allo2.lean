/-! NEW ROWS OF REFERENCES; references laid into them -/
theorem X_newQ {G : am_G} {d a b : Nat} {M : am_Me} {pc : Nat} {L : List (Option am_V)} {st : List am_V} {m : am_M} {Q : am_Q} {idx n : Nat} {z : Int} (hd : decode M.2.1 pc = .ok (.anewarray idx, 3)) (hcl : Cond.classLink M.2.2.2.2.1 idx "DrawnBallots$Contest" ∈ lw_tbl) (hov : Cond.arrayOver (.object "DrawnBallots$Contest") ∈ lw_tbl) (hz : z = n) (hn : n ≤ 20000) (hf : am_fresh m) (ha : 1 ≤ a) (hb : n ≤ b) (k : X G d (a - 1) (b - n) M (pc + 3) L (rV (some m.2.2.2.1) :: st) (am_al m 103 n) Q) : X G d a b M pc L (iV z :: st) m Q := by
  subst hz
  intro hG p e R s mid args below meth c H locs cells slots mc ms ls hI hH hL hS
  have hW := hI.2.2.2.2.2.2.2.2.1
  have hK := am_K hG hW
  have hr := hI.2.2.2.2.2.2.2.2.2.2.2
  have hsz := am_cnt hH hf
  have hz32 : ¬ Int32.ofInt (n : Int) < 0 ∧ (Int32.ofInt (n : Int)).toNatClampNeg = n := by
    refine ⟨fun q => ?_, by rw [o32_cl (by omega) (by omega)]; omega⟩
    have := (o32_lt (x := (n : Int)) (y := 0) ⟨by omega, by omega⟩ ⟨by omega, by omega⟩).mp q
    omega
  refine W.anew hI.1 hI.2.1 hI.2.2.2.2.2.2.2.1 (am_word hG hW hcl rfl args) ((va_AO.moved hW.alike (va_AO.of (hG.1 _ hov))).use) rfl hd rfl hz32.1 (by rw [hz32.2]; omega) (by omega) (by rw [hz32.2]; omega) fun cA kA comp f1 f2 f3 f4 => ?_
  rw [hz32.2]
  generalize hH1 : H.push ({ cls := cA, slots := Array.replicate n .null, vm := .none } : Cell) = H1
  have z1 : H1.size = H.size + 1 := by rw [← hH1, Array.size_push]
  have e1 : H1[H.size]? = some (arrV cA n (fun _ => .null)) := by rw [← hH1, Array.getElem?_push_size, ← arrV_new]
  have o1 : ∀ q : Nat, q < H.size → H1[q]? = H[q]? := fun q hq => by rw [← hH1, Array.getElem?_push, if_neg (Nat.ne_of_lt hq)]
  obtain ⟨kA', comp', -, -, -, g4⟩ := (hK.2 3 _ rfl).2
  have hc : cA = G.2.2.2.2.2 103 := Option.some.inj (f1.symm.trans g4)
  subst hc
  have hHH : am_HR G (am_al m 103 n) H1 := am_grow hH hf (by omega) (by omega) z1 o1 (by
    have e9 : (am_al m 103 n).2.2.1 m.2.2.2.1 = (103, n) := if_pos rfl
    have zP : ∀ j, (am_al m 103 n).2.1 m.2.2.2.1 j = none := hf.2.2
    rw [am_e_q e9]
    show H1[am_ad G m.2.2.2.1]? = _
    rw [← hsz, e1]
    show some (arrV (G.2.2.2.2.2 103) n (fun _ => Value.null)) = some (arrV (G.2.2.2.2.2 103) n (fun j => va_rf (((am_al m 103 n).2.1 m.2.2.2.1 j).map (am_ad G))))
    rw [show (fun j => va_rf (((am_al m 103 n).2.1 m.2.2.2.1 j).map (am_ad G))) = fun _ => Value.null from funext fun j => by rw [zP j]; rfl])
  have k := k hG p e R s mid args below meth c H1 locs (cells + 1) (slots + n) mc ms ls (am_InG hI (by omega) ha hb) hHH hL (Xs1 (v := rV (some m.2.2.2.1)) trivial (Xst hS))
  rw [hsz]
  exact k
theorem X_aast {G : am_G} {d a b : Nat} {M : am_Me} {pc : Nat} {L : List (Option am_V)} {st : List am_V} {m : am_M} {Q : am_Q} {r n v : Nat} {z : Int} (hd : decode M.2.1 pc = .ok (.aastore, 1)) (hr : am_arw m r 103 n) (hv : am_ob m v 2) (h0 : 0 ≤ z) (h1 : z < n) (kk : X G d a b M (pc + 1) L st (am_wP m r z.toNat (some v)) Q) : X G d a b M pc L (rV (some v) :: iV z :: rV (some r) :: st) m Q := by
  intro hG p e R s mid args below meth c H locs cells slots mc ms ls hI hH hL hS
  have hn := am_wl hH.1 (am_rw hr)
  have hat := hH.2.1 r hr.2.2 hr.1
  rw [am_e_q hr.2.1] at hat
  have hK := am_K hG hI.2.2.2.2.2.2.2.2.1
  have hcl : vwCl[2]? = some (RX2, TX2, 10) := rfl
  have hav := hH.2.1 v hv.2.2 hv.1
  rw [am_e_ob hv.2.1 (by decide)] at hav
  obtain ⟨r', hr', cellV, g1, g2, g3, -⟩ := hav
  have hcls := (hK.1 2 _ hcl).2
  obtain ⟨kA, comp, k1, k2, k3, -⟩ := (hK.2 3 _ rfl).2
  have hcomp : comp = G.2.2.2.1.1 2 := Option.some.inj (k3.symm.trans hcls.1)
  subst hcomp
  obtain ⟨kC, hkC, -⟩ := hcls.2
  have hin := o32_in h0 h1 hn
  refine W.aast hI.1 hI.2.1 hat (fun q h => by cases h) (fun h => by cases h) k1 k2 rfl hkC ⟨fun q => hin (Or.inl q), by show _ < (arrV _ _ _).slots.size; rw [arrV_size]; exact Nat.not_le.mp fun q => hin (Or.inr q)⟩ g1 (fun q h => by rw [g3] at h; cases h) (by rw [g2]; exact hkC) (by rw [g2]; exact va_assign hcls) rfl rfl hd fun H1 e1 e2 e3 => ?_
  refine kk hG p e R s mid args below meth c H1 _ cells slots mc ms ls (am_In_put hI e2 hr.2.2) (am_stored hG.2.2.1 hH hr.2.2 rfl (fun _ _ => rfl) (fun q hq => u2_row _ hq) (am_wm_wP hH.1) ?_ e2 e3) hL (Xst2 (Xst hS))
  rw [am_e_q (m := am_wP m r z.toNat (some v)) hr.2.1]
  show H1[am_ad G r]? = some (vp_cell _ _)
  rw [e1, vp_cell_q, vp_cell_q, arrV_store, o32_cl h0 (by omega)]
  congr 2
  funext q
  show updV _ _ _ q = va_rf ((u2 m.2.1 r z.toNat (some v) r q).map (am_ad G))
  unfold updV
  by_cases hq : q = z.toNat
  · subst hq; rw [if_pos rfl, u2_same]; rfl
  · rw [if_neg hq, u2_ne _ (Or.inr hq)]
