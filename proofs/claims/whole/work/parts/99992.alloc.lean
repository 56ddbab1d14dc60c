/-! NEW CELLS, while the heap holds nothing but ours -/
def am_al (m : am_M) (t n : Nat) : am_M := (m.1, m.2.1, (fun x => if x = m.2.2.2.1 then (t, n) else m.2.2.1 x), m.2.2.2.1 + 1, m.2.2.2.2)
def am_fresh (m : am_M) : Prop := m.2.2.2.2 = true ∧ (∀ j, m.1 m.2.2.2.1 j = 0) ∧ ∀ j, m.2.1 m.2.2.2.1 j = none
theorem am_cnt {G : am_G} {m : am_M} {H : Heap} (hH : am_HR G m H) (hf : am_fresh m) : H.size = am_ad G m.2.2.2.1 := by
  have h1 := hH.1.1
  have h2 := hH.2.2.2.1 hf.1
  unfold am_ad
  rw [if_neg (by omega), h2]
theorem am_grow {G : am_G} {m : am_M} {H H1 : Heap} {t n : Nat} (hH : am_HR G m H) (hf : am_fresh m) (ht : t < 9 ∨ 100 ≤ t ∧ t ≤ 104) (hn : n < 2147483648) (z1 : H1.size = H.size + 1) (o1 : ∀ q, q < H.size → H1[q]? = H[q]?) (hat : va_at G.2.2.2.1 vwCl (am_ad G m.2.2.2.1, am_e G (am_al m t n) m.2.2.2.1) H1) : am_HR G (am_al m t n) H1 := by
  have hc := am_cnt hH hf
  obtain ⟨hw, ha, hs, hx, hq⟩ := hH
  refine ⟨⟨Nat.succ_le_succ (Nat.zero_le _), fun k hk => ?_⟩, fun k k0 hk => ?_, ?_, fun _ => ?_, fun q hq9 => ?_⟩
  · have hk : k < m.2.2.2.1 + 1 := hk
    by_cases e : k = m.2.2.2.1
    · subst e
      have e9 : (am_al m t n).2.2.1 m.2.2.2.1 = (t, n) := if_pos rfl
      rw [e9]
      refine ⟨ht, hn, fun j => ?_⟩
      have z : (am_al m t n).1 m.2.2.2.1 j = 0 := hf.2.1 j
      rw [z]
      split
      · unfold i64; omega
      · unfold i32; omega
    · have e9 : (am_al m t n).2.2.1 k = m.2.2.1 k := if_neg e
      rw [e9]
      exact hw.2 k (by omega)
  · have hk : k < m.2.2.2.1 + 1 := hk
    by_cases e : k = m.2.2.2.1
    · subst e; exact hat
    · have e9 : am_e G (am_al m t n) k = am_e G m k := am_e_congr rfl rfl (if_neg e)
      rw [e9]
      have h0 := ha k k0 (by omega)
      have hl : am_ad G k < H.size := by
        unfold va_at at h0
        revert h0
        split
        · intro h0; exact (Array.getElem?_eq_some_iff.mp h0).1
        · rintro ⟨r, -, cell, hcell, -⟩; exact (Array.getElem?_eq_some_iff.mp hcell).1
      have hP : va_P G.2.2.2.1 vwCl [(am_ad G k, am_e G m k)] H := fun i q hi => by
        cases i with
        | zero => cases hi; exact h0
        | succ i => exact absurd hi (by simp)
      have hk2 := hP.kept (H1 := H1) (fun i q hi => by
        cases i with
        | zero => cases hi; exact o1 _ hl
        | succ i => exact absurd hi (by simp))
      exact hk2 0 _ rfl
  · show am_bs G + (m.2.2.2.1 + 1 - 1) ≤ H1.size
    have := hw.1
    omega
  · show H1.size = am_bs G + (m.2.2.2.1 + 1 - 1)
    have := hx hf.1
    have := hw.1
    omega
  · rw [o1 q (by have := hw.1; omega)]
    exact hq q hq9
theorem am_InG {G : am_G} {d a b x y : Nat} {M : am_Me} {p : Program} {R : Room} {s : State} {mid : MethodId} {meth : Method} {c : Code} {H H1 : Heap} {locs : List Loc} {cells slots mc ms : Nat} (hI : am_In G d a b M p R s mid meth c H locs cells slots mc ms) (z : H.size ≤ H1.size) (ha : x ≤ a) (hb : y ≤ b) : am_In G d (a - x) (b - y) M p R s mid meth c H1 locs (cells + x) (slots + y) mc ms := by
  obtain ⟨h1, h2, h3, h4, h5, h6, h7, h8, h9, h10, h11, h12, h13, h14, h15, h16, h17, h18, h19⟩ := hI
  exact ⟨h1, h2, h3, h4, h5, h6, h7, h8, h9, h10, h11, by omega, by omega, h14, h15, h16, by omega, h18, h19⟩
theorem am_dv : ∀ ci, ci < 9 → ∀ k, k < 36 → defaultValue (am_ty ci k) = if am_fk (am_ty ci k) = 1 then Value.null else .int 0 := by decide +kernel
theorem X_newO {G : am_G} {d a b : Nat} {M : am_Me} {pc : Nat} {L : List (Option am_V)} {st : List am_V} {m : am_M} {Q : am_Q} {idx ci : Nat} {C : String} {T : u_T} {N : Nat} (hd : decode M.2.1 pc = .ok (.new idx, 3)) (hc : vwCl[ci]? = some (C, T, N)) (hcl : Cond.classLink M.2.2.2.2.1 idx C ∈ lw_tbl) (hin : Cond.instantiable C N ∈ lw_tbl) (hini : Cond.initialized C ∈ lw_tbl) (hf : am_fresh m) (ha : 1 ≤ a) (hb : N ≤ b) (k : X G d (a - 1) (b - N) M (pc + 3) L (rV (some m.2.2.2.1) :: st) (am_al m ci 0) Q) : X G d a b M pc L st m Q := by
  intro hG p e R s mid args below meth c H locs cells slots mc ms ls hI hH hL hS
  have hW := hI.2.2.2.2.2.2.2.2.1
  have hK := am_K hG hW
  have hKn := hK.1 ci _ hc
  have cs := am_cls hc
  have hr := hI.2.2.2.2.2.2.2.2.2.2.2
  refine W.newcK hI.1 hI.2.1 hI.2.2.2.2.2.2.2.1 (am_word hG hW hcl rfl args) (am_word hG hW hin rfl args) (am_word hG hW hini rfl args) rfl hd (by omega) (by omega) hKn.2.1 rfl fun H1 kC hkC e1 z1 o1 => ?_
  have hsz := am_cnt hH hf
  have hH1 : am_HR G (am_al m ci 0) H1 := am_grow hH hf (Or.inl cs.1) (by decide) z1 o1 (by
    have e9 : (am_al m ci 0).2.2.1 m.2.2.2.1 = (ci, 0) := if_pos rfl
    rw [am_e_ob (by rw [e9]) cs.1]
    refine ⟨_, hc, ?_⟩
    rw [← hsz]
    refine (u_born (am_ty ci) (am_uws hG hW hc args) (fun w h => h) hKn hkC e1 cs.2.2.2.1).to (fun j hj => ?_)
    have hj : j < N := hj
    rw [am_vV (by omega), am_dv ci cs.1 j (by omega)]
    unfold am_fv
    by_cases z : am_fk (am_ty ci j) = 1
    · rw [if_pos z, if_pos z]
      show _ = va_rf ((m.2.1 m.2.2.2.1 j).map (am_ad G))
      rw [hf.2.2 j]
      rfl
    · rw [if_neg z, if_neg z]
      show _ = Value.int (Int32.ofInt (m.1 m.2.2.2.1 j))
      rw [hf.2.1 j]
      rfl)
  have k := k hG p e R s mid args below meth c H1 locs (cells + 1) (slots + N) mc ms ls (am_InG hI (by omega) ha hb) hH1 hL (Xs1 (v := rV (some m.2.2.2.1)) trivial hS)
  rw [hsz]
  exact k
theorem X_newA {G : am_G} {d a b : Nat} {M : am_Me} {pc : Nat} {L : List (Option am_V)} {st : List am_V} {m : am_M} {Q : am_Q} {t n : Nat} {z : Int} {at9 : ArrayType} (hd : decode M.2.1 pc = .ok (.newarray at9, 2)) (ht : t = 100 ∧ at9 = .int ∨ t = 101 ∧ at9 = .long ∨ t = 102 ∧ at9 = .byte) (hcl : Cond.arrayClass (newarray.typeOf at9) ∈ lw_tbl) (hz : z = n) (hn : n ≤ 20000) (hf : am_fresh m) (ha : 1 ≤ a) (hb : n ≤ b) (k : X G d (a - 1) (b - n) M (pc + 2) L (rV (some m.2.2.2.1) :: st) (am_al m t n) Q) : X G d a b M pc L (iV z :: st) m Q := by
  subst hz
  intro hG p e R s mid args below meth c H locs cells slots mc ms ls hI hH hL hS
  have hW := hI.2.2.2.2.2.2.2.2.1
  have hK := am_K hG hW
  have hr := hI.2.2.2.2.2.2.2.2.2.2.2
  have hsz := am_cnt hH hf
  have hz32 : ¬ Int32.ofInt (n : Int) < 0 ∧ (Int32.ofInt (n : Int)).toNatClampNeg = n := by
    refine ⟨fun q => ?_, by rw [o32_cl (by omega) (by omega)]; omega⟩
    have := (o32_lt (x := (n : Int)) (y := 0) ⟨by omega, by omega⟩ ⟨by omega, by omega⟩).mp q
    omega
  have hby : n * componentBytes (newarray.typeOf at9) ≤ 536870912 := by
    rcases ht with ⟨-, rfl⟩ | ⟨-, rfl⟩ | ⟨-, rfl⟩
    · show n * 4 ≤ 536870912; omega
    · show n * 8 ≤ 536870912; omega
    · show n * 1 ≤ 536870912; omega
  refine va_newaK hI.1 hI.2.1 (am_word hG hW hcl rfl args) rfl hd rfl hz32.1 hz32.2 hby (by omega) (by omega) rfl fun H1 cA e1 z1 o1 hAr hNm => ?_
  have hH1 : am_HR G (am_al m t n) H1 := am_grow hH hf (by omega) (by omega) z1 o1 (by
    have e9 : (am_al m t n).2.2.1 m.2.2.2.1 = (t, n) := if_pos rfl
    have zI : ∀ j, (am_al m t n).1 m.2.2.2.1 j = 0 := hf.2.1
    rcases ht with ⟨rfl, rfl⟩ | ⟨rfl, rfl⟩ | ⟨rfl, rfl⟩
    · have hA := (hK.2 0 _ rfl).2
      have : cA = G.2.2.2.2.2 100 := Option.some.inj (hNm.symm.trans hA)
      subst this
      rw [am_e_i e9]
      show H1[am_ad G m.2.2.2.1]? = _
      rw [← hsz, e1]
      show some (arrV (G.2.2.2.2.2 100) n (fun _ => Value.int 0)) = some (arrV (G.2.2.2.2.2 100) n (fun j => .int (Int32.ofInt ((am_al m 100 n).1 m.2.2.2.1 j))))
      rw [show (fun j => Value.int (Int32.ofInt ((am_al m 100 n).1 m.2.2.2.1 j))) = fun _ => Value.int 0 from funext fun j => by rw [zI j]; rfl]
    · have hA := (hK.2 1 _ rfl).2
      have : cA = G.2.2.2.2.2 101 := Option.some.inj (hNm.symm.trans hA)
      subst this
      rw [am_e_l e9]
      show H1[am_ad G m.2.2.2.1]? = _
      rw [← hsz, e1]
      show some (arrV (G.2.2.2.2.2 101) n (fun _ => Value.long 0)) = some (arrV (G.2.2.2.2.2 101) n (fun j => .long (Int64.ofInt ((am_al m 101 n).1 m.2.2.2.1 j))))
      rw [show (fun j => Value.long (Int64.ofInt ((am_al m 101 n).1 m.2.2.2.1 j))) = fun _ => Value.long 0 from funext fun j => by rw [zI j]; rfl]
    · have hA := (hK.2 2 _ rfl).2
      have : cA = G.2.2.2.2.2 102 := Option.some.inj (hNm.symm.trans hA)
      subst this
      rw [am_e_b e9]
      show H1[am_ad G m.2.2.2.1]? = _
      rw [← hsz, e1]
      show some (arrV (G.2.2.2.2.2 102) n (fun _ => Value.int 0)) = some (arrV (G.2.2.2.2.2 102) n (fun j => .int (Int32.ofInt ((am_al m 102 n).1 m.2.2.2.1 j))))
      rw [show (fun j => Value.int (Int32.ofInt ((am_al m 102 n).1 m.2.2.2.1 j))) = fun _ => Value.int 0 from funext fun j => by rw [zI j]; rfl])
  have k := k hG p e R s mid args below meth c H1 locs (cells + 1) (slots + n) mc ms ls (am_InG hI (by omega) ha hb) hH1 hL (Xs1 (v := rV (some m.2.2.2.1)) trivial (Xst hS))
  rw [hsz]
  exact k
