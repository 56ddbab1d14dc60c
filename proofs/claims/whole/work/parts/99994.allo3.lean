/-! ROWS OF ROWS: multianewarray -/
def va_AOL (t : FieldType) (U : State) : Prop := (Cond.arrayOver (.array t)).before #[] U = true
theorem va_AOL.moved {t : FieldType} {u U : State} (hvm : u.vm.Alike U.vm) (h : va_AOL t u) : va_AOL t U := by
  obtain ⟨comp, c, k, h1, h2, h3, h4, h5⟩ := arrayOver_specB h
  obtain ⟨k', hk', he⟩ := hvm.2.2 _ _ h3
  have hi : (U.vm.classes.findIdx? fun (x : Class) => match x.kind with | .array component _ => component == comp | _ => false) = some c := by
    have hb : U.vm.bare = u.vm.bare := by first | exact hvm.bare_eq | exact hvm.bare_eq.symm
    refine (va_idx_bare U.vm comp).symm.trans ?_
    rw [hb]
    exact (va_idx_bare u.vm comp).trans h2
  have hkind : k'.kind = .array comp (.array t) := by rw [he]; exact h4
  have f1 : U.vm.findClass (FieldType.array t).toString = some comp := by rw [hvm.findClass]; exact h1
  have f2 : U.vm.findClass ("[" ++ (FieldType.array t).toString) = some c := by rw [hvm.findClass]; exact h5
  unfold va_AOL Cond.before Cond.holds
  simp only [Cond.value]
  rw [f1, Option.bind_some]
  refine (congrArg (fun o : Option Nat => (o.bind (fun c => (U.vm.classes[c]?).map fun (k : Class) => match k.kind with | .array _ ty => decide (ty = FieldType.array t) && decide (U.vm.findClass ("[" ++ (FieldType.array t).toString) = some c) | _ => false) == some true)) hi).trans ?_
  simp [hk', hkind, f2]
theorem outerC_arr (cA : ClassId) (N h0 : Nat) : ∀ i, i ≤ N → Jvm.Free.Multi.outerC cA N h0 i = arrV cA N (fun j => if j < i then .ref (h0 + 1 + j) else .null) := by
  intro i
  induction i with
  | zero =>
    intro _
    show ({ cls := cA, slots := Array.replicate N .null, vm := .none } : Cell) = _
    rw [arrV_new]
    refine congrArg (arrV cA N) (funext fun j => ?_)
    rw [if_neg (Nat.not_lt_zero _)]
  | succ i ih =>
    intro h
    show (Jvm.Free.Multi.outerC cA N h0 i).setSlot i (.ref (h0 + 1 + i)) = _
    rw [ih (by omega), arrV_store]
    refine congrArg (arrV cA N) (funext fun j => ?_)
    show updV (fun j => if j < i then Value.ref (h0 + 1 + j) else Value.null) i (.ref (h0 + 1 + i)) j = _
    unfold updV
    by_cases e : j = i
    · subst e; rw [if_pos rfl, if_pos (by omega)]
    · rw [if_neg e]
      show (if j < i then Value.ref (h0 + 1 + j) else Value.null) = _
      by_cases e2 : j < i
      · rw [if_pos e2, if_pos (by omega)]
      · rw [if_neg e2, if_neg (by omega)]
def am_alM (m : am_M) (n k : Nat) : am_M := (m.1, (fun x j => if x = m.2.2.2.1 ∧ j < n then some (m.2.2.2.1 + 1 + j) else m.2.1 x j), (fun x => if x = m.2.2.2.1 then (104, n) else if m.2.2.2.1 < x ∧ x < m.2.2.2.1 + 1 + n then (101, k) else m.2.2.1 x), m.2.2.2.1 + 1 + n, m.2.2.2.2)
def am_freshM (m : am_M) (n : Nat) : Prop := m.2.2.2.2 = true ∧ ∀ x, m.2.2.2.1 ≤ x → x < m.2.2.2.1 + 1 + n → (∀ j, m.1 x j = 0) ∧ ∀ j, m.2.1 x j = none
theorem X_newM {G : am_G} {d a b : Nat} {M : am_Me} {pc : Nat} {L : List (Option am_V)} {st : List am_V} {m : am_M} {Q : am_Q} {idx n k : Nat} {y z : Int} (hd : decode M.2.1 pc = .ok (.multianewarray idx 2, 4)) (hcl : Cond.classLink M.2.2.2.2.1 idx "[[J" ∈ lw_tbl) (hov : Cond.arrayOver (.array .long) ∈ lw_tbl) (har : Cond.arrayClass .long ∈ lw_tbl) (hz : z = n) (hy : y = k) (hn : n ≤ 100) (hk : k ≤ 1000) (hf : am_freshM m n) (ha : 1 + n ≤ a) (hb : n + n * k ≤ b) (kk : X G d (a - (1 + n)) (b - (n + n * k)) M (pc + 4) L (rV (some m.2.2.2.1) :: st) (am_alM m n k) Q) : X G d a b M pc L (iV y :: iV z :: st) m Q := by
  subst hz
  subst hy
  intro hG p e R s mid args below meth c H locs cells slots mc ms ls hI hH hL hS
  have hW := hI.2.2.2.2.2.2.2.2.1
  have hK := am_K hG hW
  have hr := hI.2.2.2.2.2.2.2.2.2.2.2
  have hsz := am_cnt hH ⟨hf.1, (hf.2 _ (Nat.le_refl _) (by omega)).1, (hf.2 _ (Nat.le_refl _) (by omega)).2⟩
  have t32 : ∀ q : Nat, q ≤ 1000 → ¬ Int32.ofInt (q : Int) < 0 ∧ (Int32.ofInt (q : Int)).toNatClampNeg = q := fun q hq => by
    refine ⟨fun w => ?_, by rw [o32_cl (by omega) (by omega)]; omega⟩
    have := (o32_lt (x := (q : Int)) (y := 0) ⟨by omega, by omega⟩ ⟨by omega, by omega⟩).mp w
    omega
  have tn := t32 n (by omega)
  have tk := t32 k hk
  intro T hT X
  have hcl' : (Cond.classLink M.2.2.2.2.1 idx ("[" ++ (FieldType.array .long).toString)).before args s = true := am_word hG hW hcl rfl args
  have hov' : (Cond.arrayOver (.array .long)).before args s = true := va_AOL.moved (t := .long) hW.alike (show va_AOL .long G.2.1 from hG.1 _ hov)
  obtain ⟨vm1, cA, comp, hWm, hfA, hfC, hO, hIn, X', step⟩ := X.multianewarray2F hI.1 (ty := .long) hI.2.2.2.2.2.2.2.1 hcl' hov' (am_word hG hW har rfl args) (g := F0 mid pc ls (((iV (k : Int)) :: (iV (n : Int)) :: st).map (am_tr G))) rfl (by rw [hI.2.1]; exact hd) (n := Int32.ofInt (n : Int)) (k := Int32.ofInt (k : Int)) rfl tn.1 tk.1 (by rw [tn.2]; omega) (by rw [tk.2]; show k * 8 ≤ 536870912; omega) (by rw [tk.2]; omega) rfl rfl (by rw [tn.2]; omega) (by rw [tn.2, tk.2]; omega)
  rw [tn.2, tk.2] at X' step
  have hcA : cA = G.2.2.2.2.2 104 := Option.some.inj (hfA.symm.trans (hK.2 4 _ rfl).2)
  have hco : comp = G.2.2.2.2.2 101 := Option.some.inj (hfC.symm.trans (hK.2 1 _ rfl).2)
  subst hcA
  subst hco
  have hTh : (T.setVm vm1).heap = H := hT
  have ff := Jvm.Free.Multi.fill_facts (T.setVm vm1) (G.2.2.2.2.2 104) (G.2.2.2.2.2 101) n k (defaultValue .long) n
  have fi := Jvm.Free.Multi.fill_inner (T.setVm vm1) (G.2.2.2.2.2 104) (G.2.2.2.2.2 101) n k (defaultValue .long) n
  have fo := fun (q : Nat) (hq : q < (T.setVm vm1).heap.size) => Jvm.Free.Multi.fill_old (T.setVm vm1) (G.2.2.2.2.2 104) (G.2.2.2.2.2 101) n k (defaultValue .long) (a := q) hq n
  generalize Jvm.Free.Multi.fill (T.setVm vm1) (G.2.2.2.2.2 104) (G.2.2.2.2.2 101) n k (defaultValue .long) n = T1 at *
  rw [hTh] at ff fi fo
  have hs0 : H.size = am_bs G + (m.2.2.2.1 - 1) := hH.2.2.2.1 hf.1
  have hc1 := hH.1.1
  have hHH : am_HR G (am_alM m n k) T1.heap := by
    obtain ⟨hw, hat, hs, hx, hq⟩ := hH
    refine ⟨⟨by show 1 ≤ m.2.2.2.1 + 1 + n; omega, fun x hx9 => ?_⟩, fun x x0 hx9 => ?_, ?_, fun _ => ?_, fun q hq9 => ?_⟩
    · have hx9 : x < m.2.2.2.1 + 1 + n := hx9
      by_cases e1 : x < m.2.2.2.1
      · have e9 : (am_alM m n k).2.2.1 x = m.2.2.1 x := by
          show (if x = m.2.2.2.1 then _ else if _ then _ else _) = _
          rw [if_neg (by omega), if_neg (by omega)]
        rw [e9]
        exact hw.2 x e1
      · have zI : ∀ j, (am_alM m n k).1 x j = 0 := (hf.2 x (by omega) hx9).1
        have hsh : ((am_alM m n k).2.2.1 x).1 = 104 ∧ ((am_alM m n k).2.2.1 x).2 = n ∨ ((am_alM m n k).2.2.1 x).1 = 101 ∧ ((am_alM m n k).2.2.1 x).2 = k := by
          by_cases e : x = m.2.2.2.1
          · left
            have : (am_alM m n k).2.2.1 x = (104, n) := if_pos e
            rw [this]; exact ⟨rfl, rfl⟩
          · right
            have : (am_alM m n k).2.2.1 x = (101, k) := (if_neg e).trans (if_pos ⟨by omega, hx9⟩)
            rw [this]; exact ⟨rfl, rfl⟩
        refine ⟨by omega, by omega, fun j => ?_⟩
        rw [zI j]
        split
        · unfold i64; omega
        · unfold i32; omega
    · have hx9 : x < m.2.2.2.1 + 1 + n := hx9
      by_cases e1 : x < m.2.2.2.1
      · have e9 : (am_alM m n k).2.2.1 x = m.2.2.1 x := by
          show (if x = m.2.2.2.1 then _ else if _ then _ else _) = _
          rw [if_neg (by omega), if_neg (by omega)]
        have e8 : (am_alM m n k).2.1 x = m.2.1 x := funext fun j => if_neg (by omega)
        rw [am_e_congr (m := m) (m' := am_alM m n k) rfl e8 e9]
        have h0 := hat x x0 e1
        have hl : am_ad G x < H.size := by
          unfold va_at at h0
          revert h0
          split
          · intro h0; exact (Array.getElem?_eq_some_iff.mp h0).1
          · rintro ⟨r, -, cell, hcell, -⟩; exact (Array.getElem?_eq_some_iff.mp hcell).1
        exact va_at.kept h0 (fo _ hl)
      · by_cases e : x = m.2.2.2.1
        · subst e
          have e9 : (am_alM m n k).2.2.1 m.2.2.2.1 = (104, n) := if_pos rfl
          rw [am_e_r e9]
          show T1.heap[am_ad G m.2.2.2.1]? = _
          rw [← hsz, ff.2.1, outerC_arr _ _ _ n (Nat.le_refl _)]
          show some (arrV (G.2.2.2.2.2 104) n _) = some (arrV (G.2.2.2.2.2 104) n (fun j => va_rf (((am_alM m n k).2.1 m.2.2.2.1 j).map (am_ad G))))
          refine congrArg some (congrArg (arrV (G.2.2.2.2.2 104) n) (funext fun j => ?_))
          by_cases hj : j < n
          · have e8 : (am_alM m n k).2.1 m.2.2.2.1 j = some (m.2.2.2.1 + 1 + j) := if_pos ⟨rfl, hj⟩
            rw [if_pos hj, e8]
            show Value.ref _ = Value.ref (am_ad G (m.2.2.2.1 + 1 + j))
            have : am_ad G (m.2.2.2.1 + 1 + j) = am_bs G + (m.2.2.2.1 + 1 + j - 1) := if_neg (by omega)
            rw [this, hs0]
            have e7 : (am_bs G + (m.2.2.2.1 - 1) + 1 + j : Nat) = am_bs G + (m.2.2.2.1 + 1 + j - 1) := by omega
            exact congrArg Value.ref e7
          · have e8 : (am_alM m n k).2.1 m.2.2.2.1 j = none := (if_neg (fun z => hj z.2)).trans ((hf.2 _ (Nat.le_refl _) (by omega)).2 j)
            rw [if_neg hj, e8]
            rfl
        · have e9 : (am_alM m n k).2.2.1 x = (101, k) := (if_neg e).trans (if_pos ⟨by omega, hx9⟩)
          rw [am_e_l e9]
          show T1.heap[am_ad G x]? = _
          have ea : am_ad G x = H.size + 1 + (x - m.2.2.2.1 - 1) := by
            unfold am_ad
            rw [if_neg (by omega), hs0]
            omega
          rw [ea, fi (x - m.2.2.2.1 - 1) (by omega)]
          have zI : ∀ j, (am_alM m n k).1 x j = 0 := (hf.2 x (by omega) hx9).1
          show some (Jvm.Free.Multi.innerC _ k (.long 0)) = some (arrV (G.2.2.2.2.2 101) k (fun j => .long (Int64.ofInt ((am_alM m n k).1 x j))))
          rw [show (fun j => Value.long (Int64.ofInt ((am_alM m n k).1 x j))) = fun _ => Value.long 0 from funext fun j => by rw [zI j]; rfl, ← arrV_new]
          rfl
    · show am_bs G + (m.2.2.2.1 + 1 + n - 1) ≤ T1.heap.size
      rw [ff.1]; omega
    · show T1.heap.size = am_bs G + (m.2.2.2.1 + 1 + n - 1)
      rw [ff.1]; omega
    · rw [fo q (by omega)]
      exact hq q hq9
  have kk := kk hG p e R s mid args below meth c T1.heap locs (cells + (1 + n)) (slots + (n + n * k)) mc ms ls (am_InG hI (by rw [ff.1]; omega) ha hb) hHH hL (Xs1 (v := rV (some m.2.2.2.1)) trivial (Xst2 hS))
  have X'' : Stand p G.1 e R s mid args below meth c T1 locs (cells + (1 + n)) (slots + (n + n * k)) := by
    have e1 : cells + (1 + n) = cells + 1 + n := by omega
    have e2 : slots + (n + n * k) = slots + n + n * k := by omega
    rw [e1, e2]
    exact X'
  obtain ⟨t, a1, b1⟩ := kk T1 rfl X''
  refine ⟨t, step t ?_, b1⟩
  have eT : T.heap.size = am_ad G m.2.2.2.1 := by rw [hT]; exact hsz
  rw [eT]
  exact a1
