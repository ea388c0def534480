/-! NamesInBagsModel.empties: the hash's part of a table is -1, its size 0 -/
theorem nm_ofNat_toInt (k : Nat) (h : k < 2147483648) : (Int32.ofNat k).toInt = k := by
  rw [Int32.toInt_ofNat', show Int32.size = 4294967296 from rfl]
  apply Int.bmod_eq_of_le <;> omega
theorem nm_ofNat_clamp (k : Nat) (h : k < 2147483648) : (Int32.ofNat k).toNatClampNeg = k := by
  unfold Int32.toNatClampNeg
  rw [nm_ofNat_toInt k h]
  rfl
theorem nm_emp_idx (tn k : Nat) (h : tn ≤ 2) (hk : k < 8192) : Int32.ofNat tn * (Int16.ofInt 8192).toInt32 + Int32.ofNat k = Int32.ofNat (tn * 8192 + k) := by
  rw [show (Int16.ofInt 8192).toInt32 = Int32.ofNat 8192 from by decide, ← Int32.ofNat_mul, ← Int32.ofNat_add]
theorem nm_emp_loop {ch th a tn : Nat} {fs : List Value} {hp1 : px_H} (htn : tn ≤ 2) (ha : hp1[a]? = some (.inr (9, fs))) (hne : ch ≠ a) (hch : ch < hp1.length) (hfs : fs[44]? = some (.ref ch)) (ht : nm_T.1[th]? = some .int) :
    ∀ (d k lo : Nat) (f : Nat → Int32), k + d = 8192 → lo = tn * 8192 + k → px_Z nm_T none nm_P mm_M_empties 9 [(2, .int (Int32.ofNat k)), (0, .ref a), (1, .int (Int32.ofNat tn))] [] (hp1.set ch (.inl (th, 24576, .inl f))) none
      (hp1.set ch (.inl (th, 24576, .inl (fun j => if lo ≤ j ∧ j < tn * 8192 + 8192 then -1 else f j)))) := by
  intro d
  induction d with
  | zero =>
    intro k lo f hk hlo
    have hk : k = 8192 := by omega
    subst hk
    subst hlo
    have hfe : (fun j => if tn * 8192 + 8192 ≤ j ∧ j < tn * 8192 + 8192 then -1 else f j) = f := by
      funext j
      rw [if_neg (by omega)]
    rw [hfe]
    refine px_Z_its (pc1 := 13) (lv1 := [(2, .int (Int32.ofNat 8192)), (0, .ref a), (1, .int (Int32.ofNat tn))]) (st1 := [.int (Int16.ofInt 8192).toInt32, .int (Int32.ofNat 8192)]) (hp1 := hp1.set ch (.inl (th, 24576, .inl f))) 2 (fun _ _ _ _ => rfl) ?_
    refine px_q_icmp (bb := true) (len := 3) (c := .ge) (off := 22) rfl (by decide) ?_
    exact px_q_ret (len := 1) rfl rfl
  | succ d ih =>
    intro k lo f hk hlo
    subst hlo
    have hk2 : k < 8192 := by omega
    have hidx := nm_emp_idx tn k htn hk2
    have hcl := nm_ofNat_clamp (tn * 8192 + k) (by omega)
    refine px_Z_its (pc1 := 13) (lv1 := [(2, .int (Int32.ofNat k)), (0, .ref a), (1, .int (Int32.ofNat tn))]) (st1 := [.int (Int16.ofInt 8192).toInt32, .int (Int32.ofNat k)]) (hp1 := hp1.set ch (.inl (th, 24576, .inl f))) 2 (fun _ _ _ _ => rfl) ?_
    refine px_q_icmp (bb := false) (len := 3) (c := .ge) (off := 22) rfl ?_ ?_
    · simp only [px_cmp, decide_eq_false_iff_not, Int32.le_iff_toInt_le, nm_ofNat_toInt k (by omega)]
      rw [show (Int16.ofInt 8192).toInt32.toInt = 8192 from by decide]
      omega
    refine px_Z_its (pc1 := 17) (lv1 := [(2, .int (Int32.ofNat k)), (0, .ref a), (1, .int (Int32.ofNat tn))]) (st1 := [.ref a]) (hp1 := hp1.set ch (.inl (th, 24576, .inl f))) 1 (fun _ _ _ _ => rfl) ?_
    refine px_q_get (len := 3) (idx := 260) (ci := 9) (k := 44) (fl := 3) (fs := fs) (v := .ref ch) rfl rfl (by rw [List.getElem?_set_ne hne]; exact ha) hfs ?_
    refine px_Z_its (pc1 := 28) (lv1 := [(2, .int (Int32.ofNat k)), (0, .ref a), (1, .int (Int32.ofNat tn))]) (st1 := [.int (Int32.ofInt (-1)), .int (Int32.ofNat tn * (Int16.ofInt 8192).toInt32 + Int32.ofNat k), .ref ch]) (hp1 := hp1.set ch (.inl (th, 24576, .inl f))) 6 (fun _ _ _ _ => rfl) ?_
    rw [hidx]
    refine px_q_iast (len := 1) (t := th) (n := 24576) (f := f) rfl (List.getElem?_set_self hch) ht ?_ ?_
    · simp only [px_inR, Bool.and_eq_true, decide_eq_true_eq, nm_ofNat_toInt (tn * 8192 + k) (by omega)]
      omega
    rw [List.set_set, hcl]
    refine px_Z_its (pc1 := 9) (lv1 := [(2, .int (Int32.ofNat k + Int32.ofInt 1)), (0, .ref a), (1, .int (Int32.ofNat tn))]) (st1 := []) (hp1 := hp1.set ch (.inl (th, 24576, .inl (upd f (tn * 8192 + k) (Int32.ofInt (-1)))))) 2 (fun _ _ _ _ => rfl) ?_
    rw [show Int32.ofNat k + Int32.ofInt 1 = Int32.ofNat (k + 1) from by rw [Int32.ofNat_add]; rfl]
    have h1 := ih (k + 1) (tn * 8192 + (k + 1)) (upd f (tn * 8192 + k) (Int32.ofInt (-1))) (by omega) rfl
    have hfe : (fun j => if tn * 8192 + (k + 1) ≤ j ∧ j < tn * 8192 + 8192 then -1 else upd f (tn * 8192 + k) (Int32.ofInt (-1)) j) = (fun j => if tn * 8192 + k ≤ j ∧ j < tn * 8192 + 8192 then -1 else f j) := by
      funext j
      unfold upd
      by_cases hj : j = tn * 8192 + k
      · subst hj
        rw [if_neg (by omega), if_pos rfl, if_pos (by omega)]
        rfl
      · rw [if_neg hj]
        by_cases h2 : tn * 8192 + (k + 1) ≤ j ∧ j < tn * 8192 + 8192
        · rw [if_pos h2, if_pos (by omega)]
        · rw [if_neg h2, if_neg (by omega)]
    rw [hfe] at h1
    exact h1
/-- what empties does -/
def nm_empH (hp : px_H) (cs ts ch th tn : Nat) (g f : Nat → Int32) : px_H :=
  (hp.set cs (.inl (ts, 3, .inl (upd g tn (Int32.ofInt 0))))).set ch (.inl (th, 24576, .inl (fun j => if tn * 8192 ≤ j ∧ j < tn * 8192 + 8192 then -1 else f j)))
theorem nm_emp {a cs ts ch th tn : Nat} {fs : List Value} {hp : px_H} {g f : Nat → Int32} (htn : tn ≤ 2) (ha : hp[a]? = some (.inr (9, fs))) (h43 : fs[43]? = some (.ref cs)) (h44 : fs[44]? = some (.ref ch))
    (hcs : hp[cs]? = some (.inl (ts, 3, .inl g))) (hch : hp[ch]? = some (.inl (th, 24576, .inl f))) (hts : nm_T.1[ts]? = some .int) (hth : nm_T.1[th]? = some .int) (hne : ch ≠ cs) :
    px_C nm_T nm_P mi_M_empties [.ref a, .int (Int32.ofNat tn)] hp none (nm_empH hp cs ts ch th tn g f) := by
  have h1 : cs ≠ a := fun h => by rw [h, ha] at hcs; cases hcs
  have h2 : ch ≠ a := fun h => by rw [h, ha] at hch; cases hch
  have hlc : ch < hp.length := (List.getElem?_eq_some_iff.mp hch).1
  refine px_C_of (N := mm_M_empties) rfl (Nat.le_of_ble_eq_true rfl) ?_
  refine px_Z_its (pc1 := 1) (lv1 := [(0, .ref a), (1, .int (Int32.ofNat tn))]) (st1 := [.ref a]) (hp1 := hp) 1 (fun _ _ _ _ => rfl) ?_
  refine px_q_get (len := 3) (idx := 257) (ci := 9) (k := 43) (fl := 3) (fs := fs) (v := .ref cs) rfl rfl ha h43 ?_
  refine px_Z_its (pc1 := 6) (lv1 := [(0, .ref a), (1, .int (Int32.ofNat tn))]) (st1 := [.int (Int32.ofInt 0), .int (Int32.ofNat tn), .ref cs]) (hp1 := hp) 2 (fun _ _ _ _ => rfl) ?_
  refine px_q_iast (len := 1) (t := ts) (n := 3) (f := g) rfl hcs hts ?_ ?_
  · simp only [px_inR, Bool.and_eq_true, decide_eq_true_eq, nm_ofNat_toInt tn (by omega)]
    omega
  rw [nm_ofNat_clamp tn (by omega)]
  refine px_Z_its (pc1 := 9) (lv1 := [(2, .int (Int32.ofNat 0)), (0, .ref a), (1, .int (Int32.ofNat tn))]) (st1 := []) (hp1 := hp.set cs (.inl (ts, 3, .inl (upd g tn (Int32.ofInt 0))))) 2 (fun _ _ _ _ => rfl) ?_
  have hhp : hp.set cs (.inl (ts, 3, .inl (upd g tn (Int32.ofInt 0)))) = (hp.set cs (.inl (ts, 3, .inl (upd g tn (Int32.ofInt 0))))).set ch (.inl (th, 24576, .inl f)) := by
    have h9 : (hp.set cs (.inl (ts, 3, .inl (upd g tn (Int32.ofInt 0)))))[ch]? = some (.inl (th, 24576, .inl f)) := by rw [List.getElem?_set_ne (Ne.symm hne)]; exact hch
    obtain ⟨h10, h11⟩ := List.getElem?_eq_some_iff.mp h9
    rw [← h11, List.set_getElem_self]
  rw [hhp]
  have h3 := nm_emp_loop (ch := ch) (th := th) (a := a) (tn := tn) (fs := fs) (hp1 := hp.set cs (.inl (ts, 3, .inl (upd g tn (Int32.ofInt 0))))) htn (by rw [List.getElem?_set_ne h1]; exact ha) h2 (by rw [List.length_set]; exact hlc) h44 hth 8192 0 (tn * 8192) f (by omega) (Nat.add_zero _).symm
  exact h3
