/-! old and seldom on the fresh object, by the contract of empties -/
def nm_Spc : Nat → List Value → px_H → Option px_A := fun mi av hp =>
  match Nat.beq mi mi_M_empties, av with
  | true, [.ref a, .int t] => match (hp[a]? : Option px_E) with
    | some (.inr (c, fs)) => match Nat.beq c 9, (fs[43]? : Option Value), (fs[44]? : Option Value) with
      | true, some (.ref cs), some (.ref ch) => match (hp[cs]? : Option px_E), (hp[ch]? : Option px_E) with
        | some (.inl (ts, n3, .inl g)), some (.inl (th, n9, .inl f)) => match Nat.beq n3 3, Nat.beq n9 24576, decide (nm_T.1[ts]? = some .int), decide (nm_T.1[th]? = some .int), decide (0 ≤ t.toInt), decide (t.toInt ≤ 2), Nat.beq ch cs with
          | true, true, true, true, true, true, false => some (none, nm_empH hp cs ts ch th t.toNatClampNeg g f)
          | _, _, _, _, _, _, _ => none
        | _, _ => none
      | _, _, _ => none
    | _ => none
  | _, _ => none
theorem nm_ofClamp (t : Int32) (h : 0 ≤ t.toInt) : Int32.ofNat t.toNatClampNeg = t := by
  rw [← Int32.toInt_inj, Int32.toInt_ofNat']
  have h1 : ((t.toNatClampNeg : Nat) : Int) = t.toInt := by
    unfold Int32.toNatClampNeg
    exact Int.toNat_of_nonneg h
  rw [h1]
  have h2 := ab_i32 t
  simp only [ab_in, ab_topi] at h2
  rw [show Int32.size = 4294967296 from rfl]
  apply Int.bmod_eq_of_le <;> omega
theorem nm_Spc_ok (mi : Nat) (av : List Value) (hp : px_H) (r : px_A) (h : nm_Spc mi av hp = some r) : px_C nm_T nm_P mi av hp r.1 r.2 := by
  unfold nm_Spc at h
  split at h
  · rename_i a t hmi
    have hmi := Nat.eq_of_beq_eq_true hmi
    subst hmi
    split at h
    · rename_i c fs ha
      split at h
      · rename_i cs ch hc h43 h44
        have hc := Nat.eq_of_beq_eq_true hc
        subst hc
        split at h
        · rename_i ts n3 g th n9 f hcs hch
          split at h
          · rename_i e1 e2 e3 e4 e5 e6 e7
            have e1 := Nat.eq_of_beq_eq_true e1
            have e2 := Nat.eq_of_beq_eq_true e2
            subst e1 e2
            have e5 := of_decide_eq_true e5
            have e6 := of_decide_eq_true e6
            cases h
            have h9 := nm_emp (tn := t.toNatClampNeg) (by unfold Int32.toNatClampNeg; omega) ha h43 h44 hcs hch (of_decide_eq_true e3) (of_decide_eq_true e4) (Nat.ne_of_beq_eq_false e7)
            rw [nm_ofClamp t e5] at h9
            exact h9
          · cases h
        · cases h
      · cases h
    · cases h
  · cases h
def nm_two (n mi1 : Nat) (av1 : List Value) (mi2 : Nat) (av2 : List Value) (v : Int32) : Bool :=
  match px_call nm_T nm_P nm_Spc n mi1 av1 nm_H1 with
  | some (some (.int a), h2) => match (h2[69]? : Option px_E) with
    | some (.inr (c, _)) => match px_call nm_T nm_P nm_Spc n mi2 av2 h2 with
      | some (some (.int a2), _) => decide (a = v) && (decide (a2 = v) && Nat.beq c 9)
      | _ => false
    | _ => false
  | _ => false
theorem nm_two_ok {n mi1 mi2 : Nat} {av1 av2 : List Value} {v : Int32} (h : nm_two n mi1 av1 mi2 av2 v = true) :
    ∃ (h2 h3 : px_H) (fs : List Value), px_C nm_T nm_P mi1 av1 nm_H1 (some (.int v)) h2 ∧ h2[69]? = some (.inr (9, fs)) ∧ px_C nm_T nm_P mi2 av2 h2 (some (.int v)) h3 := by
  unfold nm_two at h
  split at h
  · rename_i a h2 e1
    split at h
    · rename_i c fs e2
      split at h
      · rename_i a2 h3 e3
        simp only [Bool.and_eq_true, decide_eq_true_eq] at h
        obtain ⟨rfl, rfl, hc⟩ := h
        have hc := Nat.eq_of_beq_eq_true hc
        subst hc
        exact ⟨h2, h3, fs, px_spc nm_Spc_ok n _ _ _ _ e1, e2, px_spc nm_Spc_ok n _ _ _ _ e3⟩
      · cases h
    · cases h
  · cases h
set_option maxRecDepth 1000000 in
theorem nm_old0 : nm_two 1000 mi_X_old [.ref 0, .int 0, .int 0] mi_M_old [.ref 69, .int 0, .int 0] 1 = true := by decide +kernel
set_option maxRecDepth 1000000 in
theorem nm_old1 : nm_two 1000 mi_X_old [.ref 0, .int 1, .int 0] mi_M_old [.ref 69, .int 1, .int 0] 1 = true := by decide +kernel
set_option maxRecDepth 1000000 in
theorem nm_sel0 : nm_two 1000 mi_X_seldom [.ref 0] mi_M_seldom [.ref 69] 0 = true := by decide +kernel
section nm_s5
variable {p : Program} {l : Launch} {e : Env} {s : State} {m : MethodId} {below : List Frame} {meth : Method} {c : Code} {b : Nat} {xs : Nat → Int32} {D : va_G} {dA : Nat → ClassId} {L : Nat}
theorem nm_G_C (C0 : lw_At p s m meth c b L xs) (hK : va_K D nm_cl (px_tys nm_T dA) s) {S S' : px_S} {mi : Nat} {av : List Value} {hp hp' : px_H} {r : Option Value} (hc : px_C nm_T nm_P mi av hp r hp')
    (hs : ∀ call : Nat → List Value → px_H → Option px_A, call mi av hp = some (r, hp') → px_step nm_T (some (L, xs)) nm_P call nm_law 0 S = some (.inl S')) (h : nm_G p l e s m below meth c b D dA S') : nm_G p l e s m below meth c b D dA S := by
  obtain ⟨n0, h0⟩ := hc
  exact nm_G_step C0 hK n0 (hs _ (h0 n0 (Nat.le_refl _))) h
set_option maxRecDepth 1000000 in
theorem nm_end1 (C0 : lw_At p s m meth c b 6 xs) (hK : va_K D nm_cl (px_tys nm_T dA) s) (h3 : px_H) : nm_G p l e s m below meth c b D dA (1713, nm_lv, [], h3, 106, 103614) := by
  refine nm_G_steps C0 hK 0 7 _ (30, [(4, .int (0 + Int32.ofInt 6)), (3, .ref 105), (2, .ref 69), (1, .ref 0), (0, .retAddr 0)], [.int (Int32.ofNat 6 - (Int8.ofInt 6).toInt32), .int (0 + Int32.ofInt 6)], h3, 106, 103614) rfl ?_
  refine nm_G_steps C0 hK 0 1 _ (1719, [(4, .int (0 + Int32.ofInt 6)), (3, .ref 105), (2, .ref 69), (1, .ref 0), (0, .retAddr 0)], [], h3, 106, 103614) ?_ ?_
  · have f30 : px_find 30 (px_cd nm_law) = some (3, .if_icmp .gt 1689) := rfl
    have hc : px_cmp .gt (0 + Int32.ofInt 6) (Int32.ofNat 6 - (Int8.ofInt 6).toInt32) = true := by decide +kernel
    simp only [nm_steps, px_step, f30, px_alu, hc]
    rfl
  refine nm_G_steps C0 hK 0 1 _ (1720, [(4, .int (0 + Int32.ofInt 6)), (3, .ref 105), (2, .ref 69), (1, .ref 0), (0, .retAddr 0)], [.int 1], h3, 106, 103614) rfl ?_
  exact nm_G_ret C0 (by decide +kernel) (by decide) (by decide)
set_option maxRecDepth 1000000 in
theorem nm_sp36 (C0 : lw_At p s m meth c b 6 xs) (hK : va_K D nm_cl (px_tys nm_T dA) s) (h1 : xs 1 = 0 ∨ xs 1 = 1) (h2 : xs 2 = 0) : nm_G p l e s m below meth c b D dA (1508, nm_lv, [], nm_H1, 106, 103614) := by
  refine nm_G_steps C0 hK 0 11 _ (1521, nm_lv, [.int (xs 2), .int (xs 1), .ref 0], nm_H1, 106, 103614) rfl ?_
  have two : nm_two 1000 mi_X_old [.ref 0, .int (xs 1), .int 0] mi_M_old [.ref 69, .int (xs 1), .int 0] 1 = true := by
    rcases h1 with h1 | h1 <;> rw [h1]
    · exact nm_old0
    · exact nm_old1
  rw [h2]
  obtain ⟨hp2, hp3, fs, c1, e1, c2⟩ := nm_two_ok two
  refine nm_G_C C0 hK c1 (S' := (1524, nm_lv, [.int 1], hp2, 106, 103614)) (fun call hcl => px_i_virt (T := nm_T) (X := some (6, xs)) (P := nm_P) (M := nm_law) (N0 := 0) (nc := 106) (ns := 103614) (st := [.int 0, .int (xs 1), .ref 0]) (len := 3) (idx := 176) (mi := mi_X_old) (n := 2) (a := 0) (ci := 8) (N := mm_X_old) rfl rfl rfl rfl rfl (Nat.le_of_ble_eq_true rfl) (Nat.le_of_ble_eq_true rfl) rfl rfl hcl (Nat.le_of_ble_eq_true rfl) (Nat.le_of_ble_eq_true rfl)) ?_
  refine nm_G_steps C0 hK 0 11 _ (1537, nm_lv, [.int (xs 2), .int (xs 1), .ref 69, .int 1], hp2, 106, 103614) rfl ?_
  rw [h2]
  refine nm_G_C C0 hK c2 (S' := (1540, nm_lv, [.int 1, .int 1], hp3, 106, 103614)) (fun call hcl => px_i_virt (T := nm_T) (X := some (6, xs)) (P := nm_P) (M := nm_law) (N0 := 0) (nc := 106) (ns := 103614) (st := [.int 0, .int (xs 1), .ref 69, .int 1]) (len := 3) (idx := 179) (mi := mi_M_old) (n := 2) (a := 69) (ci := 9) (N := mm_M_old) rfl rfl rfl e1 rfl (Nat.le_of_ble_eq_true rfl) (Nat.le_of_ble_eq_true rfl) rfl rfl hcl (Nat.le_of_ble_eq_true rfl) (Nat.le_of_ble_eq_true rfl)) ?_
  refine nm_G_steps C0 hK 0 1 _ (1713, nm_lv, [], hp3, 106, 103614) rfl ?_
  exact nm_end1 C0 hK hp3
set_option maxRecDepth 1000000 in
theorem nm_sp37 (C0 : lw_At p s m meth c b 6 xs) (hK : va_K D nm_cl (px_tys nm_T dA) s) : nm_G p l e s m below meth c b D dA (1545, nm_lv, [], nm_H1, 106, 103614) := by
  refine nm_G_steps C0 hK 0 1 _ (1546, nm_lv, [.ref 0], nm_H1, 106, 103614) rfl ?_
  obtain ⟨hp2, hp3, fs, c1, e1, c2⟩ := nm_two_ok nm_sel0
  refine nm_G_C C0 hK c1 (S' := (1549, nm_lv, [.int 0], hp2, 106, 103614)) (fun call hcl => px_i_virt (T := nm_T) (X := some (6, xs)) (P := nm_P) (M := nm_law) (N0 := 0) (nc := 106) (ns := 103614) (st := [.ref 0]) (len := 3) (idx := 180) (mi := mi_X_seldom) (n := 0) (a := 0) (ci := 8) (N := mm_X_seldom) rfl rfl rfl rfl rfl (Nat.le_of_ble_eq_true rfl) (Nat.le_of_ble_eq_true rfl) rfl rfl hcl (Nat.le_of_ble_eq_true rfl) (Nat.le_of_ble_eq_true rfl)) ?_
  refine nm_G_steps C0 hK 0 1 _ (1550, nm_lv, [.ref 69, .int 0], hp2, 106, 103614) rfl ?_
  refine nm_G_C C0 hK c2 (S' := (1553, nm_lv, [.int 0, .int 0], hp3, 106, 103614)) (fun call hcl => px_i_virt (T := nm_T) (X := some (6, xs)) (P := nm_P) (M := nm_law) (N0 := 0) (nc := 106) (ns := 103614) (st := [.ref 69, .int 0]) (len := 3) (idx := 183) (mi := mi_M_seldom) (n := 0) (a := 69) (ci := 9) (N := mm_M_seldom) rfl rfl rfl e1 rfl (Nat.le_of_ble_eq_true rfl) (Nat.le_of_ble_eq_true rfl) rfl rfl hcl (Nat.le_of_ble_eq_true rfl) (Nat.le_of_ble_eq_true rfl)) ?_
  refine nm_G_steps C0 hK 0 1 _ (1713, nm_lv, [], hp3, 106, 103614) rfl ?_
  exact nm_end1 C0 hK hp3
end nm_s5
